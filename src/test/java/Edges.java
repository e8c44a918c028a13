/** What the tests of the sentences share. */
abstract class Edges {
    static final int NONE = -1, BAD = -2, STATE = -3, FULL = -4, NOTHING = -11, OUTSIDE = -12, UNLIKE = -13, BELOW_ZERO = -14;
    static final long NO = -4611686018427387904L;
    static final int MIN = Integer.MIN_VALUE, MAX = Integer.MAX_VALUE;
    /** Signs of a number that wraps: the least int there is, and the greatest. */
    static final String LEAST_INT = "(8192*8192*8*4)", GREATEST_INT = "(8192*8192*8*4-1)";
    static final String TERMS_1 = "Terms 1", TERMS_2 = "Terms 2", TERMS_3 = "Terms 3";

    static void says(String place, String words) {
        Sentences.says(place, words);
    }

    static Asked fresh() {
        return new Asked();
    }

    /** Something of all that there is, so that it would be seen if a refused call changed it. */
    static Asked world() {
        Asked x = new Asked();
        x.ask("people", 40, 3105);
        x.ask("people", 30, 209);
        x.ask("car", 6, 4, 2);
        x.ask("car", 3, 7, 0);
        x.ask("way", 0, 0, 7);
        x.ask("way", 1, 8, 5);
        x.ask("way", 5, 3, 2);
        x.rule("heard - 1", "wait < 3", "up + 2");
        x.ask("set", 4, 6, 9);
        x.ask("shut", 20, 22);
        x.ask("image");
        x.ask("set", 0, 0, 50);
        x.ask("set", 5, 0, 60);
        x.ask("set", 4, 7, 0);
        x.ask("shut", 30, 33);
        x.ask("force", 0);
        x.ask("people", 20, 10600);
        row(x, 0, 0, 7, 20, 99);
        row(x, 1, 1, 11, 10, 12, 2059);
        row(x, 2, 2, 300, 3105, 4, 10);
        x.feed("go up -");
        return x;
    }

    /** As much of all as there is room for; THE TAPE holds no TEXT. */
    static Asked full() {
        Asked x = new Asked();
        for (int sort = 0; sort < 6; sort++) x.ask("people", 20 + sort, 1000 * sort + 105);
        for (int car = 0; car < 4; car++) x.ask("car", 3 + car, 5 + car, car);
        for (int way = 0; way < 8; way++) x.ask("way", way % 6, 4 * way, way);
        for (int text = 1; text < 6; text++) {
            x.feed("go " + text + ";rush 0;harm 1;");
            x.ask("text");
        }
        for (int k = 0; k < 20; k++) x.ask("feed", 8, 0x3f3f3f3f3f3f3f3fL);
        row(x, 0, 0, 1, 10, 5);
        row(x, 1, 2, 2, 20, 6);
        return x;
    }

    static void row(Asked x, int sheet, int sort, long... cells) {
        x.ask("sheet", sheet, sort, cells.length);
        for (int i = 0; i < cells.length; i++) x.ask("cell", sheet, i, cells[i]);
    }

    /** People of one SORT, a WAY that neither calls nor asks more, and a rule. */
    static Asked hill(int up, int rest, String go, String rush, String harm) {
        Asked x = new Asked();
        x.ask("people", up, rest);
        x.ask("way", 0, 0, 0);
        return x.rule(go, rush, harm);
    }
}
