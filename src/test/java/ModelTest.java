/** Runs of calls, made by a counted row of numbers, asked of the program and of the model. */
final class ModelTest {
    private static final int RUNS = 800;
    private static final int CALLS = 100;
    private static final String[] NAMES = {"up", "wait", "left", "price", "heard", "sun"};
    private static final String[] PIECES = {"go", "rush", "harm", "or", "and", "not", "up", "wait", "sun", "(", ")",
        ";", "+", "-", "*", "<", "=", "0", "30", "9999", "12345", "00001", "x", "A", "\t", "goo", "\u00ff", "\0"};
    /** Rules by which most days come to something. */
    private static final String[] TAME_GO = {"0", "1", "2 - wait", "wait < 20", "(left < 20) * 5", "sun - 4", "up - 30",
        "heard * 2 - price", "heard - 1", "3 - price", "(up = 7) - 1", "0-price", "up < 20 and wait < 9 or sun = 5"};
    private static final String[] TAME_RUSH = {"0", "0", "1", "wait - 10", "wait < 5", "up - 5", "left < 10", "heard", "price - 2",
        "sun - 3", "-up", "4 * (wait = 6)"};
    private static final String[] TAME_HARM = {"1", "up + 1", "wait", "3 * (up < 4)", "sun + price + heard + left + 2"};
    private static final int[] ODD = {-1, -2, Integer.MIN_VALUE, Integer.MAX_VALUE, 1 << 30, 41, 121, 1000000};

    private static long seed = 1;
    private static LastCar x;
    private static Model y;
    private static String at;
    private static final int[] sheetSorts = new int[4];

    public static void main(String[] args) {
        for (int run = 0; run < RUNS; run++) {
            x = new LastCar();
            y = new Model();
            begin(run, run % 40 == 0);
            for (int call = 0; call < CALLS; call++) {
                at = "run " + run + " call " + call + ": ";
                oneCall(run % 40 == 0);
            }
        }
        Due.end("ModelTest");
    }

    private static int any(int n) {
        seed = seed * 6364136223846793005L + 1442695040888963407L;
        return (int) ((seed >>> 33) % n);
    }

    /** A number from least to most, now and then one just outside or far from there. */
    private static int about(int least, int most) {
        int die = any(40);
        if (die == 0) return ODD[any(ODD.length)];
        if (die == 1) return most + 1;
        if (die == 2) return least - 1;
        return least + any(most - least + 1);
    }

    private static void due(String call, long got, long want) {
        Due.be(at + call, got, want);
    }

    private static void begin(int run, boolean big) {
        at = "run " + run + " at first: ";
        if (!big) set(5, 0, any(5) == 0 ? 1 + any(50) : 20 + any(30));
        for (int k = any(7); k > 0; k--) people(big);
        for (int k = any(4); k > 0; k--) car();
        for (int k = any(6); k > 0; k--) way();
        for (int k = 0; k < 4; k++) if (any(3) != 0) sheet(k, any(3), any(41));
        for (int k = any(3); k > 0; k--) text(source());
        if (any(3) != 0) text(tame());
    }

    private static void oneCall(boolean big) {
        switch (any(16)) {
            case 0: people(big); break;
            case 1: if (any(2) == 0) car(); else way(); break;
            case 2: setAny(big); break;
            case 3: if (any(3) == 0) shutOrImage(); break;
            case 4: if (any(3) == 0) text(any(3) == 0 ? source() : tame()); break;
            case 5: feed(); break;
            case 6: case 7: host(); break;
            case 8: if (any(big ? 20 : 2) == 0) search(); break;
            case 9: small(); break;
            default: days(); break;
        }
    }

    private static void people(boolean big) {
        int up = about(0, big ? 400 : 40);
        int slow = any(3) == 0 ? 60 : any(3) == 0 ? about(1, 61) : 1 + any(20);
        int rest = any(30) == 0 ? about(0, 50000) : 1000 * any(any(3) == 0 ? 42 : 6) + 10 * slow + any(10);
        due("people(" + up + ", " + rest + ")", x.people(up, rest), y.people(up, rest));
    }

    private static void car() {
        int room = about(1, any(2) == 0 ? 60 : 8);
        int every = any(4) == 0 ? about(1, 30) : 1 + any(6);
        int first = any(5) == 0 ? about(0, 119) : any(15);
        due("car(" + room + ", " + every + ", " + first + ")", x.car(room, every, first), y.car(room, every, first));
    }

    private static void way() {
        int kind = about(0, 5);
        int from = any(3) == 0 ? about(0, 119) : any(30);
        int number = about(0, 9);
        due("way(" + kind + ", " + from + ", " + number + ")", x.way(kind, from, number), y.way(kind, from, number));
    }

    private static void setAny(boolean big) {
        int what = any(3) == 0 ? about(0, 5) : any(5);
        int[] most = {big ? 400 : 40, 40, 60, 9, 9, big ? 120 : 50};
        int of = about(0, what == 4 ? 119 : 5);
        set(what, of, about(0, what >= 0 && what <= 5 ? most[what] : 9));
    }

    private static void set(int what, int of, int v) {
        due("set(" + what + ", " + of + ", " + v + ")", x.set(what, of, v), y.set(what, of, v));
    }

    private static void shutOrImage() {
        int from = about(-1, 60);
        int to = any(9) == 0 ? about(-1, 119) : from == Integer.MAX_VALUE ? from : from + any(10);
        switch (any(8)) {
            case 0: due("image()", x.image(), y.image()); break;
            case 1: due("back()", x.back(), y.back()); break;
            case 2: case 3: case 4: due("shut(-1, " + to + ")", x.shut(-1, to), y.shut(-1, to)); break;
            default: due("shut(" + from + ", " + to + ")", x.shut(from, to), y.shut(from, to)); break;
        }
    }

    // ---- texts

    private static String one(int depth) {
        int die = any(depth > 0 ? 8 : 5);
        if (die < 3) return NAMES[any(6)];
        if (die < 5) return "" + any(any(3) != 0 ? 10 : any(2) == 0 ? 100 : 10000);
        if (die == 5) return "-" + blank() + one(depth - 1);
        return "(" + blank() + e(depth - 1) + blank() + ")";
    }

    private static String chain(String part, String sign, int depth, int level) {
        return part + blank() + sign + " " + level(depth, level);
    }

    private static String e(int depth) {
        return level(depth, any(3) == 0 ? 5 : 3 + any(2));
    }

    /** 0 a ONE, 1 a TERM, 2 a SUM, 3 a NOT, 4 an AND, 5 an E. */
    private static String level(int depth, int level) {
        if (level == 0) return one(depth);
        String part = level(depth, level - 1);
        if (any(3) != 0) return part;
        switch (level) {
            case 1: return chain(part, "*", depth, 0);
            case 2: return chain(part, any(2) == 0 ? "+" : "-", depth, 1);
            case 3: return any(3) == 0 && depth > 0 ? "not " + level(depth - 1, 3)
                : chain(part, any(2) == 0 ? "<" : "=", depth, 2);
            case 4: return chain(part, " and", depth, 3);
            default: return chain(part, " or", depth, 4);
        }
    }

    private static String blank() {
        int die = any(6);
        return die == 0 ? " " : die == 1 ? "\n" : die == 2 ? "  " : "";
    }

    private static String source() {
        String rush = any(2) == 0 ? "" + any(9) : e(3);
        String text = blank() + "go " + e(4) + blank() + ";" + blank() + "rush " + rush + blank() + ";" + blank()
            + "harm " + e(3) + ";" + blank();
        if (any(3) != 0) return text;
        int cut = any(text.length());
        int most = text.length() - cut;
        switch (any(4)) {
            case 0: return text.substring(0, cut);
            case 1: return text.substring(0, cut) + PIECES[any(PIECES.length)] + text.substring(cut);
            case 2: return text.substring(0, cut) + text.substring(cut + any(Math.min(most, 4)));
            default: return text + PIECES[any(PIECES.length)];
        }
    }

    private static String tame() {
        return "go " + TAME_GO[any(TAME_GO.length)] + ";rush " + TAME_RUSH[any(TAME_RUSH.length)] + ";harm "
            + TAME_HARM[any(TAME_HARM.length)] + ";";
    }

    private static void text(String source) {
        String text = source.substring(0, Math.min(source.length(), 160 - x.count(5)));
        for (int i = 0; i < text.length(); i += 8) {
            int n = Math.min(8, text.length() - i);
            long bytes = Due.bytes(text, i, n);
            due("feed(" + n + ", " + bytes + ")", x.feed(n, bytes), y.feed(n, bytes));
        }
        int got = x.text();
        due("text() behind feeding [" + text + "]", got, y.text());
        if (got > 0) due("force(" + got + ")", x.force(got), y.force(got));
    }

    private static void feed() {
        int n = about(1, 8);
        long bytes = any(2) == 0 ? 0x2020202020202020L : (long) any(1 << 30) << 33 ^ any(1 << 30);
        due("feed(" + n + ", " + bytes + ")", x.feed(n, bytes), y.feed(n, bytes));
        if (any(3) == 0) due("text()", x.text(), y.text());
    }

    // ---- what is asked

    private static void small() {
        int way = about(0, 4);
        int v = about(0, 7);
        int minute = about(0, 119);
        switch (any(7)) {
            case 0: due("count(" + v + ")", x.count(v), y.count(v)); break;
            case 1: due("must()", x.must(), y.must()); break;
            case 2: due("latestUp(" + v + ")", x.latestUp(v), y.latestUp(v)); break;
            case 3: due("taken(" + way + ", " + v + ")", x.taken(way, v), y.taken(way, v)); break;
            case 4: due("force(" + v + ")", x.force(v), y.force(v)); break;
            default: due("told(" + way + ", " + minute + ", " + v + ")", x.told(way, minute, v), y.told(way, minute, v));
        }
    }

    private static void days() {
        int way = any(30) == 0 ? about(0, 8) : any(Math.max(1, x.count(2)));
        int sort = about(-1, 5);
        int car = about(-1, 3);
        int minute = any(10) == 0 ? about(0, 119) : about(0, x.count(3) - 1);
        int many = any(10) == 0 ? about(0, 2400) : any(x.count(7) + 2);
        switch (any(7)) {
            case 0: due("left(" + way + ", " + sort + ")", x.left(way, sort), y.left(way, sort)); break;
            case 1: due("harm(" + way + ")", x.harm(way), y.harm(way)); break;
            case 2: due("rode(" + way + ", " + car + ")", x.rode(way, car), y.rode(way, car)); break;
            case 3: due("waits(" + way + ", " + many + ")", x.waits(way, many), y.waits(way, many)); break;
            case 4: due("waits(" + way + ", 1)", x.waits(way, 1), y.waits(way, 1)); break;
            case 5: due("behind(" + way + ", " + many + ")", x.behind(way, many), y.behind(way, many)); break;
            default: due("down(" + way + ", " + sort + ", " + minute + ")", x.down(way, sort, minute),
                y.down(way, sort, minute));
        }
    }

    private static void search() {
        int way = any(30) == 0 ? about(0, 8) : any(Math.max(1, x.count(2)));
        int most = any(10) == 0 ? about(0, 2400) : Math.max(0, x.left(way, -1) - any(20));
        int sheet = about(0, 3);
        int what = about(0, 1);
        switch (any(4)) {
            case 0: due("latest(" + way + ", " + most + ")", x.latest(way, most), y.latest(way, most)); break;
            case 1: due("more(" + way + ", " + most + ")", x.more(way, most), y.more(way, most)); break;
            case 2: due("choose(" + what + ")", x.choose(what), y.choose(what)); break;
            default: due("judge(" + sheet + ")", x.judge(sheet), y.judge(sheet)); break;
        }
    }

    private static void host() {
        int sheet = about(0, 3);
        int other = about(0, 3);
        int i = about(0, 39);
        int n = about(0, 8);
        int v = any(8) == 0 ? about(-70000, 70000) : about(0, any(2) == 0 ? 9 : 99);
        int sort = any(2) == 0 && sheet >= 0 && sheet < 4 ? sheetSorts[sheet] : about(-1, 2);
        switch (any(7)) {
            case 0: if (any(3) == 0) sheet(sheet, sort, i); break;
            case 1: due("copy(" + sheet + ", " + i / 4 + ", " + other + ", " + n + ", " + n + ")",
                x.copy(sheet, i / 4, other, n, n), y.copy(sheet, i / 4, other, n, n)); break;
            case 2: due("sorts(" + sheet + ", " + sort + ", " + i / 4 + ", " + n + ")", x.sorts(sheet, sort, i / 4, n),
                y.sorts(sheet, sort, i / 4, n)); break;
            case 3: due("judge(" + sheet + ")", x.judge(sheet), y.judge(sheet)); break;
            default: cell(sheet, i, v); break;
        }
    }

    private static void sheet(int sheet, int sort, int n) {
        int got = x.sheet(sheet, sort, n);
        due("sheet(" + sheet + ", " + sort + ", " + n + ")", got, y.sheet(sheet, sort, n));
        if (got == 1) sheetSorts[sheet] = sort;
        for (int i = any(3) == 0 ? 40 : 0; i < 20; i++) cell(sheet, i, any(any(4) == 0 ? 1200 : 30));
    }

    private static void cell(int sheet, int i, int v) {
        due("cell(" + sheet + ", " + i + ", " + v + ")", x.cell(sheet, i, v), y.cell(sheet, i, v));
    }
}
