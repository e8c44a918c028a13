import java.util.List;

/** The boundary cases of promises 11 to 25. */
final class AskEdges extends Edges {
    private static final long[] NO_WAYS = {-1, 3, 8, MIN, MAX};
    private static final long[] NO_SORTS = {-2, 3, 6, MIN, MAX};
    private static final long[] NO_MANY = {-1, 2401, MIN, MAX};

    private AskEdges() {
    }

    static void all() {
        left();
        leftRefused();
        harm();
        harmRefused();
        rode();
        rodeRefused();
        waits();
        waitsRefused();
        down();
        downRefused();
        behind();
        behindRefused();
        latest();
        latestRefused();
        more();
        moreRefused();
        choose();
        chooseRefused();
        must();
        latestUp();
        latestUpRefused();
        judge();
        judgeRefused();
        image();
        back();
        backRefused();
        count();
        countRefused();
    }

    /** Six SORTS of one to six who all wait in MINUTE 0 and ride as a car of 60 goes in MINUTE 10. */
    private static Asked sixSorts() {
        Asked x = fresh();
        for (int sort = 0; sort < 6; sort++) x.ask("people", sort + 1, 10);
        x.ask("way", 0, 0, 0);
        return x.rule("0", "0", "1");
    }

    private static void left() {
        says("Promise 11", "LEFT of a SORT, of all (NONE).");
        Asked x = sixSorts();
        for (int sort = 0; sort < 6; sort++) x.due(sort + 1, "left", 0, sort);
        x.due(21, "left", 0, NONE);
        x.ask("car", 2, 30, 0);
        x.ask("set", 5, 0, 1);
        int[] left = {0, 1, 3, 4, 5, 6};
        for (int sort = 0; sort < 6; sort++) x.due(left[sort], "left", 0, sort);
        x.due(19, "left", 0, NONE);
        Asked nobody = fresh();
        nobody.ask("way", 0, 0, 0);
        nobody.due(0, "left", 0, NONE);
        nobody.refused(BAD, "left", 0, 0);
    }

    private static void leftRefused() {
        says("Promise 11", "BAD.");
        Asked x = world();
        for (long way : NO_WAYS) x.refusedEach(BAD, "left", new long[][] {{way, 0}, {way, NONE}});
        for (long sort : NO_SORTS) x.refused(BAD, "left", 0, sort);
    }

    private static void harm() {
        says("Promise 12", "HARM.");
        Asked x = full();
        for (int way = 0; way < 8; way++) x.due(x.ask("left", way, NONE), "harm", way);
        Asked most = sixSorts();
        for (int sort = 0; sort < 6; sort++) most.ask("set", 0, sort, 400);
        most.rule("0", "0", "9999");
        most.due(237600, "harm", 0);
        most.rule("0", "0", "-1");
        most.due(0, "harm", 0);
    }

    private static void harmRefused() {
        says("Promise 12", "NO: no such WAY.");
        Asked x = world();
        for (long way : NO_WAYS) x.refused(NO, "harm", way);
        fresh().refused(NO, "harm", 0);
        full().refused(NO, "harm", 8);
    }

    private static void rode() {
        says("Promise 13", "RODE of a car, of all (NONE).");
        Asked x = sixSorts();
        x.due(0, "rode", 0, NONE);
        for (int car = 0; car < 4; car++) x.ask("car", 6, 30, 0);
        x.ask("set", 5, 0, 1);
        int[] rode = {6, 6, 6, 3};
        for (int car = 0; car < 4; car++) x.due(rode[car], "rode", 0, car);
        x.due(21, "rode", 0, NONE);
    }

    private static void rodeRefused() {
        says("Promise 13", "BAD.");
        Asked x = world();
        for (long way : NO_WAYS) x.refusedEach(BAD, "rode", new long[][] {{way, 0}, {way, NONE}});
        long[] noCars = {-2, 2, 4, MIN, MAX};
        for (long car : noCars) x.refused(BAD, "rode", 0, car);
        full().refused(BAD, "rode", 0, 4);
    }

    private static void waits() {
        says("Promise 14", "WAITS: how many (what 0), the MINUTE (1).");
        Asked x = sixSorts();
        x.due(21, "waits", 0, 0);
        x.due(0, "waits", 0, 1);
        for (int sort = 0; sort < 6; sort++) x.ask("set", 1, sort, 40);
        x.due(21, "waits", 0, 0);
        x.due(40, "waits", 0, 1);
        x.ask("set", 5, 0, 41);
        x.due(40, "waits", 0, 1);
        x.ask("set", 5, 0, 40);
        x.due(0, "waits", 0, 0);
        x.due(0, "waits", 0, 1);
    }

    private static void waitsRefused() {
        says("Promise 14", "BAD.");
        Asked x = world();
        for (long way : NO_WAYS) x.refusedEach(BAD, "waits", new long[][] {{way, 0}, {way, 1}});
        x.refusedEach(BAD, "waits", new long[][] {{0, -1}, {0, 2}, {0, MIN}, {0, MAX}});
    }

    private static void down() {
        says("Promise 15", "DOWN of a SORT (NONE: of all) behind a MINUTE of the day.");
        Asked x = sixSorts();
        x.ask("car", 21, 30, 10);
        int[] minutes = {0, 9, 10, 11, 89};
        for (int m : minutes) {
            for (int sort = 0; sort < 6; sort++) x.due(m < 10 ? 0 : sort + 1, "down", 0, sort, m);
            x.due(m < 10 ? 0 : 21, "down", 0, NONE, m);
        }
        int[] ends = {1, 10, 11, 120};
        for (int end : ends) {
            x.ask("set", 5, 0, end);
            x.due(end < 11 ? 0 : 21, "down", 0, NONE, end - 1);
            x.refused(BAD, "down", 0, NONE, end);
        }
    }

    private static void downRefused() {
        says("Promise 15", "BAD.");
        Asked x = world();
        for (long way : NO_WAYS) x.refused(BAD, "down", way, 0, 0);
        for (long sort : NO_SORTS) x.refused(BAD, "down", 0, sort, 0);
        long[] noMinutes = {-1, 60, 119, 120, MIN, MAX};
        for (long minute : noMinutes) x.refusedEach(BAD, "down", new long[][] {{0, 0, minute}, {0, NONE, minute}});
    }

    private static void behind() {
        says("Promise 16", "BEHIND.");
        Asked x = sixSorts();
        x.due(0, "behind", 0, 0);
        x.due(NONE, "behind", 0, 1);
        x.ask("car", 20, 10, 5);
        int[] many = {0, 1, 20, 21};
        int[] behind = {0, 5, 5, 15};
        for (int i = 0; i < many.length; i++) x.due(behind[i], "behind", 0, many[i]);
        x.ask("set", 5, 0, 16);
        x.due(15, "behind", 0, 21);
        x.ask("set", 5, 0, 15);
        x.due(NONE, "behind", 0, 21);
    }

    private static void behindRefused() {
        says("Promise 16", "BAD (many 0 .. 2400); NONE.");
        Asked x = world();
        for (long way : NO_WAYS) x.refused(BAD, "behind", way, 0);
        for (long many : NO_MANY) x.refused(BAD, "behind", 0, many);
        x.due(0, "behind", 0, 0);
        x.due(NONE, "behind", 0, 2400);
        x.due(NONE, "behind", 0, 101);
    }

    private static void latest() {
        says("Promise 17", "LATEST (most 0 .. 2400).");
        Asked x = fresh();
        x.ask("people", 1, 605);
        x.ask("car", 1, 1, 0);
        x.ask("way", 1, 119, 2);
        x.rule("heard", "0", "1");
        x.due(89, "latest", 0, 0);
        x.due(89, "latest", 0, 2400);
        x.ask("shut", 50, 119);
        x.due(49, "latest", 0, 0);
        x.ask("shut", 1, 119);
        x.due(0, "latest", 0, 0);
        x.ask("shut", 0, 119);
        x.due(NONE, "latest", 0, 0);
        x.due(89, "latest", 0, 1);
        x.due(119, "told", 0, 0, 1);
    }

    private static void latestRefused() {
        says("Promise 17", "BAD; NONE.");
        Asked x = world();
        for (long way : NO_WAYS) x.refused(BAD, "latest", way, 0);
        for (long most : NO_MANY) x.refused(BAD, "latest", 0, most);
        x.due(NONE, "latest", 0, 0);
        x.due(59, "latest", 0, 100);
        x.due(59, "latest", 0, 2400);
    }

    private static void more() {
        says("Promise 18", "CARS MORE.");
        Asked x = sixSorts();
        x.ask("car", 1, 30, 0);
        x.ask("set", 5, 0, 1);
        int[] most = {21, 20, 19, 1, 0};
        int[] more = {0, 0, 1, 19, 20};
        for (int i = 0; i < most.length; i++) x.due(more[i], "more", 0, most[i]);
        x.ask("set", 0, 0, 2);
        x.due(20, "more", 0, 1);
        x.due(NONE, "more", 0, 0);
        for (int car = 1; car < 4; car++) x.ask("car", 1, 30, 0);
        x.due(18, "more", 0, 0);
        x.due(0, "more", 0, 2400);
        x.due(4, "count", 1);
        x.due(18, "left", 0, NONE);
    }

    private static void moreRefused() {
        says("Promise 18", "BAD (no CAR, too); NONE.");
        Asked x = world();
        for (long way : NO_WAYS) x.refused(BAD, "more", way, 0);
        for (long most : NO_MANY) x.refused(BAD, "more", 0, most);
        x.due(NONE, "more", 0, 0);
        Asked noCar = sixSorts();
        noCar.refusedEach(BAD, "more", new long[][] {{0, 0}, {0, 21}, {0, 2400}});
        noCar.ask("car", 1, 1, 0);
        noCar.due(0, "more", 0, 21);
    }

    private static void choose() {
        says("Promise 19", "CHOOSE: the WAY (what 0), its HARM (1).");
        Asked x = sixSorts();
        x.due(0, "choose", 0);
        x.due(21, "choose", 1);
        for (int way = 1; way < 8; way++) x.ask("way", 0, 0, 0);
        x.due(0, "choose", 0);
        Asked y = fresh();
        y.ask("people", 9, 609);
        for (int way = 0; way < 8; way++) y.ask("way", way < 7 ? 0 : 1, 0, 9);
        y.ask("car", 60, 1, 0);
        y.rule("heard", "0", "99");
        y.due(7, "choose", 0);
        y.due(0, "choose", 1);
        y.ask("shut", 0, 119);
        y.due(0, "choose", 0);
        y.due(891, "choose", 1);
    }

    private static void chooseRefused() {
        says("Promise 19", "NO: what; no WAYS.");
        Asked x = world();
        x.refusedEach(NO, "choose", new long[][] {{-1}, {2}, {MIN}, {MAX}});
        Asked none = fresh();
        none.refusedEach(NO, "choose", new long[][] {{0}, {1}, {2}});
        none.ask("way", 0, 0, 0);
        none.due(0, "choose", 0);
        none.due(0, "choose", 1);
    }

    private static void must() {
        says("Promise 20", "MUST.");
        Asked x = sixSorts();
        x.due(-21, "must");
        x.ask("car", 21, 30, 89);
        x.due(0, "must");
        x.ask("set", 5, 0, 89);
        x.due(-21, "must");
        x.ask("set", 5, 0, 120);
        x.due(21, "must");
        x.ask("shut", 119, 119);
        x.due(0, "must");
        x.due(0, "left", 0, NONE);
        x.due(0, "must");
    }

    private static void latestUp() {
        says("Promise 21", "NOBODY UP FROM.");
        Asked x = sixSorts();
        x.ask("car", 1, 30, 29);
        int[] fars = {0, 1, 29, 40, 30, 2};
        for (int sort = 0; sort < 6; sort++) {
            x.ask("set", 1, sort, fars[sort]);
            x.due(89 - fars[sort], "latestUp", sort);
        }
        x.ask("set", 5, 0, 30);
        int[] due = {29, 28, 0, -1, -1, 27};
        for (int sort = 0; sort < 6; sort++) x.due(due[sort], "latestUp", sort);
    }

    private static void latestUpRefused() {
        says("Promise 21", "BAD; NONE.");
        Asked x = world();
        long[] noSorts = {-1, 3, 6, MIN, MAX};
        for (long sort : noSorts) x.refused(BAD, "latestUp", sort);
        fresh().refused(BAD, "latestUp", 0);
        Asked noCars = sixSorts();
        for (int sort = 0; sort < 6; sort++) noCars.due(NONE, "latestUp", sort);
        noCars.refused(BAD, "latestUp", 6);
        noCars.ask("car", 1, 1, 119);
        noCars.due(NONE, "latestUp", 5);
        noCars.ask("set", 5, 0, 120);
        noCars.due(119, "latestUp", 5);
    }

    private static void judge() {
        says("Promise 22", "LEFT by TOLD calls.");
        Asked x = fresh();
        x.ask("people", 100, 604);
        x.ask("car", 60, 1, 0);
        x.rule("heard - 1", "0", "1");
        x.ask("set", 5, 0, 40);
        long[] calls = new long[40];
        for (int sort = 0; sort < 3; sort++) {
            calls[39] = 0;
            row(x, sort, sort, calls);
            x.due(100, "judge", sort);
            x.ask("cell", sort, 39, 99);
            x.due(61, "judge", sort);
            x.ask("cell", sort, 39, 3);
            x.due(99, "judge", sort);
            x.ask("cell", sort, 39, 2);
            x.due(100, "judge", sort);
            x.ask("sheet", sort, sort, 0);
            x.due(100, "judge", sort);
        }
        Asked nobody = fresh();
        row(nobody, 3, 0);
        nobody.due(0, "judge", 3);
    }

    private static void judgeRefused() {
        says("Promise 22", "BAD: SHEET; -11; BAD: a number (0 .. 99).");
        Asked x = world();
        x.refusedEach(BAD, "judge", new long[][] {{-1}, {4}, {MIN}, {MAX}});
        x.refused(NOTHING, "judge", 3);
        x.refused(BAD, "judge", 1);
        x.refused(BAD, "judge", 2);
        for (int sort = 0; sort < 3; sort++) {
            Asked y = fresh();
            row(y, 0, sort, 0, 99);
            y.due(0, "judge", 0);
            y.ask("cell", 0, 1, 100);
            y.refused(BAD, "judge", 0);
            y.ask("cell", 0, 1, -1);
            y.refused(BAD, "judge", 0);
            y.ask("cell", 0, 1, 99);
            y.ask("cell", 0, 0, 127);
            y.refused(BAD, "judge", 0);
            y.ask("cell", 0, 0, 256 * 256 + 99);
            if (sort < 2) y.due(0, "judge", 0);
            else y.refused(BAD, "judge", 0);
        }
    }

    private static void image() {
        says("Promise 23", "AN IMAGE is kept: how many SORTS.");
        Asked x = fresh();
        x.due(0, "image");
        for (int sort = 0; sort < 6; sort++) {
            x.ask("people", sort, 10);
            x.due(sort + 1, "image");
            x.ask("set", 0, sort, 9);
            x.due(sort + 1, "back");
        }
        x.due(15, "count", 7);
        x.ask("set", 5, 0, 1);
        x.due(6, "image");
        x.ask("set", 5, 0, 120);
        x.due(6, "back");
        x.due(1, "count", 3);
    }

    private static void back() {
        says("Promise 24", "All that it keeps is as in THE IMAGE: how many SORTS.");
        Asked x = fresh();
        x.ask("image");
        x.due(0, "back");
        x.ask("people", 3, 10);
        x.due(1, "back");
        x.ask("image");
        for (int sort = 1; sort < 6; sort++) x.ask("people", 3, 10);
        x.ask("set", 0, 0, 4);
        x.ask("set", 0, 5, 4);
        x.due(6, "back");
        x.due(3, "set", 0, 0, 5);
        x.due(4, "set", 0, 5, 5);
        x.due(6, "back");
        x.due(3, "set", 0, 0, 3);
        x.due(5, "set", 0, 5, 3);
        Asked same = world();
        same.ask("back");
        List<Long> ahead = same.seen();
        same.due(3, "back");
        same.sameAs(ahead, "back() once more");
        same.due(3, "image");
        same.due(3, "back");
    }

    private static void backRefused() {
        says("Promise 24", "STATE: there is none.");
        fresh().refused(STATE, "back");
        Asked x = full();
        x.refused(STATE, "back");
        x.due(6, "image");
        x.due(6, "back");
    }

    private static void count() {
        says("Promise 25", "How many: 0 SORTS, 1 CARS, 2 WAYS, 3 END, 4 TEXTS, 5 bytes of THE TAPE, 6 THE RULE, 7 all UP.");
        int[] none = {0, 0, 0, 90, 1, 0, 0, 0};
        Asked x = fresh();
        for (int what = 0; what < 8; what++) x.due(none[what], "count", what);
        int[] most = {6, 4, 8, 120, 6, 160, 5, 2400};
        Asked y = full();
        for (int sort = 0; sort < 6; sort++) y.ask("set", 0, sort, 400);
        y.ask("set", 5, 0, 120);
        y.ask("force", 5);
        for (int what = 0; what < 8; what++) y.due(most[what], "count", what);
    }

    private static void countRefused() {
        says("Promise 25", "BAD.");
        Asked x = world();
        x.refusedEach(BAD, "count", new long[][] {{-1}, {8}, {MIN}, {MAX}});
    }
}
