import java.util.List;

/** The boundary cases of promises 1 to 10. */
final class PeopleEdges extends Edges {
    private PeopleEdges() {
    }

    static void all() {
        newObject();
        people();
        peopleRefused();
        car();
        carRefused();
        way();
        wayRefused();
        set();
        setRefused();
        shut();
        shutRefused();
        told();
        toldRefused();
        feed();
        feedRefused();
        feedFull();
        text();
        textFault();
        textFull();
        force();
        forceRefused();
    }

    private static void newObject() {
        says("Promise 1", "Nobody UP, no CARS, no WAYS.");
        Asked x = fresh();
        int[] counts = {0, 0, 0, 90, 1, 0, 0, 0};
        for (int what = 0; what < 8; what++) x.due(counts[what], "count", what);
        x.due(0, "must");
        x.refused(BAD, "latestUp", 0);
        x.refused(BAD, "left", 0, NONE);
        x.refused(BAD, "told", 0, 0, 0);
        x.refused(STATE, "back");
        x.ask("way", 0, 0, 0);
        x.due(0, "left", 0, NONE);
        x.refused(BAD, "left", 0, 0);
        x.refused(BAD, "rode", 0, 0);
    }

    private static void people() {
        says("Promise 2", "A SORT (rest: 1000 times FAR, 10 times SLOW, and HEARS): its number.");
        long[][] sorts = {{0, 10}, {400, 40609}, {1, 1609}, {7, 12345}, {8, 19}, {9, 20}};
        int[][] are = {{0, 0, 1, 0}, {400, 40, 60, 9}, {1, 1, 60, 9}, {7, 12, 34, 5}, {8, 0, 1, 9}, {9, 0, 2, 0}};
        Asked x = fresh();
        for (int sort = 0; sort < 6; sort++) x.due(sort, "people", sorts[sort]);
        for (int sort = 0; sort < 6; sort++) {
            for (int what = 0; what < 4; what++) x.due(are[sort][what], "set", what, sort, 1);
        }
    }

    private static void peopleRefused() {
        says("Promise 2", "BAD; FULL.");
        Asked x = fresh();
        x.refusedEach(BAD, "people", new long[][] {{-1, 10}, {401, 10}, {MIN, 10}, {MAX, 10}, {5, 0}, {5, 9}, {5, 610}, {5, 999}, {5, 1000},
            {5, 40610}, {5, 41010}, {5, 41000}, {5, -1}, {5, -10}, {5, -1010}, {5, MIN}, {5, MAX}});
        x.due(0, "people", 5, 10);
        for (int sort = 1; sort < 6; sort++) x.due(sort, "people", 5, 10);
        x.refusedEach(FULL, "people", new long[][] {{5, 10}, {0, 10}, {400, 40609}});
        x.refusedEach(BAD, "people", new long[][] {{401, 10}, {5, 0}});
    }

    private static void car() {
        says("Promise 3", "A CAR: its number.");
        Asked x = fresh();
        x.ask("set", 5, 0, 120);
        x.due(0, "car", 1, 1, 0);
        x.due(120, "must");
        x.due(1, "car", 60, 30, 119);
        x.due(180, "must");
        x.due(2, "car", 1, 30, 0);
        x.due(184, "must");
        x.due(3, "car", 60, 1, 119);
        x.due(244, "must");
    }

    private static void carRefused() {
        says("Promise 3", "BAD; FULL.");
        Asked x = world();
        long[][] bad = {{0, 1, 0}, {61, 1, 0}, {1, 0, 0}, {1, 31, 0}, {1, 1, -1}, {1, 1, 120}, {-1, 1, 0}, {MIN, 1, 0}, {MAX, 1, 0}, {1, MIN, 0},
            {1, MAX, 0}, {1, 1, MIN}, {1, 1, MAX}};
        x.refusedEach(BAD, "car", bad);
        x.due(2, "car", 1, 1, 0);
        x.due(3, "car", 1, 1, 0);
        x.refusedEach(FULL, "car", new long[][] {{1, 1, 0}, {60, 30, 119}});
        x.refusedEach(BAD, "car", new long[][] {{0, 1, 0}, {1, 31, 0}, {1, 1, 120}});
    }

    private static void way() {
        says("Promise 4", "A WAY: its number.");
        Asked x = fresh();
        long[][] ways = {{0, 0, 0}, {5, 119, 9}, {1, 119, 0}, {2, 0, 9}, {3, 1, 1}, {4, 118, 8}, {5, 0, 0}, {0, 119, 9}};
        for (int way = 0; way < 8; way++) x.due(way, "way", ways[way]);
        for (int way = 0; way < 8; way++) {
            for (int what = 0; what < 3; what++) x.due(ways[way][what], "told", way, 60, what);
        }
    }

    private static void wayRefused() {
        says("Promise 4", "BAD; FULL.");
        Asked x = world();
        long[][] bad = {{-1, 0, 0}, {6, 0, 0}, {0, -1, 0}, {0, 120, 0}, {0, 0, -1}, {0, 0, 10}, {MIN, 0, 0}, {MAX, 0, 0}, {0, MIN, 0}, {0, MAX, 0},
            {0, 0, MIN}, {0, 0, MAX}};
        x.refusedEach(BAD, "way", bad);
        for (int way = 3; way < 8; way++) x.due(way, "way", 0, 0, 0);
        x.refusedEach(FULL, "way", new long[][] {{0, 0, 0}, {5, 119, 9}});
        x.refusedEach(BAD, "way", new long[][] {{6, 0, 0}, {0, 120, 0}, {0, 0, 10}});
    }

    private static void set() {
        says("Promise 5", "UP (what 0), FAR (1), SLOW (2), HEARS (3) of a SORT, SUN (4) of a MINUTE, END (5; of does not matter) become v:"
            + " what it was.");
        Asked x = world();
        long[][] calls = {{0, 0, 400, 50}, {0, 0, 0, 400}, {0, 2, 400, 20}, {1, 0, 40, 3}, {1, 0, 0, 40}, {1, 2, 40, 10}, {2, 0, 60, 10}, {2, 0, 1, 60},
            {2, 2, 1, 60}, {3, 0, 9, 5}, {3, 0, 0, 9}, {3, 2, 9, 0}, {4, 0, 9, 5}, {4, 0, 0, 9}, {4, 119, 9, 5}, {4, 6, 0, 9}, {4, 7, 0, 0},
            {5, 0, 1, 60}, {5, -1, 120, 1}, {5, MIN, 2, 120}, {5, MAX, 119, 2}, {5, 6, 119, 119}};
        for (long[] c : calls) x.due(c[3], "set", c[0], c[1], c[2]);
        x.due(30 + 400, "count", 7);
        x.due(119, "count", 3);
    }

    private static void setRefused() {
        says("Promise 5", "BAD.");
        Asked x = world();
        x.refusedEach(BAD, "set", new long[][] {{-1, 0, 1}, {6, 0, 1}, {MIN, 0, 1}, {MAX, 0, 1}, {5, 0, 0}, {5, 0, 121}, {5, 0, MIN}, {5, 0, MAX},
            {4, -1, 1}, {4, 120, 1}, {4, MIN, 1}, {4, MAX, 1}, {4, 0, -1}, {4, 0, 10}, {4, 119, MIN}, {4, 119, MAX}});
        long[] above = {401, 41, 61, 10};
        long[] below = {-1, -1, 0, -1};
        for (int what = 0; what < 4; what++) {
            x.refusedEach(BAD, "set", new long[][] {{what, -1, 1}, {what, 3, 1}, {what, 6, 1}, {what, MIN, 1}, {what, MAX, 1}, {what, 0, above[what]},
                {what, 2, above[what]}, {what, 0, below[what]}, {what, 2, below[what]}, {what, 0, MIN}, {what, 0, MAX}});
        }
        Asked nobody = fresh();
        for (int what = 0; what < 4; what++) nobody.refused(BAD, "set", what, 0, 1);
    }

    private static void shut() {
        says("Promise 6", "It is SHUT from a MINUTE to one that is not ahead of it (the same, too; from NONE: never): 1.");
        Asked x = fresh();
        x.ask("car", 1, 1, 0);
        x.ask("set", 5, 0, 120);
        int[][] shuts = {{0, 0, 119}, {0, 1, 118}, {119, 119, 119}, {118, 119, 118}, {60, 60, 119}, {0, 119, 0}, {5, 9, 115}};
        for (int[] s : shuts) {
            x.due(1, "shut", s[0], s[1]);
            x.due(s[2], "must");
        }
        long[] any = {-1, 0, 119, 120, MIN, MAX};
        for (long to : any) {
            x.due(1, "shut", 0, 119);
            x.due(0, "must");
            x.due(1, "shut", NONE, to);
            x.due(120, "must");
        }
    }

    private static void shutRefused() {
        says("Promise 6", "BAD.");
        Asked x = world();
        long[][] bad = {{1, 0}, {119, 118}, {119, 0}, {0, -1}, {0, 120}, {120, 120}, {-2, 0}, {-2, -2}, {0, MIN}, {0, MAX}, {MIN, 0}, {MAX, MAX},
            {MIN, MIN}};
        x.refusedEach(BAD, "shut", bad);
    }

    private static void told() {
        says("Promise 7", "Of a WAY: 0 KIND, 1 FROM, 2 NUMBER, 3 CALLS in a MINUTE, 4 ASKS in it.");
        Asked x = fresh();
        x.ask("way", 5, 119, 9);
        x.ask("way", 2, 0, 7);
        int[][] told = {{5, 119, 9, 0, 9}, {2, 0, 7, 0, 8}};
        for (int way = 0; way < 2; way++) {
            for (int what = 0; what < 5; what++) x.due(told[way][what], "told", way, 0, what);
        }
        for (int what = 0; what < 3; what++) x.due(told[0][what], "told", 0, 119, what);
        x.due(28, "told", 0, 119, 3);
        x.due(9, "told", 0, 119, 4);
        x.ask("set", 5, 0, 1);
        x.due(28, "told", 0, 119, 3);
    }

    private static void toldRefused() {
        says("Promise 7", "BAD (minute, also where it does not matter).");
        Asked x = world();
        long[] noMinutes = {-1, 120, MIN, MAX};
        for (int what = 0; what < 5; what++) {
            for (long minute : noMinutes) x.refused(BAD, "told", 0, minute, what);
            x.refusedEach(BAD, "told", new long[][] {{-1, 0, what}, {3, 0, what}, {8, 0, what}, {MIN, 0, what}, {MAX, 0, what}});
            x.refused(BAD, "told", 3, 120, what);
        }
        x.refusedEach(BAD, "told", new long[][] {{0, 0, -1}, {0, 0, 5}, {0, 0, MIN}, {0, 0, MAX}});
    }

    private static void feed() {
        says("Promise 8", "The n lowest bytes of a number, the lowest first, come behind THE TAPE: how many it has.");
        String[] parts = {"g", "o ", "1;r", "ush ", "2;har", "m 3  ;", "       ", "        "};
        Asked x = fresh();
        int size = 0;
        for (int n = 1; n <= 8; n++) {
            size += n;
            long above = n == 8 ? 0 : -1L << 8 * n;
            x.due(size, "feed", n, Due.bytes(parts[n - 1], 0, n) | above);
        }
        x.due(1, "text");
        x.due(1, "feed", 1, 0);
        x.due(9, "feed", 8, -1);
        x.due(-100, "text");
        x.due(8, "feed", 8, 0xff20202020202020L);
        x.due(-107, "text");
        x.due(8, "feed", 8, 0x20202020202020ffL);
        x.due(-100, "text");
        x.due(1, "feed", 1, Long.MIN_VALUE);
        x.due(9, "feed", 8, Long.MAX_VALUE);
        x.due(9, "count", 5);
    }

    private static void feedRefused() {
        says("Promise 8", "BAD: n is not 1 .. 8.");
        Asked x = world();
        x.refusedEach(BAD, "feed", new long[][] {{0, 32}, {9, 32}, {-1, 32}, {MIN, 32}, {MAX, 32}});
        x.due(8, "feed", 1, 32);
        x.due(16, "feed", 8, 0x2020202020202020L);
    }

    private static void feedFull() {
        says("Promise 8", "FULL.");
        for (int n = 1; n <= 8; n++) {
            Asked x = fresh();
            for (int k = 0; k < 19; k++) x.ask("feed", 8, 0x2020202020202020L);
            if (n < 8) x.ask("feed", 8 - n, 0x20202020202020L);
            x.due(160, "feed", n, 0x2020202020202020L);
            for (int more = 1; more <= 8; more++) x.refused(FULL, "feed", more, 0x2020202020202020L);
            x.due(-260, "text");
            for (int k = 0; k < 19; k++) x.ask("feed", 8, 0x2020202020202020L);
            if (n < 8) x.ask("feed", 8 - n, 0x20202020202020L);
            if (n < 8) x.refused(FULL, "feed", n + 1, 0x2020202020202020L);
        }
    }

    private static void text() {
        says("Promise 9", "THE TAPE, which is empty then (by a FAULT, too), is a TEXT: its number;");
        Asked x = fresh();
        for (int text = 1; text < 6; text++) {
            x.feed("go 1;rush 1;harm " + text + ";");
            x.due(text, "text");
            x.due(0, "count", 5);
            x.due(text + 1, "count", 4);
            if (text == 5) break;
            x.feed("go 1;rush 1;harm 1; 1");
            x.due(-120, "text");
            x.due(0, "count", 5);
            x.due(-100, "text");
            x.due(text + 1, "count", 4);
        }
        x.due(0, "count", 6);
        x.ask("people", 1, 600);
        x.ask("way", 0, 0, 0);
        x.ask("set", 4, 0, 0);
        x.ask("set", 5, 0, 1);
        for (int text = 1; text < 6; text++) {
            x.ask("force", text);
            x.due(text, "harm", 0);
        }
        textBehindFaults();
    }

    /** A TEXT as long as can be is whole though FAULTS as long as can be stood ahead of it. */
    private static void textBehindFaults() {
        StringBuilder ones = new StringBuilder("1");
        while (ones.length() < 139) ones.append("+1");
        Asked x = hill(1, 20, "-99", "0", "0");
        for (int k = 0; k < 3; k++) {
            x.feed("go 1;rush 0;harm " + ones + "+1+1");
            x.due(-260, "text");
        }
        x.feed("go -99;rush 0;harm " + ones + " ;");
        x.due(160, "count", 5);
        x.due(2, "text");
        x.due(1, "force", 2);
        x.due(70, "harm", 0);
    }

    private static void textFault() {
        says("Promise 9", "-100 less the place of its FAULT.");
        Asked x = world();
        x.ask("text");
        List<Long> ahead = x.seen();
        x.due(-100, "text");
        x.feed("?");
        x.due(-100, "text");
        x.feed(" ");
        x.due(-101, "text");
        x.feed("go 12345;");
        x.due(-103, "text");
        StringBuilder blanks = new StringBuilder();
        while (blanks.length() < 159) blanks.append(' ');
        x.feed(blanks + "?");
        x.due(-259, "text");
        x.feed(blanks + " ");
        x.due(-260, "text");
        x.sameAs(ahead, "six FAULTS");
    }

    private static void textFull() {
        says("Promise 9", "FULL (ahead of all): no TEXT more has room (THE TAPE stays).");
        Asked x = fresh();
        for (int text = 1; text < 5; text++) {
            x.feed("go 1;rush 1;harm 1;");
            x.due(text, "text");
        }
        x.feed("go 1;rush 1;harm 1;");
        x.due(5, "text");
        x.refused(FULL, "text");
        x.feed("go 1;rush 1;harm 1;");
        x.refused(FULL, "text");
        x.due(19, "count", 5);
        x.feed("?");
        x.refused(FULL, "text");
        x.due(20, "count", 5);
    }

    private static void force() {
        says("Promise 10", "A TEXT is THE RULE: which was.");
        Asked x = fresh();
        x.due(0, "force", 0);
        for (int text = 1; text < 6; text++) {
            x.feed("go 1;rush 1;harm 1;");
            x.ask("text");
        }
        long[] force = {5, 5, 0, 0, 1, 4, 0};
        long was = 0;
        for (long text : force) {
            x.due(was, "force", text);
            x.due(text, "count", 6);
            was = text;
        }
    }

    private static void forceRefused() {
        says("Promise 10", "BAD.");
        Asked x = world();
        x.refusedEach(BAD, "force", new long[][] {{-1}, {2}, {5}, {6}, {MIN}, {MAX}});
        Asked y = full();
        y.refusedEach(BAD, "force", new long[][] {{-1}, {6}, {MIN}, {MAX}});
        y.due(0, "force", 5);
        y.refused(BAD, "force", 6);
    }
}
