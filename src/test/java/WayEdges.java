/** The bounds of WAYS, and of what each KIND calls and asks, and whom it takes first. */
final class WayEdges extends Edges {
    private static final int CALLS = 3, ASKS = 4;

    private WayEdges() {
    }

    static void all() {
        ways();
        kinds();
        from();
        number();
        callsOfWay();
        callsOfBell();
        callsOfPrice();
        callsOfHour();
        callsOfDear();
        callsOfBoth();
        asksOfWay();
        asksOfBell();
        asksOfPrice();
        asksOfHour();
        asksOfDear();
        asksOfBoth();
        notBelowZero();
        firstOnes();
    }

    private static void ways() {
        says(TERMS_1, "WAYS (8 at most, numbered from 0)");
        Asked x = fresh();
        x.refused(BAD, "told", 0, 0, 0);
        for (int way = 0; way < 8; way++) {
            x.due(way, "way", way % 6, way, way);
            x.due(way, "told", way, 0, 2);
            x.refused(BAD, "told", way + 1, 0, 2);
        }
        x.refused(FULL, "way", 0, 0, 0);
        x.refused(BAD, "told", -1, 0, 2);
        x.due(8, "count", 2);
    }

    private static void kinds() {
        says(TERMS_1, "have a KIND: 0 WAY, 1 BELL under WAY, 2 PRICE under WAY, 3 HOUR under BELL, 4 DEAR under PRICE, 5 BOTH under HOUR;");
        String[] under = {"0", "01", "02", "013", "024", "0135"};
        Asked x = fresh();
        for (int kind = 0; kind < 6; kind++) {
            x.due(kind, "way", kind, 0, 9);
            x.due(kind, "told", kind, 0, 0);
            for (int k = 0; k < 6; k++) x.due(under[kind].indexOf('0' + k) >= 0 ? 9 : UNLIKE, "taken", kind, k);
        }
        x.refusedEach(BAD, "way", new long[][] {{-1, 0, 0}, {6, 0, 0}, {MIN, 0, 0}, {MAX, 0, 0}});
    }

    private static void from() {
        says(TERMS_1, "a FROM (a MINUTE)");
        Asked x = fresh();
        x.due(0, "way", 1, 0, 9);
        x.due(1, "way", 1, 119, 9);
        x.due(0, "told", 0, 5, 1);
        x.due(119, "told", 1, 5, 1);
        x.refusedEach(BAD, "way", new long[][] {{1, -1, 9}, {1, 120, 9}, {1, MIN, 9}, {1, MAX, 9}});
        x.ask("set", 5, 0, 1);
        x.due(2, "way", 1, 119, 9);
    }

    private static void number() {
        says(TERMS_1, "a NUMBER (0 .. 9).");
        Asked x = fresh();
        x.due(0, "way", 1, 5, 0);
        x.due(1, "way", 1, 5, 9);
        x.due(0, "told", 0, 5, 2);
        x.due(9, "told", 1, 5, 2);
        x.refusedEach(BAD, "way", new long[][] {{1, 5, -1}, {1, 5, 10}, {1, 5, MIN}, {1, 5, MAX}});
    }

    /** What WAYS of a KIND and a NUMBER answer in rows of FROM, MINUTE and what is due. */
    private static void due(int what, int kind, int number, int[][] rows) {
        Asked x = fresh();
        int way = -1;
        int from = -1;
        for (int[] row : rows) {
            if (row[0] != from) {
                from = row[0];
                way++;
                x.due(way, "way", kind, from, number);
            }
            x.due(row[2], "told", way, row[1], what);
        }
    }

    private static void callsOfWay() {
        says(TERMS_1, "CALLS (how loud in a MINUTE): WAY: 0;");
        due(CALLS, 0, 9, new int[][] {{0, 0, 0}, {0, 119, 0}, {30, 29, 0}, {30, 30, 0}, {30, 31, 0}, {119, 119, 0}});
    }

    private static void callsOfBell() {
        says(TERMS_1, "BELL: NUMBER, from FROM on;");
        due(CALLS, 1, 9, new int[][] {{0, 0, 9}, {0, 119, 9}, {30, 0, 0}, {30, 29, 0}, {30, 30, 9}, {30, 31, 9}, {30, 119, 9},
            {119, 118, 0}, {119, 119, 9}});
        due(CALLS, 1, 0, new int[][] {{30, 29, 0}, {30, 30, 0}});
    }

    private static void callsOfPrice() {
        says(TERMS_1, "PRICE as a WAY;");
        due(CALLS, 2, 9, new int[][] {{0, 0, 0}, {30, 29, 0}, {30, 30, 0}, {119, 119, 0}});
    }

    private static void callsOfHour() {
        says(TERMS_1, "HOUR: as a BELL, 5 more in each tenth MINUTE from FROM on (FROM, FROM and 10, ..);");
        due(CALLS, 3, 4, new int[][] {{0, 0, 9}, {0, 1, 4}, {0, 119, 4}, {30, 10, 0}, {30, 20, 0}, {30, 29, 0}, {30, 30, 9}, {30, 31, 4},
            {30, 39, 4}, {30, 40, 9}, {30, 41, 4}, {30, 110, 9}, {30, 119, 4}, {109, 108, 0}, {109, 109, 9}, {109, 118, 4}, {109, 119, 9},
            {119, 109, 0}, {119, 118, 0}, {119, 119, 9}});
        due(CALLS, 3, 0, new int[][] {{30, 29, 0}, {30, 30, 5}, {30, 31, 0}, {30, 40, 5}});
    }

    private static void callsOfDear() {
        says(TERMS_1, "DEAR as a PRICE;");
        due(CALLS, 4, 9, new int[][] {{0, 0, 0}, {30, 29, 0}, {30, 30, 0}, {30, 40, 0}, {119, 119, 0}});
    }

    private static void callsOfBoth() {
        says(TERMS_1, "BOTH: twice an HOUR's.");
        due(CALLS, 5, 9, new int[][] {{0, 0, 28}, {0, 1, 18}, {30, 29, 0}, {30, 30, 28}, {30, 31, 18}, {30, 39, 18}, {30, 40, 28},
            {119, 118, 0}, {119, 119, 28}});
        due(CALLS, 5, 0, new int[][] {{30, 29, 0}, {30, 30, 10}, {30, 31, 0}});
    }

    private static void asksOfWay() {
        says(TERMS_1, "ASKS (a price in a MINUTE): WAY: 1;");
        due(ASKS, 0, 9, new int[][] {{0, 0, 1}, {30, 29, 1}, {30, 30, 1}, {119, 119, 1}});
    }

    private static void asksOfBell() {
        says(TERMS_1, "BELL as a WAY;");
        due(ASKS, 1, 9, new int[][] {{0, 0, 1}, {30, 29, 1}, {30, 30, 1}, {119, 119, 1}});
    }

    private static void asksOfPrice() {
        says(TERMS_1, "PRICE: NUMBER more than a WAY, from FROM on;");
        due(ASKS, 2, 9, new int[][] {{0, 0, 10}, {0, 119, 10}, {30, 0, 1}, {30, 29, 1}, {30, 30, 10}, {30, 31, 10}, {119, 118, 1},
            {119, 119, 10}});
        due(ASKS, 2, 0, new int[][] {{30, 29, 1}, {30, 30, 1}});
    }

    private static void asksOfHour() {
        says(TERMS_1, "HOUR: 1 less than a BELL;");
        due(ASKS, 3, 9, new int[][] {{0, 0, 0}, {30, 29, 0}, {30, 30, 0}, {30, 40, 0}, {119, 119, 0}});
    }

    private static void asksOfDear() {
        says(TERMS_1, "DEAR: twice a PRICE's;");
        due(ASKS, 4, 9, new int[][] {{0, 0, 20}, {30, 29, 2}, {30, 30, 20}, {119, 118, 2}, {119, 119, 20}});
        due(ASKS, 4, 0, new int[][] {{30, 29, 2}, {30, 30, 2}});
    }

    private static void asksOfBoth() {
        says(TERMS_1, "BOTH: NUMBER more than an HOUR.");
        due(ASKS, 5, 9, new int[][] {{0, 0, 9}, {30, 29, 9}, {30, 30, 9}, {119, 118, 9}, {119, 119, 9}});
    }

    private static void notBelowZero() {
        says(TERMS_1, "(CALLS, ASKS 0 at least.)");
        for (int kind = 0; kind < 6; kind++) {
            Asked x = fresh();
            x.ask("way", kind, 60, 0);
            long least = MAX;
            for (int minute = 0; minute < 120; minute++) {
                least = Math.min(least, Math.min(x.ask("told", 0, minute, CALLS), x.ask("told", 0, minute, ASKS)));
            }
            Sentences.be("the least that KIND " + kind + " calls or asks", least, 0);
        }
        due(ASKS, 3, 0, new int[][] {{0, 0, 0}, {60, 59, 0}, {60, 60, 0}});
        due(ASKS, 5, 0, new int[][] {{0, 0, 0}, {60, 59, 0}, {60, 60, 0}});
    }

    /** SORTS 0 .. 2 are FAR 1, 1, 2 (they come then), ten of each; a car for 11 goes in minute 5. */
    private static void firstOnes() {
        says(TERMS_1, "FIRST ONES: WAY: all alike; BELL as a WAY; PRICE as a WAY; HOUR: those with more FAR first; DEAR: those of a lesser SORT"
            + " first; BOTH as an HOUR.");
        Asked x = fresh();
        x.ask("people", 10, 1010);
        x.ask("people", 10, 1010);
        x.ask("people", 10, 2010);
        x.ask("car", 11, 30, 5);
        for (int kind = 0; kind < 6; kind++) x.ask("way", kind, 0, 0);
        x.rule("400", "0", "1");
        x.ask("set", 5, 0, 6);
        int[][] rode = {{10, 1, 0}, {10, 1, 0}, {10, 1, 0}, {1, 0, 10}, {10, 1, 0}, {1, 0, 10}};
        for (int kind = 0; kind < 6; kind++) {
            for (int sort = 0; sort < 3; sort++) x.due(rode[kind][sort], "down", kind, sort, 5);
        }
        x.ask("set", 1, 0, 3);
        int[][] later = {{0, 10, 1}, {0, 10, 1}, {0, 10, 1}, {10, 0, 1}, {10, 1, 0}, {10, 0, 1}};
        for (int kind = 0; kind < 6; kind++) {
            for (int sort = 0; sort < 3; sort++) x.due(later[kind][sort], "down", kind, sort, 5);
        }
    }
}
