/** The bounds of MINUTES, SORTS, CARS and SUN, what NONE and NO are, and the refusals. */
final class HillEdges extends Edges {
    private static final long[] NO_MINUTES = {-1, 120, MIN, MAX};

    private HillEdges() {
    }

    static void all() {
        minutes();
        end();
        sorts();
        up();
        far();
        slow();
        hears();
        cars();
        room();
        every();
        first();
        sun();
        noneAndNo();
        quotients();
        refusalsInOrder();
        bad();
        state();
        fullAnswers();
        theHosts();
    }

    private static void minutes() {
        says(TERMS_1, "MINUTES are 0 .. 119");
        Asked x = fresh();
        x.due(5, "set", 4, 0, 7);
        x.due(5, "set", 4, 119, 7);
        x.due(0, "way", 0, 0, 0);
        x.due(1, "way", 0, 119, 0);
        x.due(0, "car", 1, 1, 0);
        x.due(1, "car", 1, 1, 119);
        x.due(1, "shut", 0, 0);
        x.due(1, "shut", 119, 119);
        x.due(0, "told", 1, 0, 3);
        x.due(0, "told", 1, 119, 3);
        for (long minute : NO_MINUTES) {
            x.refused(BAD, "set", 4, minute, 7);
            x.refused(BAD, "way", 0, minute, 0);
            x.refused(BAD, "car", 1, 1, minute);
            x.refused(BAD, "shut", 0, minute);
            x.refused(BAD, "told", 1, minute, 3);
        }
        x.refused(BAD, "shut", 120, 120);
        x.refused(BAD, "shut", -2, 5);
    }

    private static void end() {
        says(TERMS_1, "(END: 1 .. 120, 90 at first: how many there are).");
        Asked x = fresh();
        x.ask("car", 1, 1, 0);
        x.ask("way", 0, 0, 0);
        x.due(90, "count", 3);
        x.due(90, "must");
        x.due(0, "down", 0, NONE, 89);
        x.refused(BAD, "down", 0, NONE, 90);
        x.due(90, "set", 5, 0, 1);
        x.due(1, "must");
        x.due(0, "down", 0, NONE, 0);
        x.refused(BAD, "down", 0, NONE, 1);
        x.due(1, "set", 5, 0, 120);
        x.due(120, "must");
        x.due(0, "down", 0, NONE, 119);
        x.refused(BAD, "down", 0, NONE, 120);
        x.refusedEach(BAD, "set", new long[][] {{5, 0, 0}, {5, 0, 121}, {5, 0, -1}, {5, 0, MIN}, {5, 0, MAX}});
        x.due(120, "count", 3);
    }

    private static void sorts() {
        says(TERMS_1, "SORTS of people (6 at most, numbered from 0):");
        Asked x = fresh();
        x.refused(BAD, "set", 0, 0, 1);
        for (int sort = 0; sort < 6; sort++) {
            x.due(sort, "people", sort, 10);
            x.due(sort, "set", 0, sort, sort + 1);
            x.refused(BAD, "set", 0, sort + 1, 1);
        }
        x.refused(FULL, "people", 1, 10);
        x.refused(BAD, "set", 0, -1, 1);
        x.due(6, "count", 0);
    }

    private static void up() {
        says(TERMS_1, "how many are UP (0 .. 400)");
        Asked x = fresh();
        x.due(0, "people", 0, 10);
        x.due(1, "people", 400, 10);
        x.due(400, "count", 7);
        x.due(0, "set", 0, 0, 400);
        x.due(400, "set", 0, 1, 0);
        long[] none = {-1, 401, MIN, MAX};
        for (long up : none) {
            x.refused(BAD, "people", up, 10);
            x.refused(BAD, "set", 0, 0, up);
        }
    }

    private static void far() {
        says(TERMS_1, "FAR (0 .. 40 minutes to the platform)");
        Asked x = fresh();
        x.due(0, "people", 1, 10);
        x.due(1, "people", 1, 40010);
        x.due(0, "set", 1, 0, 40);
        x.due(40, "set", 1, 1, 0);
        x.refused(BAD, "people", 1, 41010);
        x.refused(BAD, "people", 1, 2000000010);
        x.refusedEach(BAD, "set", new long[][] {{1, 0, 41}, {1, 0, -1}, {1, 0, MIN}, {1, 0, MAX}});
        Asked y = hill(5, 40600, "1", "0", "1");
        y.ask("set", 5, 0, 41);
        y.due(1, "waits", 0, 0);
        y.due(40, "waits", 0, 1);
        y.ask("set", 1, 0, 0);
        y.due(5, "waits", 0, 0);
    }

    private static void slow() {
        says(TERMS_1, "SLOW (1 .. 60)");
        Asked x = fresh();
        x.due(0, "people", 1, 10);
        x.due(1, "people", 1, 609);
        x.due(1, "set", 2, 0, 60);
        x.due(60, "set", 2, 1, 1);
        x.refusedEach(BAD, "people", new long[][] {{1, 0}, {1, 9}, {1, 610}, {1, 999}, {1, 1000}, {1, 1009}, {1, 1610}});
        x.refusedEach(BAD, "set", new long[][] {{2, 0, 0}, {2, 0, 61}, {2, 0, -1}, {2, 0, MIN}, {2, 0, MAX}});
    }

    private static void hears() {
        says(TERMS_1, "HEARS (0 .. 9).");
        Asked x = fresh();
        x.due(0, "people", 1, 10);
        x.due(1, "people", 1, 19);
        x.due(2, "people", 1, 20);
        x.due(0, "set", 3, 0, 9);
        x.due(9, "set", 3, 1, 0);
        x.due(0, "set", 3, 2, 1);
        x.due(2, "set", 2, 2, 1);
        x.refusedEach(BAD, "set", new long[][] {{3, 0, 10}, {3, 0, -1}, {3, 0, MIN}, {3, 0, MAX}});
    }

    private static void cars() {
        says(TERMS_1, "CARS (4 at most, numbered from 0):");
        Asked x = fresh();
        x.ask("way", 0, 0, 0);
        x.refused(BAD, "rode", 0, 0);
        for (int car = 0; car < 4; car++) {
            x.due(car, "car", 1, 1, 0);
            x.due(0, "rode", 0, car);
            x.refused(BAD, "rode", 0, car + 1);
        }
        x.refused(FULL, "car", 1, 1, 0);
        x.due(4, "count", 1);
    }

    private static void room() {
        says(TERMS_1, "ROOM (1 .. 60)");
        Asked x = hill(100, 10, "400", "0", "1");
        x.ask("set", 5, 0, 1);
        x.due(0, "car", 1, 1, 0);
        x.due(1, "rode", 0, NONE);
        x.due(1, "car", 60, 1, 0);
        x.due(61, "rode", 0, NONE);
        x.refusedEach(BAD, "car", new long[][] {{0, 1, 0}, {61, 1, 0}, {-1, 1, 0}, {MIN, 1, 0}, {MAX, 1, 0}});
    }

    private static void every() {
        says(TERMS_1, "EVERY (1 .. 30 minutes)");
        Asked x = fresh();
        x.due(0, "car", 1, 1, 0);
        x.due(90, "must");
        x.due(1, "car", 1, 30, 0);
        x.due(93, "must");
        x.ask("set", 5, 0, 91);
        x.due(95, "must");
        x.refusedEach(BAD, "car", new long[][] {{1, 0, 0}, {1, 31, 0}, {1, -1, 0}, {1, MIN, 0}, {1, MAX, 0}});
    }

    private static void first() {
        says(TERMS_1, "FIRST (0 .. 119: the first minute in which it goes; then EVERY so many).");
        Asked x = fresh();
        x.due(0, "car", 1, 30, 5);
        int[] ends = {5, 6, 35, 36, 65, 66, 95, 96, 120};
        int[] times = {0, 1, 1, 2, 2, 3, 3, 4, 4};
        for (int i = 0; i < ends.length; i++) {
            x.ask("set", 5, 0, ends[i]);
            x.due(times[i], "must");
        }
        x.due(1, "car", 1, 1, 119);
        x.due(5, "must");
        x.ask("set", 5, 0, 119);
        x.due(4, "must");
        x.due(2, "car", 1, 30, 0);
        x.ask("set", 5, 0, 1);
        x.due(1, "must");
        x.refusedEach(BAD, "car", new long[][] {{1, 1, -1}, {1, 1, 120}, {1, 1, MIN}, {1, 1, MAX}});
    }

    private static void sun() {
        says(TERMS_1, "SUN of a MINUTE (0 .. 9; 5 at first).");
        Asked x = fresh();
        for (int minute = 0; minute < 120; minute++) x.due(5, "set", 4, minute, minute % 2 * 9);
        for (int minute = 0; minute < 120; minute++) x.due(minute % 2 * 9, "set", 4, minute, 5);
        x = fresh();
        x.refusedEach(BAD, "set", new long[][] {{4, 0, -1}, {4, 0, 10}, {4, 119, 10}, {4, 0, MIN}, {4, 0, MAX}});
    }

    private static void noneAndNo() {
        says(TERMS_1, "NONE is -1; NO, where a long is answered, -4611686018427387904.");
        Asked x = fresh();
        x.due(-4611686018427387904L, "harm", 0);
        x.due(-4611686018427387904L, "choose", 0);
        x.ask("way", 0, 0, 0);
        x.due(0, "left", 0, -1);
        x.due(-1, "behind", 0, 1);
        x.due(0, "harm", 0);
    }

    /** How many of 50 are left, by what one told call is heard to be; a quotient is never below 0 here. */
    private static void quotients() {
        says(TERMS_1, "Quotients are cut toward 0.");
        int[][] heard = {{9, 1, 0}, {9, 2, 1}, {9, 10, 9}, {9, 11, 9}, {9, 12, 10}, {1, 9, 0}, {1, 10, 1}, {1, 19, 1}, {1, 20, 2},
            {5, 1, 0}, {5, 2, 1}, {0, 99, 0}};
        Asked x = hill(50, 600, "heard", "0", "1");
        x.ask("car", 60, 1, 0);
        x.ask("set", 5, 0, 1);
        for (int[] h : heard) {
            x.ask("set", 3, 0, h[0]);
            row(x, 0, 0, h[1]);
            x.due(50 - h[2], "judge", 0);
        }
        int[][] bySlow = {{59, 60, 0}, {60, 60, 1}, {119, 60, 1}, {120, 60, 2}, {7, 8, 0}, {8, 8, 1}, {15, 8, 1}, {16, 8, 2}};
        x.rule("0", "0", "1");
        for (int[] s : bySlow) {
            x.ask("set", 0, 0, s[0]);
            x.ask("set", 2, 0, s[1]);
            x.due(s[0] - s[2], "left", 0, 0);
        }
    }

    private static void refusalsInOrder() {
        says(TERMS_1, "Refusals, the first that the call's words name; they change nothing:");
        Asked x = full();
        x.refused(BAD, "people", 401, 10);
        x.refused(FULL, "people", 1, 10);
        x.refused(BAD, "car", 61, 1, 0);
        x.refused(FULL, "car", 1, 1, 0);
        x.refused(BAD, "way", 6, 0, 0);
        x.refused(FULL, "way", 0, 0, 0);
        x.refused(BAD, "feed", 9, 32);
        x.refused(FULL, "feed", 1, 32);
        x.refused(FULL, "text");
        x.refusedEach(BAD, "sheet", new long[][] {{4, 0, -1}, {0, 3, -1}, {0, 0, 41}});
        x.refused(BELOW_ZERO, "sheet", 0, 0, -1);
        x.refused(BAD, "cell", 4, 9, 0);
        x.refused(NOTHING, "cell", 2, 9, 0);
        x.refused(OUTSIDE, "cell", 0, 9, 0);
        x.refusedEach(BAD, "copy", new long[][] {{4, 9, 2, 9, -1}, {2, 9, 4, 9, -1}});
        x.refusedEach(NOTHING, "copy", new long[][] {{0, 9, 2, 9, -1}, {2, 9, 0, 9, -1}});
        x.refused(UNLIKE, "copy", 0, 9, 1, 9, -1);
        x.refused(OUTSIDE, "copy", 0, 9, 0, 9, -1);
        x.refusedEach(BAD, "sorts", new long[][] {{4, 0, 9, 1}, {2, 3, 9, 1}, {2, 0, 9, 9}});
        x.refused(NOTHING, "sorts", 2, 0, 9, 1);
        x.refused(UNLIKE, "sorts", 0, 1, 9, 1);
        x.refused(OUTSIDE, "sorts", 0, 0, 9, 1);
        x.refused(BAD, "judge", 4);
        x.refused(NOTHING, "judge", 2);
        x.refused(BAD, "taken", 8, 6);
        x.refused(NOTHING, "taken", 8, 0);
        x.refused(UNLIKE, "taken", 0, 5);
    }

    private static void bad() {
        says(TERMS_1, "BAD (-2: a number is none such or not as told)");
        Asked x = world();
        x.refusedEach(-2, "people", new long[][] {{-1, 10}, {401, 10}, {1, -1}, {1, -10}, {1, MIN}, {1, MAX}});
        x.refusedEach(-2, "set", new long[][] {{-1, 0, 1}, {6, 0, 1}, {0, 3, 1}, {MIN, 0, 1}, {MAX, 0, 1}});
        x.refusedEach(-2, "left", new long[][] {{-1, 0}, {3, 0}, {0, -2}, {0, 3}});
        x.refusedEach(-2, "count", new long[][] {{-1}, {8}, {MIN}, {MAX}});
    }

    private static void state() {
        says(TERMS_1, "STATE (-3)");
        Asked x = full();
        x.refused(-3, "back");
        x.due(6, "image");
        x.due(6, "back");
    }

    private static void fullAnswers() {
        says(TERMS_1, "FULL (-4);");
        Asked x = full();
        x.refused(-4, "people", 0, 10);
        x.refused(-4, "car", 1, 1, 0);
        x.refused(-4, "way", 0, 0, 0);
        x.refused(-4, "feed", 1, 32);
        x.refused(-4, "text");
    }

    private static void theHosts() {
        says(TERMS_1, "the host's: -11 nothing where something is asked, -12 a place outside, -13 a thing of another sort or KIND,"
            + " -14 a size below 0.");
        Asked x = world();
        x.refused(-11, "cell", 3, 0, 0);
        x.refused(-11, "taken", 3, 0);
        x.refused(-12, "cell", 0, 3, 0);
        x.refused(-12, "cell", 0, -1, 0);
        x.refused(-13, "copy", 0, 0, 1, 0, 1);
        x.refused(-13, "taken", 0, 1);
        x.refused(-14, "sheet", 0, 0, -1);
        x.due(1, "sheet", 0, 0, 0);
    }
}
