/** The bounds of A DAY, and of what is told of it. */
final class DayEdges extends Edges {
    private DayEdges() {
    }

    static void all() {
        eachSort();
        waitAhead();
        farLater();
        carsThatGo();
        roomLessRush();
        inOrder();
        shut();
        left();
        harm();
        rode();
        waits();
        down();
        latest();
        more();
        choose();
        must();
        nobodyUp();
        told();
        behind();
        image();
        imageOfSorts();
    }

    private static void eachSort() {
        says(TERMS_2, "A DAY by a WAY, MINUTE by MINUTE: of each SORT so many go as go tells");
        Asked x = hill(9, 605, "heard + 1", "0", "1");
        for (int sort = 1; sort < 6; sort++) x.ask("people", sort, 600 + sort);
        x.ask("way", 1, 1, 9);
        x.ask("set", 5, 0, 1);
        x.due(6, "waits", 1, 0);
        x.ask("set", 5, 0, 2);
        x.due(21, "waits", 1, 0);
        x.due(0, "down", 1, NONE, 1);
        Asked nobody = hill(0, 10, "400", "0", "1");
        nobody.due(0, "waits", 0, 0);
    }

    private static void waitAhead() {
        says(TERMS_2, "(wait: those who waited as the MINUTE ahead ended; 0 in MINUTE 0):");
        Asked x = hill(50, 600, "wait + 3", "0", "1");
        x.ask("people", 50, 600);
        x.ask("set", 5, 0, 1);
        x.due(6, "waits", 0, 0);
        x.ask("set", 5, 0, 2);
        x.due(6 + 2 * 9, "waits", 0, 0);
        x.ask("car", 2, 30, 0);
        x.due(4 + 2 * 7, "waits", 0, 0);
        x.rule("5 * (wait = 0)", "0", "1");
        x.ask("car", 8, 30, 0);
        x.due(10, "waits", 0, 0);
        x.due(1, "waits", 0, 1);
        x.due(10, "rode", 0, NONE);
    }

    private static void farLater() {
        says(TERMS_2, "they are UP no more, and wait at the platform from FAR minutes later on (0: at once).");
        int[] fars = {0, 1, 2, 40};
        for (int far : fars) {
            Asked x = hill(7, 1000 * far + 600, "7 * (left = 42)", "0", "up");
            x.ask("car", 7, 1, 0);
            x.ask("set", 5, 0, 42);
            if (far > 0) x.due(0, "down", 0, 0, far - 1);
            x.due(7, "down", 0, 0, far);
            x.due(far, "behind", 0, 1);
        }
        Asked last = hill(7, 40600, "7 * (sun = 9)", "0", "up");
        last.ask("set", 5, 0, 120);
        last.ask("set", 4, 79, 9);
        last.due(7, "waits", 0, 0);
        last.due(119, "waits", 0, 1);
        last.ask("set", 4, 79, 5);
        last.ask("set", 4, 80, 9);
        last.due(0, "waits", 0, 0);
        last.due(0, "harm", 0);
        last.due(7, "left", 0, 0);
        last.ask("set", 4, 80, 5);
        last.due(49, "harm", 0);
        last.ask("set", 1, 0, 0);
        last.ask("set", 4, 119, 9);
        last.due(119, "waits", 0, 1);
        last.ask("set", 1, 0, 1);
        last.due(0, "waits", 0, 0);
        last.due(0, "harm", 0);
    }

    private static void carsThatGo() {
        says(TERMS_2, "Then CARS by numbers that go in that MINUTE");
        Asked x = hill(10, 10, "0", "0", "1");
        x.ask("car", 4, 30, 1);
        x.ask("car", 5, 30, 0);
        x.ask("car", 60, 30, 1);
        x.ask("car", 60, 30, 2);
        x.ask("set", 5, 0, 1);
        long[] first = {0, 5, 0, 0};
        for (int car = 0; car < 4; car++) x.due(first[car], "rode", 0, car);
        x.ask("set", 5, 0, 2);
        long[] second = {4, 5, 1, 0};
        for (int car = 0; car < 4; car++) x.due(second[car], "rode", 0, car);
        x.ask("set", 0, 0, 9);
        x.due(0, "rode", 0, 2);
        x.due(4, "rode", 0, 0);
    }

    private static void roomLessRush() {
        says(TERMS_2, "take of those who wait there then as many as their ROOM less rush (0 at least):");
        int[][] rows = {{5, 0, 5}, {5, 4, 1}, {5, 5, 0}, {5, 6, 0}, {5, 60, 0}, {1, 0, 1}, {1, 1, 0}, {60, 0, 9}, {9, 0, 9}, {10, 0, 9},
            {10, 1, 9}, {10, 2, 8}};
        for (int[] r : rows) {
            Asked x = hill(9, 10, "0", "" + r[1], "1");
            x.ask("car", r[0], 30, 0);
            x.ask("set", 5, 0, 1);
            x.due(r[2], "rode", 0, 0);
            x.due(9 - r[2], "waits", 0, 0);
            x.ask("set", 1, 0, 1);
            x.due(0, "rode", 0, 0);
        }
    }

    /** All wait in MINUTE 3: of SORT 0 those who came in 3, of SORTS 1 and 2 those who came in 2, of 3 those who came in 1. */
    private static void inOrder() {
        says(TERMS_2, "the FIRST ONES first; of like ones those who came in a lesser MINUTE; of these the least SORT.");
        Asked x = fresh();
        long[] fars = {3, 2, 2, 1};
        for (long far : fars) x.ask("people", 5, 1000 * far + 10);
        for (int kind = 0; kind < 6; kind++) x.ask("way", kind, 0, 0);
        x.ask("set", 5, 0, 4);
        int[][] order = {{3, 1, 2, 0}, {3, 1, 2, 0}, {3, 1, 2, 0}, {0, 1, 2, 3}, {0, 1, 2, 3}, {0, 1, 2, 3}};
        x.rule("0", "0", "1");
        x.ask("car", 1, 30, 3);
        for (int kind = 0; kind < 6; kind++) x.due(1, "down", kind, order[kind][0], 3);
        x.ask("car", 5, 30, 3);
        for (int kind = 0; kind < 6; kind++) {
            x.due(5, "down", kind, order[kind][0], 3);
            x.due(1, "down", kind, order[kind][1], 3);
        }
        x.ask("car", 9, 30, 3);
        for (int kind = 0; kind < 6; kind++) {
            x.due(5, "down", kind, order[kind][1], 3);
            x.due(5, "down", kind, order[kind][2], 3);
            x.due(0, "down", kind, order[kind][3], 3);
        }
        Asked y = hill(9, 600, "1", "0", "1");
        y.ask("people", 9, 600);
        y.ask("car", 3, 30, 2);
        y.ask("set", 5, 0, 3);
        y.due(2, "down", 0, 0, 2);
        y.due(1, "down", 0, 1, 2);
    }

    private static void shut() {
        says(TERMS_2, "It is SHUT from a MINUTE to another one (both counted; by call; never at first): no car goes then.");
        Asked x = hill(10, 10, "0", "0", "1");
        x.ask("car", 1, 1, 0);
        x.ask("set", 5, 0, 10);
        for (int m = 0; m < 10; m++) x.due(m + 1, "down", 0, 0, m);
        x.ask("shut", 3, 5);
        int[] down = {1, 2, 3, 3, 3, 3, 4, 5, 6, 7};
        for (int m = 0; m < 10; m++) x.due(down[m], "down", 0, 0, m);
        x.ask("shut", 0, 0);
        x.due(0, "down", 0, 0, 0);
        x.due(1, "down", 0, 0, 1);
        x.ask("shut", 9, 9);
        x.due(9, "down", 0, 0, 8);
        x.due(9, "down", 0, 0, 9);
        x.ask("shut", 0, 119);
        x.due(0, "rode", 0, NONE);
        x.ask("shut", 10, 119);
        x.due(10, "rode", 0, NONE);
        x.ask("set", 5, 0, 120);
        x.ask("set", 0, 0, 200);
        x.due(10, "rode", 0, NONE);
        x.ask("shut", 119, 119);
        x.due(119, "rode", 0, NONE);
        x.ask("shut", NONE, 0);
        x.due(120, "rode", 0, NONE);
    }

    private static void left() {
        says(TERMS_2, "LEFT at the END (of MINUTES 0 .. END - 1): all who did not ride.");
        Asked x = hill(9, 1600, "1", "0", "1");
        x.ask("car", 5, 30, 4);
        int[] ends = {1, 4, 5, 6};
        int[] left = {9, 9, 5, 5};
        for (int i = 0; i < ends.length; i++) {
            x.ask("set", 5, 0, ends[i]);
            x.due(left[i], "left", 0, 0);
        }
        x.ask("car", 1, 30, 119);
        x.ask("set", 5, 0, 119);
        x.due(0, "left", 0, 0);
        x.ask("set", 0, 0, 400);
        x.due(380, "left", 0, 0);
        x.ask("set", 5, 0, 120);
        x.due(379, "left", 0, 0);
        x.ask("set", 0, 0, 0);
        x.due(0, "left", 0, 0);
    }

    private static void harm() {
        says(TERMS_2, "HARM: of all SORTS harm times those LEFT of it.");
        Asked x = hill(3, 600, "-99", "0", "up * up");
        x.due(27, "harm", 0);
        x.ask("people", 2, 600);
        x.due(27 + 8, "harm", 0);
        x.ask("people", 0, 600);
        x.ask("people", 1, 10);
        x.due(27 + 8 + 1, "harm", 0);
        x.ask("set", 0, 0, 0);
        x.due(8 + 1, "harm", 0);
        Asked most = hill(400, 600, "-99", "0", "99");
        for (int sort = 1; sort < 6; sort++) most.ask("people", 400, 600);
        most.due(99 * 2400, "harm", 0);
        Asked none = fresh();
        none.ask("way", 0, 0, 0);
        none.due(0, "harm", 0);
    }

    private static void rode() {
        says(TERMS_2, "RODE of a car.");
        Asked x = hill(10, 10, "0", "0", "1");
        x.due(0, "rode", 0, NONE);
        for (int car = 0; car < 4; car++) x.ask("car", 3, 30, 29);
        x.ask("set", 5, 0, 29);
        for (int car = NONE; car < 4; car++) x.due(0, "rode", 0, car);
        x.ask("set", 5, 0, 30);
        int[] rode = {3, 3, 3, 1};
        for (int car = 0; car < 4; car++) x.due(rode[car], "rode", 0, car);
        x.due(10, "rode", 0, NONE);
    }

    private static void waits() {
        says(TERMS_2, "WAITS: the greatest number that waited as a MINUTE ended; the MINUTE (first).");
        Asked none = fresh();
        none.ask("way", 0, 0, 0);
        none.due(0, "waits", 0, 0);
        none.due(0, "waits", 0, 1);
        Asked x = hill(50, 600, "3 * (left = 9 or left = 6 or left = 3)", "0", "1");
        x.ask("set", 5, 0, 9);
        x.due(9, "waits", 0, 0);
        x.due(6, "waits", 0, 1);
        x.ask("car", 3, 1, 1);
        x.due(3, "waits", 0, 0);
        x.due(0, "waits", 0, 1);
        x.ask("shut", 0, 3);
        x.due(6, "waits", 0, 0);
        x.due(3, "waits", 0, 1);
        x.ask("shut", NONE, 0);
        x.ask("car", 3, 1, 0);
        x.due(0, "waits", 0, 0);
        x.due(0, "waits", 0, 1);
    }

    private static void down() {
        says(TERMS_2, "DOWN of a SORT by a MINUTE.");
        Asked x = hill(9, 600, "2", "0", "1");
        x.ask("people", 9, 2600);
        x.ask("car", 60, 2, 1);
        x.ask("set", 5, 0, 6);
        int[] of0 = {0, 4, 4, 8, 8, 9};
        int[] of1 = {0, 0, 0, 4, 4, 8};
        for (int m = 0; m < 6; m++) {
            x.due(of0[m], "down", 0, 0, m);
            x.due(of1[m], "down", 0, 1, m);
            x.due(of0[m] + of1[m], "down", 0, NONE, m);
        }
        x.refused(BAD, "down", 0, 0, 6);
        x.refused(BAD, "down", 0, 0, -1);
    }

    /** Two more go in each MINUTE in which a BELL of 4 rings; all who come ride. */
    private static Asked bells(int up) {
        Asked x = fresh();
        x.ask("people", up, 605);
        x.ask("car", 60, 1, 0);
        x.ask("way", 1, 50, 4);
        return x.rule("heard", "0", "1");
    }

    private static void latest() {
        says(TERMS_2, "LATEST of a WAY: the latest FROM (0 .. END - 1) by which, FROM being so, no more than so many are LEFT; NONE.");
        Asked x = bells(10);
        x.ask("set", 5, 0, 5);
        int[] latest = {0, 0, 1, 1, 2, 2, 3, 3, 4, 4, 4, 4};
        for (int most = 0; most < latest.length; most++) x.due(latest[most], "latest", 0, most);
        x.ask("set", 5, 0, 4);
        int[] sooner = {-1, -1, 0, 0, 1, 1, 2, 2, 3, 3, 3};
        for (int most = 0; most < sooner.length; most++) x.due(sooner[most], "latest", 0, most);
        x.ask("set", 5, 0, 1);
        x.due(0, "latest", 0, 8);
        x.due(NONE, "latest", 0, 7);
        x.ask("set", 5, 0, 120);
        x.due(115, "latest", 0, 0);
        x.due(119, "latest", 0, 8);
        x.due(119, "latest", 0, 2400);
        x.due(50, "told", 0, 0, 1);
        Asked y = fresh();
        y.ask("people", 10, 605);
        y.ask("car", 1, 1, 0);
        y.ask("way", 1, 0, 4);
        y.rule("heard", "0", "1");
        y.ask("set", 5, 0, 10);
        y.due(0, "latest", 0, 0);
        y.due(1, "latest", 0, 1);
        y.due(8, "latest", 0, 8);
        y.due(9, "latest", 0, 9);
    }

    private static void more() {
        says(TERMS_2, "CARS MORE: the fewest (0 .. 20) like car 0, behind all others, with which no more than so many are LEFT; NONE.");
        Asked x = hill(100, 10, "0", "0", "1");
        x.ask("car", 3, 30, 0);
        x.ask("car", 5, 30, 0);
        x.ask("set", 5, 0, 1);
        int[] most = {100, 92, 91, 89, 88, 86, 85, 35, 34, 33, 32, 31, 0};
        int[] more = {0, 0, 1, 1, 2, 2, 3, 19, 20, 20, 20, -1, -1};
        for (int i = 0; i < most.length; i++) x.due(more[i], "more", 0, most[i]);
        x.due(2, "count", 1);
        x.due(92, "left", 0, NONE);
        Asked y = hill(20, 10, "0", "60 * (wait < 13)", "1");
        y.ask("car", 4, 30, 0);
        y.ask("car", 3, 30, 0);
        y.ask("set", 5, 0, 1);
        y.due(13, "left", 0, 0);
        y.due(1, "more", 0, 9);
        y.due(NONE, "more", 0, 8);
    }

    private static void choose() {
        says(TERMS_2, "CHOOSE: of all WAYS the one with the least HARM; of like ones the first.");
        Asked x = bells(10);
        x.ask("set", 5, 0, 5);
        x.due(0, "choose", 0);
        x.due(10, "choose", 1);
        x.ask("way", 0, 0, 0);
        x.due(0, "choose", 0);
        x.ask("way", 1, 4, 4);
        x.due(2, "choose", 0);
        x.due(8, "choose", 1);
        x.ask("way", 1, 4, 5);
        x.due(2, "choose", 0);
        x.ask("way", 1, 3, 4);
        x.ask("way", 1, 4, 4);
        x.due(4, "choose", 0);
        x.ask("way", 1, 119, 4);
        x.ask("way", 1, 0, 4);
        x.due(7, "choose", 0);
        x.due(0, "choose", 1);
    }

    private static void must() {
        says(TERMS_2, "MUST: ROOM of each car in each MINUTE in which it goes, together, less all that are UP.");
        Asked x = fresh();
        x.due(0, "must");
        x.ask("people", 400, 10);
        x.due(-400, "must");
        x.ask("car", 60, 30, 0);
        x.due(180 - 400, "must");
        x.ask("set", 5, 0, 91);
        x.due(240 - 400, "must");
        x.ask("car", 7, 30, 90);
        x.due(247 - 400, "must");
        x.ask("set", 5, 0, 90);
        x.due(180 - 400, "must");
        x.ask("shut", 30, 30);
        x.due(120 - 400, "must");
        x.ask("shut", 0, 119);
        x.due(-400, "must");
        for (int sort = 1; sort < 6; sort++) x.ask("people", 400, 10);
        x.due(-2400, "must");
        Asked most = fresh();
        for (int car = 0; car < 4; car++) most.ask("car", 60, 1, 0);
        most.ask("set", 5, 0, 120);
        most.due(60 * 4 * 120, "must");
    }

    private static void nobodyUp() {
        says(TERMS_2, "NOBODY UP FROM: the latest MINUTE from which it is FAR minutes (of a SORT) to one in which some car goes; NONE.");
        Asked x = fresh();
        x.ask("people", 0, 40010);
        x.due(NONE, "latestUp", 0);
        x.ask("car", 1, 30, 10);
        int[] ends = {10, 11, 40, 41, 70, 71, 90, 120};
        int[] far40 = {-1, -1, -1, 0, 0, 30, 30, 60};
        int[] far0 = {-1, 10, 10, 40, 40, 70, 70, 100};
        int[] far10 = {-1, 0, 0, 30, 30, 60, 60, 90};
        int[] far11 = {-1, -1, -1, 29, 29, 59, 59, 89};
        for (int i = 0; i < ends.length; i++) {
            x.ask("set", 5, 0, ends[i]);
            x.ask("set", 1, 0, 40);
            x.due(far40[i], "latestUp", 0);
            x.ask("set", 1, 0, 0);
            x.due(far0[i], "latestUp", 0);
            x.ask("set", 1, 0, 10);
            x.due(far10[i], "latestUp", 0);
            x.ask("set", 1, 0, 11);
            x.due(far11[i], "latestUp", 0);
        }
        x.ask("car", 1, 1, 119);
        x.due(108, "latestUp", 0);
        x.ask("set", 5, 0, 119);
        x.due(89, "latestUp", 0);
        x.ask("shut", 100, 100);
        x.due(59, "latestUp", 0);
        x.ask("shut", 40, 119);
        x.due(NONE, "latestUp", 0);
    }

    private static void told() {
        says(TERMS_2, "TOLD calls: a SHEET tells CALLS (0 .. 99) for MINUTES from 0 on (behind its end 0): how many are LEFT by a WAY (KIND 0) with these.");
        Asked x = bells(200);
        x.rule("heard - 3", "0", "1");
        x.ask("set", 5, 0, 3);
        row(x, 0, 0, 0);
        x.due(200, "judge", 0);
        row(x, 0, 0, 99);
        x.due(151, "judge", 0);
        row(x, 0, 0);
        x.due(200, "judge", 0);
        row(x, 0, 1, 0, 99);
        x.due(151, "judge", 0);
        row(x, 0, 1, 0, 0, 99, 99);
        x.due(151, "judge", 0);
        row(x, 0, 1, 0, 0, 0, 99);
        x.due(200, "judge", 0);
        row(x, 0, 2, 100);
        x.refused(BAD, "judge", 0);
        row(x, 0, 2, -1);
        x.refused(BAD, "judge", 0);
        row(x, 0, 2, 0, 0, 0, 100);
        x.refused(BAD, "judge", 0);
        x.rule("9 * (price = 1)", "2 * (price = 1) + 60 * heard", "1");
        row(x, 0, 2, 0);
        x.due(200 - 12 - 12 - 11, "judge", 0);
    }

    private static void behind() {
        says(TERMS_2, "BEHIND: the first MINUTE behind which as many as so many are DOWN; NONE.");
        Asked x = hill(9, 600, "2", "0", "1");
        x.ask("car", 3, 2, 1);
        x.ask("set", 5, 0, 6);
        int[] behind = {0, 1, 1, 1, 3, 3, 3, 5, 5, 5, -1};
        for (int many = 0; many < behind.length; many++) x.due(behind[many], "behind", 0, many);
        x.ask("set", 5, 0, 5);
        x.due(NONE, "behind", 0, 7);
        x.due(3, "behind", 0, 6);
        x.due(0, "behind", 0, 0);
        x.due(NONE, "behind", 0, 2400);
        Asked most = fresh();
        for (int sort = 0; sort < 6; sort++) most.ask("people", 400, 10);
        for (int car = 0; car < 4; car++) most.ask("car", 60, 1, 0);
        most.ask("way", 0, 0, 0);
        most.rule("0", "0", "1");
        most.due(9, "behind", 0, 2400);
        most.ask("set", 5, 0, 10);
        most.due(9, "behind", 0, 2400);
        most.ask("set", 5, 0, 9);
        most.due(NONE, "behind", 0, 2400);
        most.due(8, "behind", 0, 2160);
    }

    private static void image() {
        says(TERMS_2, "AN IMAGE keeps UP, FAR, SLOW, HEARS of all SORTS, SUN, END, when it is SHUT, THE RULE");
        Asked x = world();
        for (int sort = 0; sort < 2; sort++) {
            for (int what = 0; what < 4; what++) x.ask("set", what, sort, 8);
        }
        x.ask("set", 4, 0, 8);
        x.ask("set", 4, 119, 8);
        x.ask("back");
        int[][] kept = {{0, 0, 40}, {1, 0, 3}, {2, 0, 10}, {3, 0, 5}, {0, 1, 30}, {1, 1, 0}, {2, 1, 20}, {3, 1, 9}, {4, 0, 5}, {4, 6, 9},
            {4, 7, 5}, {4, 119, 5}, {5, 0, 90}};
        for (int[] k : kept) x.due(k[2], "set", k[0], k[1], 1);
        x.due(1, "count", 6);
        x.ask("set", 5, 0, 23);
        x.due(6 * 5 + 3 * 3 - 1 - 1 - 20, "must");
        x.ask("set", 5, 0, 34);
        x.due(6 * 7 + 3 * 4 - 22, "must");
        x.ask("shut", NONE, 0);
        x.ask("image");
        x.ask("shut", 0, 119);
        x.ask("back");
        x.due(6 * 8 + 3 * 5 - 22, "must");
        int[] notKept = {3, 2, 3, 34, 2, 7, 1, 22};
        for (int what = 0; what < 8; what++) x.due(notKept[what], "count", what);
    }

    private static void imageOfSorts() {
        says(TERMS_2, "(SORTS that came since stay as they are).");
        Asked x = fresh();
        x.ask("image");
        for (int sort = 0; sort < 6; sort++) {
            x.ask("people", 10 + sort, 2013);
            x.ask("back");
            x.due(sort + 1, "count", 0);
        }
        for (int sort = 0; sort < 6; sort++) x.due(10 + sort, "set", 0, sort, 50 + sort);
        x.ask("back");
        for (int sort = 0; sort < 6; sort++) x.due(50 + sort, "set", 0, sort, 1);
        Asked y = fresh();
        y.ask("people", 3, 10);
        y.ask("image");
        y.ask("people", 4, 4056);
        y.ask("set", 0, 0, 9);
        y.ask("set", 0, 1, 7);
        y.ask("back");
        int[][] are = {{0, 0, 3}, {0, 1, 7}, {1, 1, 4}, {2, 1, 5}, {3, 1, 6}};
        for (int[] a : are) y.due(a[2], "set", a[0], a[1], 1);
    }
}
