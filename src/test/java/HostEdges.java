/** The bounds of SHEETS, of what they hold, and of what is taken from them; promises 26 to 30. */
final class HostEdges extends Edges {
    private static final long[] NO_SHEETS = {-1, 4, MIN, MAX};

    private HostEdges() {
    }

    static void all() {
        sheetsAreMissing();
        sortsOfSheets();
        sheet();
        sheetRefused();
        cell();
        cellRefused();
        copy();
        copyRefused();
        sorts();
        sortsRefused();
        sortsOutside();
        taken();
        takenRefused();
    }

    private static void sheetsAreMissing() {
        says(TERMS_3, "SHEETS 0 .. 3 are rows of numbers, or missing (as all are at first):");
        Asked x = fresh();
        for (int sheet = 0; sheet < 4; sheet++) {
            x.refused(NOTHING, "cell", sheet, 0, 0);
            x.refused(NOTHING, "judge", sheet);
            x.refused(NOTHING, "sorts", sheet, 0, 0, 0);
            x.refused(NOTHING, "copy", sheet, 0, 0, 0, 0);
        }
        for (int sheet = 0; sheet < 4; sheet++) {
            x.due(1, "sheet", sheet, 2, 1);
            x.due(1, "cell", sheet, 0, 9);
            x.due(1, "sheet", sheet, -1, 0);
            x.refused(NOTHING, "cell", sheet, 0, 0);
        }
        for (long sheet : NO_SHEETS) x.refused(BAD, "sheet", sheet, 2, 1);
    }

    /** How many are up by a cell, from 0 to 400; NONE if the cell holds none such. */
    private static void held(int sort, long v, long due) {
        Asked x = fresh();
        row(x, 0, sort, v, 10);
        x.due(due == NONE ? 0 : 1, "sorts", 0, sort, 0, 1);
        x.due(due == NONE ? 0 : due, "count", 7);
    }

    private static void sortsOfSheets() {
        says(TERMS_3, "of sort 0 bytes, 1 shorts, 2 ints.");
        held(0, 127, 127);
        held(0, 128, NONE);
        held(1, 128, 128);
        held(1, 400, 400);
        held(2, 400, 400);
        Asked x = fresh();
        for (int sort = 0; sort < 3; sort++) row(x, sort, sort, 1, 40);
        for (int sort = 0; sort < 3; sort++) {
            for (int taken = 0; taken < 3; taken++) x.due(sort == taken ? 0 : UNLIKE, "sorts", sort, taken, 0, 0);
        }
        row(x, 1, 1, 1, 32767);
        x.due(0, "sorts", 1, 1, 0, 1);
        row(x, 1, 1, 1, 32609);
        x.due(1, "sorts", 1, 1, 0, 1);
        row(x, 1, 1, 1, 33010);
        x.due(0, "sorts", 1, 1, 0, 1);
        row(x, 2, 2, 1, 40609);
        x.due(1, "sorts", 2, 2, 0, 1);
    }

    private static void sheet() {
        says("Promise 26", "A SHEET becomes a row of n of a sort, all 0, or missing (sort -1: n does not matter): 1.");
        int[] sizes = {0, 1, 39, 40};
        for (int sort = 0; sort < 3; sort++) {
            for (int n : sizes) {
                Asked x = world();
                x.due(1, "sheet", 2, sort, n);
                if (n > 0) x.due(1, "cell", 2, n - 1, 0);
                x.refused(OUTSIDE, "cell", 2, n, 1);
                x.due(n, "copy", 2, 0, 2, 0, n);
                x.refused(OUTSIDE, "copy", 2, 0, 2, 0, n + 1);
            }
        }
        Asked x = world();
        x.due(1, "sheet", 1, 1, 4);
        x.due(0, "sorts", 1, 1, 0, 2);
        x.due(1, "cell", 1, 1, 10);
        x.due(1, "sorts", 1, 1, 0, 1);
        x.due(0, "set", 0, 3, 0);
        x.due(1, "sheet", 1, 1, 2);
        x.due(1, "sheet", 1, 1, 4);
        x.due(0, "sorts", 1, 1, 0, 2);
        long[] any = {0, -1, 40, 41, MIN, MAX};
        for (long n : any) {
            x.due(1, "sheet", 0, 0, 3);
            x.due(1, "sheet", 0, -1, n);
            x.refused(NOTHING, "cell", 0, 0, 1);
            x.due(1, "sheet", 0, -1, n);
        }
    }

    private static void sheetRefused() {
        says("Promise 26", "BAD: no such SHEET, sort; n above 40; -14.");
        Asked x = world();
        for (long sheet : NO_SHEETS) {
            x.refused(BAD, "sheet", sheet, 0, 3);
            x.refused(BAD, "sheet", sheet, -1, 3);
            x.refused(BAD, "sheet", sheet, 0, -1);
        }
        long[] noSorts = {-2, 3, MIN, MAX};
        for (long sort : noSorts) {
            x.refused(BAD, "sheet", 0, sort, 3);
            x.refused(BAD, "sheet", 0, sort, -1);
        }
        for (int sort = 0; sort < 3; sort++) {
            x.refusedEach(BAD, "sheet", new long[][] {{0, sort, 41}, {3, sort, 41}, {0, sort, MAX}});
            x.refusedEach(BELOW_ZERO, "sheet", new long[][] {{0, sort, -1}, {3, sort, -1}, {0, sort, MIN}});
        }
    }

    private static void cell() {
        says("Promise 27", "Item i of a SHEET becomes v (of bytes, shorts its lowest 8, 16 bits): 1.");
        long[][] bytes = {{0, 0}, {127, 127}, {128, NONE}, {255, NONE}, {256, 0}, {256 + 127, 127}, {-1, NONE}, {-129, 127}, {-256, 0}, {MAX, NONE},
            {MIN, 0}, {MIN + 5, 5}};
        for (long[] b : bytes) held(0, b[0], b[1]);
        long[][] shorts = {{0, 0}, {400, 400}, {401, NONE}, {32767, NONE}, {65535, NONE}, {65536, 0}, {65536 + 400, 400}, {65536 + 401, NONE},
            {-1, NONE}, {-65536, 0}, {-65536 + 400, 400}, {MAX, NONE}, {MIN, 0}, {MIN + 5, 5}};
        for (long[] s : shorts) held(1, s[0], s[1]);
        long[][] ints = {{0, 0}, {400, 400}, {401, NONE}, {256, 256}, {65536, NONE}, {-1, NONE}, {MAX, NONE}, {MIN, NONE}, {MIN + 5, NONE}};
        for (long[] i : ints) held(2, i[0], i[1]);
        Asked x = fresh();
        x.ask("sheet", 3, 2, 40);
        for (int i = 0; i < 40; i++) x.due(1, "cell", 3, i, i % 2 == 0 ? i : 10);
        x.due(1, "sorts", 3, 2, 0, 1);
        x.due(1, "sorts", 3, 2, 38, 1);
        x.due(38, "count", 7);
    }

    private static void cellRefused() {
        says("Promise 27", "BAD: no such SHEET; -11; -12.");
        Asked x = world();
        for (long sheet : NO_SHEETS) x.refusedEach(BAD, "cell", new long[][] {{sheet, 0, 5}, {sheet, -1, 5}});
        x.refusedEach(NOTHING, "cell", new long[][] {{3, 0, 5}, {3, -1, 5}, {3, 40, 5}, {3, MIN, 5}});
        int[] sizes = {3, 4, 4};
        for (int sheet = 0; sheet < 3; sheet++) {
            long[] outside = {-1, sizes[sheet], 39, 40, MIN, MAX};
            for (long i : outside) x.refused(OUTSIDE, "cell", sheet, i, 5);
        }
        x.due(1, "sheet", 0, 0, 0);
        x.refusedEach(OUTSIDE, "cell", new long[][] {{0, 0, 5}, {0, -1, 5}});
    }

    private static void dueUp(Asked x, int sheet, int sort, long... up) {
        x.due(up.length, "sorts", sheet, sort, 0, up.length);
        for (int k = 0; k < up.length; k++) x.due(up[k], "set", 0, k, 0);
    }

    private static void copy() {
        says("Promise 28", "n numbers of a SHEET, from item i on, come to another one's item j on (as they were): n.");
        for (int sort = 0; sort < 3; sort++) {
            Asked x = fresh();
            row(x, 0, sort, 1, 10, 2, 10, 3, 10);
            row(x, 1, sort, 4, 10, 5, 10, 6, 10, 7, 10);
            x.due(0, "copy", 0, 6, 1, 8, 0);
            x.due(0, "copy", 0, 0, 1, 0, 0);
            x.due(2, "copy", 0, 4, 1, 6, 2);
            x.due(1, "copy", 0, 0, 1, 2, 1);
            x.due(6, "copy", 0, 0, 0, 0, 6);
            dueUp(x, 1, sort, 4, 1, 6, 3);
            Asked all = fresh();
            row(all, 0, sort, 1, 10, 2, 10, 3, 10);
            row(all, 1, sort, 0, 0, 0, 0, 0, 0);
            all.due(6, "copy", 0, 0, 1, 0, 6);
            dueUp(all, 1, sort, 1, 2, 3);
            Asked upward = fresh();
            row(upward, 0, sort, 1, 10, 2, 10, 3, 10, 4, 10);
            upward.due(6, "copy", 0, 0, 0, 2, 6);
            dueUp(upward, 0, sort, 1, 1, 2, 3);
            Asked downward = fresh();
            row(downward, 0, sort, 1, 10, 2, 10, 3, 10, 4, 10);
            downward.due(6, "copy", 0, 2, 0, 0, 6);
            dueUp(downward, 0, sort, 2, 3, 4, 4);
        }
        Asked most = fresh();
        most.ask("sheet", 0, 0, 40);
        most.ask("sheet", 1, 0, 40);
        most.due(40, "copy", 0, 0, 1, 0, 40);
        most.refused(OUTSIDE, "copy", 0, 0, 1, 0, 41);
        most.due(0, "copy", 0, 40, 1, 40, 0);
    }

    private static void copyRefused() {
        says("Promise 28", "BAD: no such SHEET; -11; -13: they are of unlike sorts; -12 (also with n below 0).");
        Asked x = world();
        for (long sheet : NO_SHEETS) {
            x.refusedEach(BAD, "copy", new long[][] {{sheet, 0, 0, 0, 1}, {0, 0, sheet, 0, 1}, {sheet, 0, 3, 0, 1}, {3, 0, sheet, 0, 1}});
        }
        x.refusedEach(NOTHING, "copy", new long[][] {{3, 0, 0, 0, 1}, {0, 0, 3, 0, 1}, {3, 0, 3, 0, 0}, {3, -1, 0, -1, -1}, {0, 9, 3, 9, 9}});
        x.refusedEach(UNLIKE, "copy", new long[][] {{0, 0, 1, 0, 1}, {1, 0, 0, 0, 0}, {1, 0, 2, 0, 1}, {2, 0, 0, 0, 1}, {0, -1, 1, -1, -1}});
        x.ask("sheet", 3, 2, 3);
        x.due(3, "copy", 2, 1, 3, 0, 3);
        x.refusedEach(OUTSIDE, "copy", new long[][] {{2, 2, 3, 0, 3}, {2, 1, 3, 1, 3}, {2, 0, 3, 0, 4}, {2, -1, 3, 0, 1}, {2, 0, 3, -1, 1},
            {2, 4, 3, 0, 1}, {2, 0, 3, 3, 1}, {2, 5, 3, 0, 0}, {2, 0, 3, 4, 0}, {2, -1, 3, 0, 0}, {2, 0, 3, -1, 0}, {2, 0, 3, 0, -1}, {2, 4, 3, 3, -1},
            {2, 0, 3, 0, MIN}, {2, 0, 3, 0, MAX}, {2, 1, 3, 1, MAX}, {2, MAX, 3, 0, 1}, {2, 0, 3, MAX, 1}, {2, MAX, 3, MAX, MAX}, {2, MIN, 3, 0, 1},
            {2, 0, 3, MIN, 1}, {2, MIN, 3, MIN, MIN}});
    }

    private static void sorts() {
        says("Promise 29", "SORTS by a SHEET that is taken for one of a sort: from one on, two by two (as of people()), n of them (0 .. 8):"
            + " how many came (others are left out).");
        Asked x = fresh();
        row(x, 0, 2, 400, 40609, 401, 10, -1, 10, 5, 0, 5, 610, 5, 41010, 5, -1, 0, 10, 9);
        x.due(0, "sorts", 0, 2, 0, 0);
        x.due(0, "count", 0);
        x.due(2, "sorts", 0, 2, 0, 8);
        int[][] are = {{400, 40, 60, 9}, {0, 0, 1, 0}};
        for (int sort = 0; sort < 2; sort++) {
            for (int what = 0; what < 4; what++) x.due(are[sort][what], "set", what, sort, 1);
        }
        x.due(1, "sorts", 0, 2, 14, 1);
        x.due(0, "sorts", 0, 2, 2, 6);
        x.due(3, "count", 0);
        Asked odd = fresh();
        row(odd, 0, 0, 0, 7, 10, 8, 20);
        odd.due(2, "sorts", 0, 0, 1, 2);
        odd.due(15, "count", 7);
        Asked many = fresh();
        row(many, 0, 1, 1, 10, 2, 10, 3, 10, 4, 10, 5, 10, 6, 10, 7, 10, 8, 10);
        many.due(6, "sorts", 0, 1, 0, 8);
        many.due(21, "count", 7);
        many.due(0, "sorts", 0, 1, 12, 2);
        many.due(21, "count", 7);
        many.refused(BAD, "sorts", 0, 1, 0, 9);
    }

    private static void sortsRefused() {
        says("Promise 29", "BAD: no such SHEET, sort, n; -13; -11;");
        Asked x = world();
        for (long sheet : NO_SHEETS) x.refusedEach(BAD, "sorts", new long[][] {{sheet, 1, 0, 1}, {sheet, 1, -1, 0}});
        long[] noSorts = {-1, 3, MIN, MAX};
        for (long sort : noSorts) x.refusedEach(BAD, "sorts", new long[][] {{1, sort, 0, 1}, {3, sort, 0, 0}});
        long[] numbers = {-1, 9, MIN, MAX};
        for (long n : numbers) x.refusedEach(BAD, "sorts", new long[][] {{1, 1, 0, n}, {3, 1, 0, n}, {1, 0, 0, n}});
        x.refusedEach(UNLIKE, "sorts", new long[][] {{1, 0, 0, 1}, {1, 2, 0, 1}, {0, 1, 0, 0}, {2, 0, -1, 8}, {2, 1, 9, 1}});
        for (int sort = 0; sort < 3; sort++) x.refusedEach(NOTHING, "sorts", new long[][] {{3, sort, 0, 1}, {3, sort, 0, 0}, {3, sort, -1, 8}});
    }

    private static void sortsOutside() {
        says("Promise 29", "-12: what stood ahead came.");
        Asked x = world();
        x.refusedEach(OUTSIDE, "sorts", new long[][] {{1, 1, -1, 1}, {1, 1, 3, 1}, {1, 1, 4, 1}, {1, 1, -2, 8}, {1, 1, MIN, 1}, {1, 1, MAX, 1},
            {1, 1, MAX - 1, 8}, {1, 1, MIN, 8}});
        x.due(1, "sorts", 1, 1, 0, 1);
        x.due(OUTSIDE, "sorts", 1, 1, 2, 2);
        x.due(5, "count", 0);
        x.due(50 + 30 + 20 + 11 + 12, "count", 7);
        Asked half = fresh();
        row(half, 0, 2, 1, 10, 2, 10, 3);
        half.due(OUTSIDE, "sorts", 0, 2, 0, 3);
        half.due(2, "count", 0);
        half.due(3, "count", 7);
        half.due(2, "sorts", 0, 2, 0, 2);
        half.due(4, "count", 0);
        half.refused(OUTSIDE, "sorts", 0, 2, 4, 1);
        half.due(0, "sorts", 0, 2, 5, 0);
        half.due(OUTSIDE, "sorts", 0, 2, 0, 8);
        half.due(6, "count", 0);
        half.refused(OUTSIDE, "sorts", 0, 2, 0, 8);
        Asked none = fresh();
        none.ask("sheet", 0, 0, 0);
        none.refused(OUTSIDE, "sorts", 0, 0, 0, 1);
        none.due(0, "sorts", 0, 0, 0, 0);
    }

    private static void taken() {
        says("Promise 30", "A WAY taken for one of KIND k (0 .. 5), or one under that one (also by others between): its NUMBER.");
        Asked x = fresh();
        for (int kind = 0; kind < 6; kind++) x.ask("way", kind, 0, kind + 4);
        x.ask("way", 5, 0, 0);
        int[][] taken = {{0, 0}, {1, 1}, {1, 0}, {2, 2}, {2, 0}, {3, 3}, {3, 1}, {3, 0}, {4, 4}, {4, 2}, {4, 0}, {5, 5}, {5, 3}, {5, 1}, {5, 0}};
        for (int[] t : taken) x.due(t[0] + 4, "taken", t[0], t[1]);
        x.due(0, "taken", 6, 5);
        x.due(0, "taken", 6, 0);
    }

    private static void takenRefused() {
        says("Promise 30", "BAD: k; -11: no such WAY; -13.");
        Asked x = fresh();
        x.refused(NOTHING, "taken", 0, 0);
        for (int kind = 0; kind < 6; kind++) x.ask("way", kind, 0, 7);
        long[] noKinds = {-1, 6, MIN, MAX};
        for (long k : noKinds) x.refusedEach(BAD, "taken", new long[][] {{0, k}, {5, k}, {-1, k}, {6, k}});
        long[] noWays = {-1, 6, 8, MIN, MAX};
        for (long way : noWays) x.refusedEach(NOTHING, "taken", new long[][] {{way, 0}, {way, 5}});
        int[][] unlike = {{0, 1}, {0, 2}, {0, 3}, {0, 4}, {0, 5}, {1, 2}, {1, 3}, {1, 4}, {1, 5}, {2, 1}, {2, 3}, {2, 4}, {2, 5}, {3, 2}, {3, 4},
            {3, 5}, {4, 1}, {4, 3}, {4, 5}, {5, 2}, {5, 4}};
        for (int[] u : unlike) x.refused(UNLIKE, "taken", u[0], u[1]);
    }
}
