/** Promises 26 to 30: sheet, cell, copy, sorts, taken. */
final class HostTest {
    private static final int MIN = Integer.MIN_VALUE;
    private static final int MAX = Integer.MAX_VALUE;
    private static final int[] NO_SHEETS = {-1, 4, MIN, MAX};

    private HostTest() {
    }

    public static void main(String[] args) {
        sheet();
        cell();
        cellsBySort();
        copy();
        copyOverItself();
        copyRefusals();
        sorts();
        sortsOutside();
        sortsRefusals();
        sortsWhenFull();
        taken();
        Due.end("HostTest");
    }

    private static void sheet() {
        LastCar x = new LastCar();
        for (int sheet : NO_SHEETS) Due.be("sheet(" + sheet + ", 0, 0)", x.sheet(sheet, 0, 0), -2);
        int[][] bad = {{-2, 0, -2}, {3, 0, -2}, {MAX, 0, -2}, {MIN, -5, -2}, {0, 41, -2}, {2, MAX, -2}, {0, -1, -14}, {1, MIN, -14}};
        for (int[] b : bad) Due.be("sheet(0, " + b[0] + ", " + b[1] + ")", x.sheet(0, b[0], b[1]), b[2]);
        Due.be("it is missing still", x.cell(0, 0, 0), -11);
        for (int sort = 0; sort < 3; sort++) Due.be("sheet(0, " + sort + ", 40)", x.sheet(0, sort, 40), 1);
        Due.be("the last of 40", x.cell(0, 39, 7), 1);
        Due.be("a bad one changes nothing", x.sheet(0, 2, 41), -2);
        Due.be("a size below 0 neither", x.sheet(0, 2, -1), -14);
        Due.be("the last of 40", x.cell(0, 39, 500), 1);
        Due.be("it holds 500", x.judge(0), -2);
        Due.be("all 0 again", x.sheet(0, 2, 40), 1);
        Due.be("it holds 0", x.judge(0), 0);
        x.cell(0, 1, 10);
        Due.be("one comes by it", x.sorts(0, 2, 0, 1), 1);
        Due.be("of 0", x.count(7), 0);
        int[] sizes = {5, -1, 41, MIN, MAX};
        for (int n : sizes) {
            Due.be("missing", x.sheet(0, -1, n), 1);
            Due.be("it is", x.judge(0), -11);
            Due.be("of nothing", x.sheet(0, 0, 0), 1);
            Due.be("it is", x.cell(0, 0, 0), -12);
        }
        Due.be("the others are missing", x.judge(1) + x.judge(2) + x.judge(3), -33);
    }

    private static void cell() {
        LastCar x = new LastCar();
        for (int sheet : NO_SHEETS) Due.be("cell(" + sheet + ", 0, 0)", x.cell(sheet, 0, 0), -2);
        Due.be("a missing one", x.cell(2, -1, 0), -11);
        x.sheet(2, 1, 3);
        int[] outside = {-1, 3, 40, MIN, MAX};
        for (int i : outside) Due.be("cell(2, " + i + ", 0)", x.cell(2, i, 0), -12);
        for (int i = 0; i < 3; i++) Due.be("cell(2, " + i + ", 9)", x.cell(2, i, 9), 1);
    }

    /** What a cell holds, 0 to 400, is told by the UP of a sort that comes by it; -1: it is none such. */
    private static int held(int sort, int v) {
        LastCar x = new LastCar();
        x.sheet(0, sort, 2);
        x.cell(0, 0, v);
        x.cell(0, 1, 10);
        return x.sorts(0, sort, 0, 1) == 1 ? x.count(7) : -1;
    }

    private static void cellsBySort() {
        int[][] held = {{0, 127, 127}, {0, 128, -1}, {0, 255, -1}, {0, 256, 0}, {0, 257, 1}, {0, -1, -1}, {0, -256, 0}, {0, -200, 56},
            {1, 400, 400}, {1, 401, -1}, {1, 65536, 0}, {1, 65536 + 300, 300}, {1, 65535, -1}, {1, -65536 + 5, 5}, {2, 400, 400},
            {2, 65536, -1}, {2, 256, 256}, {2, -1, -1}, {2, MIN, -1}, {1, MIN, 0}, {0, MIN, 0}, {0, MAX, -1}};
        for (int[] h : held) Due.be("cell of sort " + h[0] + " with " + h[1], held(h[0], h[1]), h[2]);
    }

    private static void fill(LastCar x, int sheet, int sort, int... cells) {
        x.sheet(sheet, sort, cells.length);
        for (int i = 0; i < cells.length; i++) x.cell(sheet, i, cells[i]);
    }

    private static void copy() {
        LastCar x = new LastCar();
        fill(x, 0, 2, 1, 10, 2, 10, 3, 10, 4, 10);
        fill(x, 1, 2, 0, 0, 0, 0, 0, 0);
        Due.be("copy(0, 2, 1, 0, 4)", x.copy(0, 2, 1, 0, 4), 4);
        Due.be("two of it come", x.sorts(1, 2, 0, 2), 2);
        Due.be("2 and 3", x.count(7), 5);
        Due.be("the last is 0 still", x.sorts(1, 2, 4, 1), 0);
        Due.be("copy(0, 8, 1, 6, 0)", x.copy(0, 8, 1, 6, 0), 0);
        Due.be("copy(0, 6, 1, 4, 2)", x.copy(0, 6, 1, 4, 2), 2);
        Due.be("4 comes", x.sorts(1, 2, 4, 1), 1);
        Due.be("2, 3 and 4", x.count(7), 9);
        Due.be("the first one is as it was", x.sorts(0, 2, 0, 1), 1);
        Due.be("1, too", x.count(7), 10);
    }

    private static void copyOverItself() {
        LastCar x = new LastCar();
        fill(x, 0, 1, 1, 10, 2, 10, 3, 10, 4, 10);
        Due.be("upward", x.copy(0, 0, 0, 2, 6), 6);
        Due.be("all come", x.sorts(0, 1, 0, 4), 4);
        Due.be("1 1 2 3", x.count(7), 7);
        for (int sort = 0; sort < 4; sort++) Due.be("sort " + sort, x.set(0, sort, 0), new int[] {1, 1, 2, 3}[sort]);
        x = new LastCar();
        fill(x, 0, 1, 1, 10, 2, 10, 3, 10, 4, 10);
        Due.be("downward", x.copy(0, 2, 0, 0, 6), 6);
        Due.be("all come", x.sorts(0, 1, 0, 4), 4);
        for (int sort = 0; sort < 4; sort++) Due.be("sort " + sort, x.set(0, sort, 0), new int[] {2, 3, 4, 4}[sort]);
    }

    private static void copyRefusals() {
        LastCar x = new LastCar();
        fill(x, 0, 2, 1, 2, 3, 4);
        fill(x, 1, 2, 1, 2, 3);
        fill(x, 2, 1, 1, 2, 3);
        for (int sheet : NO_SHEETS) {
            Due.be("copy(" + sheet + ", ..)", x.copy(sheet, 0, 0, 0, 1), -2);
            Due.be("copy(0, 0, " + sheet + ", ..)", x.copy(0, 0, sheet, 0, 1), -2);
            Due.be("ahead of a missing one", x.copy(3, 0, sheet, 0, 1), -2);
        }
        Due.be("from a missing one", x.copy(3, 9, 0, 0, -1), -11);
        Due.be("to a missing one", x.copy(0, 9, 3, 0, -1), -11);
        Due.be("both", x.copy(3, 9, 3, 0, -1), -11);
        Due.be("unlike sorts", x.copy(0, 9, 2, 0, -1), -13);
        int[][] outside = {{-1, 0, 1}, {0, -1, 1}, {0, 0, -1}, {4, 0, 1}, {0, 3, 1}, {2, 0, 3}, {0, 1, 3}, {5, 0, 0}, {0, 4, 0}, {0, 0, MAX},
            {MAX, 0, 1}, {0, MAX, 1}, {1, 1, MAX}, {MAX, MAX, MAX}, {0, 0, MIN}, {MIN, 0, 1}, {0, MIN, 0}, {1, 0, 4}};
        for (int[] o : outside) Due.be("copy(0, " + o[0] + ", 1, " + o[1] + ", " + o[2] + ")", x.copy(0, o[0], 1, o[1], o[2]), -12);
        Due.be("copy(0, 1, 1, 0, 3)", x.copy(0, 1, 1, 0, 3), 3);
    }

    private static void sorts() {
        LastCar x = new LastCar();
        fill(x, 0, 2, 7, 3059, 401, 10, 8, 9, 9, 40609, 0, 10, -1, 10);
        Due.be("two by two, others left out", x.sorts(0, 2, 0, 6), 3);
        int[][] are = {{7, 3, 5, 9}, {9, 40, 60, 9}, {0, 0, 1, 0}};
        for (int sort = 0; sort < 3; sort++) {
            for (int what = 0; what < 4; what++) Due.be("what " + what + " of " + sort, x.set(what, sort, 1), are[sort][what]);
        }
        Due.be("n 0", x.sorts(0, 2, 0, 0), 0);
        Due.be("from another one on", x.sorts(0, 2, 6, 1), 1);
        Due.be("count(0)", x.count(0), 4);
        fill(x, 1, 0, 0, 0, 0, 10, 5, 100);
        Due.be("of bytes", x.sorts(1, 0, 2, 2), 2);
        Due.be("count(7)", x.count(7), 1 + 1 + 1 + 9 + 0 + 5);
    }

    private static void sortsOutside() {
        LastCar x = new LastCar();
        fill(x, 0, 2, 1, 10, 2, 10, 3);
        Due.be("a half one", x.sorts(0, 2, 0, 3), -12);
        Due.be("what stood ahead came", x.count(0), 2);
        Due.be("1 and 2", x.count(7), 3);
        int[] outside = {-1, -2, 4, 5, MIN, MAX, MAX - 1};
        for (int from : outside) Due.be("from " + from, x.sorts(0, 2, from, 8), -12);
        Due.be("none came", x.count(0), 2);
        Due.be("nothing is asked for with n 0", x.sorts(0, 2, 5, 0), 0);
        fill(x, 0, 2, 1, 10, 2, 10);
        Due.be("more than stand there", x.sorts(0, 2, 2, 8), -12);
        Due.be("one came", x.count(7), 5);
    }

    private static void sortsRefusals() {
        LastCar x = new LastCar();
        fill(x, 0, 1, 1, 10);
        for (int sheet : NO_SHEETS) Due.be("sorts(" + sheet + ", ..)", x.sorts(sheet, 1, 0, 1), -2);
        int[] noSorts = {-1, 3, MIN, MAX};
        for (int sort : noSorts) Due.be("sorts(0, " + sort + ", ..)", x.sorts(0, sort, 0, 1), -2);
        int[] numbers = {-1, 9, MIN, MAX};
        for (int n : numbers) {
            Due.be("n " + n, x.sorts(0, 1, 0, n), -2);
            Due.be("n " + n + " of a missing one", x.sorts(1, 1, 0, n), -2);
        }
        Due.be("another sort", x.sorts(0, 0, 9, 1), -13);
        Due.be("another sort, n 0", x.sorts(0, 2, 0, 0), -13);
        Due.be("a missing one", x.sorts(1, 2, 9, 1), -11);
        Due.be("nobody came", x.count(0), 0);
    }

    private static void sortsWhenFull() {
        LastCar x = new LastCar();
        x.sheet(0, 2, 16);
        for (int k = 0; k < 16; k++) x.cell(0, k, k % 2 == 0 ? 1 : 10);
        Due.be("six of eight", x.sorts(0, 2, 0, 8), 6);
        Due.be("none more", x.sorts(0, 2, 0, 8), 0);
    }

    private static void taken() {
        LastCar x = new LastCar();
        for (int kind = 0; kind < 6; kind++) x.way(kind, 0, kind + 1);
        int[][] under = {{0}, {0, 1}, {0, 2}, {0, 1, 3}, {0, 2, 4}, {0, 1, 3, 5}};
        for (int way = 0; way < 6; way++) {
            for (int k = 0; k < 6; k++) {
                int due = -13;
                for (int u : under[way]) if (u == k) due = way + 1;
                Due.be("taken(" + way + ", " + k + ")", x.taken(way, k), due);
            }
        }
        int[] noKinds = {-1, 6, MIN, MAX};
        for (int k : noKinds) {
            Due.be("taken(0, " + k + ")", x.taken(0, k), -2);
            Due.be("taken(9, " + k + ")", x.taken(9, k), -2);
        }
        int[] noWays = {-1, 6, 8, MIN, MAX};
        for (int way : noWays) Due.be("taken(" + way + ", 0)", x.taken(way, 0), -11);
    }
}
