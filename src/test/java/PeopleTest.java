/** Promises 1 to 7: a new object, people, car, way, set, shut, told. */
final class PeopleTest {
    private static final int MIN = Integer.MIN_VALUE;
    private static final int MAX = Integer.MAX_VALUE;

    private PeopleTest() {
    }

    public static void main(String[] args) {
        newObject();
        people();
        car();
        way();
        set();
        setKeepsNothingBad();
        shut();
        shutHoldsBackCars();
        toldCalls();
        toldAsks();
        toldRefusals();
        Due.end("PeopleTest");
    }

    private static void newObject() {
        LastCar x = new LastCar();
        int[] counts = {0, 0, 0, 90, 1, 0, 0, 0};
        for (int what = 0; what < 8; what++) Due.be("count(" + what + ") of a new one", x.count(what), counts[what]);
        for (int sheet = 0; sheet < 4; sheet++) Due.be("cell of a new one", x.cell(sheet, 0, 0), -11);
        for (int minute = 0; minute < 120; minute++) Due.be("sun of a new one", x.set(4, minute, 5), 5);
        Due.be("left of a new one", x.left(0, -1), -2);
        Due.be("image of a new one", x.back(), -3);
        Due.be("must of a new one", x.must(), 0);
        Due.be("two objects share nothing", x.people(1, 10) + new LastCar().count(0), 0);
    }

    private static void people() {
        LastCar x = new LastCar();
        int[][] bad = {{-1, 10}, {401, 10}, {MIN, 10}, {MAX, 10}, {5, 0}, {5, 9}, {5, 610}, {5, 990}, {5, 41010}, {5, -1},
            {5, -10}, {5, MIN}, {5, MAX}, {5, 40000}};
        for (int[] b : bad) Due.be("people(" + b[0] + ", " + b[1] + ")", x.people(b[0], b[1]), -2);
        Due.be("people(0, 10)", x.people(0, 10), 0);
        Due.be("people(400, 40609)", x.people(400, 40609), 1);
        Due.be("FAR of it", x.set(1, 1, 0), 40);
        Due.be("SLOW of it", x.set(2, 1, 1), 60);
        Due.be("HEARS of it", x.set(3, 1, 1), 9);
        for (int sort = 2; sort < 6; sort++) Due.be("people", x.people(sort, 1019), sort);
        Due.be("a seventh", x.people(1, 10), -4);
        Due.be("a bad seventh", x.people(1, 0), -2);
        Due.be("count(0)", x.count(0), 6);
        Due.be("count(7)", x.count(7), 400 + 2 + 3 + 4 + 5);
    }

    private static void car() {
        LastCar x = new LastCar();
        int[][] bad = {{0, 1, 0}, {61, 1, 0}, {1, 0, 0}, {1, 31, 0}, {1, 1, -1}, {1, 1, 120}, {MIN, 1, 0}, {1, MIN, 0},
            {1, MAX, 0}, {1, 1, MAX}};
        for (int[] b : bad) Due.be("car(" + b[0] + ", " + b[1] + ", " + b[2] + ")", x.car(b[0], b[1], b[2]), -2);
        Due.be("car(1, 1, 0)", x.car(1, 1, 0), 0);
        Due.be("must()", x.must(), 90);
        Due.be("car(60, 30, 119)", x.car(60, 30, 119), 1);
        Due.be("must()", x.must(), 90);
        Due.be("car(60, 30, 0)", x.car(60, 30, 0), 2);
        Due.be("must()", x.must(), 90 + 3 * 60);
        Due.be("car(3, 7, 4)", x.car(3, 7, 4), 3);
        Due.be("a fifth", x.car(1, 1, 0), -4);
        Due.be("a bad fifth", x.car(0, 1, 0), -2);
        Due.be("count(1)", x.count(1), 4);
    }

    private static void way() {
        LastCar x = new LastCar();
        int[][] bad = {{-1, 0, 0}, {6, 0, 0}, {0, -1, 0}, {0, 120, 0}, {0, 0, -1}, {0, 0, 10}, {MIN, 0, 0}, {0, MAX, 0},
            {0, 0, MAX}};
        for (int[] b : bad) Due.be("way(" + b[0] + ", " + b[1] + ", " + b[2] + ")", x.way(b[0], b[1], b[2]), -2);
        for (int way = 0; way < 8; way++) {
            Due.be("way", x.way(way % 6, way * 17, way), way);
            Due.be("KIND", x.told(way, 119, 0), way % 6);
            Due.be("FROM", x.told(way, 0, 1), way * 17);
            Due.be("NUMBER", x.told(way, 5, 2), way);
        }
        Due.be("a ninth", x.way(0, 0, 0), -4);
        Due.be("a bad ninth", x.way(6, 0, 0), -2);
        Due.be("count(2)", x.count(2), 8);
    }

    private static void set() {
        LastCar x = new LastCar();
        x.people(7, 3052);
        x.people(8, 4063);
        int[][] calls = {{0, 0, 400, 7}, {0, 0, 0, 400}, {0, 1, 9, 8}, {1, 0, 40, 3}, {1, 1, 0, 4}, {2, 0, 60, 5}, {2, 1, 1, 6},
            {3, 0, 9, 2}, {3, 1, 0, 3}, {4, 0, 9, 5}, {4, 119, 0, 5}, {4, 0, 1, 9}, {5, 0, 1, 90}, {5, MIN, 120, 1}, {5, MAX, 2, 120}};
        for (int[] c : calls) Due.be("set(" + c[0] + ", " + c[1] + ", " + c[2] + ")", x.set(c[0], c[1], c[2]), c[3]);
        Due.be("count(7)", x.count(7), 9);
        Due.be("count(3)", x.count(3), 2);
        Due.be("SLOW is as it was set", x.set(2, 0, 1), 60);
    }

    private static void setKeepsNothingBad() {
        LastCar x = new LastCar();
        Due.be("set of no sort", x.set(0, 0, 1), -2);
        x.people(7, 3052);
        int[][] bad = {{-1, 0, 1}, {6, 0, 1}, {0, -1, 1}, {0, 1, 1}, {0, 0, -1}, {0, 0, 401}, {1, 0, 41}, {1, 0, -1}, {2, 0, 0},
            {2, 0, 61}, {3, 0, 10}, {3, 0, -1}, {4, -1, 1}, {4, 120, 1}, {4, 0, 10}, {4, 0, -1}, {5, 0, 0}, {5, 0, 121},
            {MIN, 0, 1}, {MAX, 0, 1}, {0, MAX, 1}, {4, MIN, 1}, {5, 0, MAX}};
        for (int[] b : bad) Due.be("set(" + b[0] + ", " + b[1] + ", " + b[2] + ")", x.set(b[0], b[1], b[2]), -2);
        int[] was = {7, 3, 5, 2, 5, 90};
        for (int what = 0; what < 6; what++) Due.be("what it was " + what, x.set(what, 0, 1), was[what]);
    }

    private static void shut() {
        LastCar x = new LastCar();
        x.car(1, 1, 0);
        int[][] bad = {{-2, 5}, {120, 120}, {5, 4}, {5, 120}, {5, -1}, {0, MAX}, {MIN, 5}, {MAX, MAX}};
        for (int[] b : bad) Due.be("shut(" + b[0] + ", " + b[1] + ")", x.shut(b[0], b[1]), -2);
        Due.be("must() as never shut", x.must(), 90);
        Due.be("shut(3, 3)", x.shut(3, 3), 1);
        Due.be("must()", x.must(), 89);
        Due.be("shut(0, 119)", x.shut(0, 119), 1);
        Due.be("must()", x.must(), 0);
        Due.be("a bad one changes nothing", x.shut(7, 6), -2);
        Due.be("must()", x.must(), 0);
        Due.be("shut(80, 119)", x.shut(80, 119), 1);
        Due.be("must()", x.must(), 80);
        Due.be("shut(-1, 77)", x.shut(-1, 77), 1);
        Due.be("must()", x.must(), 90);
    }

    private static void shutHoldsBackCars() {
        LastCar x = new LastCar();
        x.people(10, 10);
        x.car(2, 1, 0);
        x.way(0, 0, 0);
        Due.rule(x, "400", "0", "1");
        x.shut(2, 4);
        int[] down = {2, 4, 4, 4, 4, 6, 8, 10, 10};
        for (int m = 0; m < down.length; m++) Due.be("down behind " + m, x.down(0, -1, m), down[m]);
    }

    private static void toldCalls() {
        LastCar x = new LastCar();
        for (int kind = 0; kind < 6; kind++) x.way(kind, 30, 4);
        int[] minutes = {0, 20, 29, 30, 31, 39, 40, 119, 110};
        int[][] calls = {{0, 0, 0, 0, 0, 0, 0, 0, 0}, {0, 0, 0, 4, 4, 4, 4, 4, 4}, {0, 0, 0, 0, 0, 0, 0, 0, 0},
            {0, 0, 0, 9, 4, 4, 9, 4, 9}, {0, 0, 0, 0, 0, 0, 0, 0, 0}, {0, 0, 0, 18, 8, 8, 18, 8, 18}};
        for (int way = 0; way < 6; way++) {
            for (int k = 0; k < minutes.length; k++) {
                Due.be("CALLS of KIND " + way + " in " + minutes[k], x.told(way, minutes[k], 3), calls[way][k]);
            }
        }
    }

    private static void toldAsks() {
        LastCar x = new LastCar();
        for (int kind = 0; kind < 6; kind++) x.way(kind, 30, 4);
        int[] minutes = {0, 29, 30, 31, 40, 119};
        int[][] asks = {{1, 1, 1, 1, 1, 1}, {1, 1, 1, 1, 1, 1}, {1, 1, 5, 5, 5, 5}, {0, 0, 0, 0, 0, 0}, {2, 2, 10, 10, 10, 10},
            {4, 4, 4, 4, 4, 4}};
        for (int way = 0; way < 6; way++) {
            for (int k = 0; k < minutes.length; k++) {
                Due.be("ASKS of KIND " + way + " in " + minutes[k], x.told(way, minutes[k], 4), asks[way][k]);
            }
        }
    }

    private static void toldRefusals() {
        LastCar x = new LastCar();
        Due.be("no WAY", x.told(0, 0, 0), -2);
        x.way(0, 0, 0);
        int[][] bad = {{-1, 0, 0}, {1, 0, 0}, {0, -1, 0}, {0, 120, 0}, {0, 120, 1}, {0, -1, 2}, {0, 0, -1}, {0, 0, 5}, {0, MIN, 3},
            {MAX, 0, 0}, {0, 0, MAX}, {0, MAX, 4}};
        for (int[] b : bad) Due.be("told(" + b[0] + ", " + b[1] + ", " + b[2] + ")", x.told(b[0], b[1], b[2]), -2);
    }
}
