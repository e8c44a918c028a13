/** Promises 11 to 16, and A DAY behind them: left, harm, rode, waits, down, behind. */
final class DayTest {
    private DayTest() {
    }

    public static void main(String[] args) {
        oneByOne();
        farAndLeft();
        goByNames();
        goByWait();
        goBounds();
        slowCuts();
        firstOnes();
        likeOnes();
        carsByNumbers();
        rush();
        rushOfSortZero();
        harm();
        harmBounds();
        noOne();
        sixSorts();
        daysAhead();
        refusals();
        Due.end("DayTest");
    }

    /** Five of SLOW 60 who go one a minute, and a car for two every three minutes from 1 on. */
    private static void oneByOne() {
        LastCar x = new LastCar();
        x.people(5, 600);
        x.car(2, 3, 1);
        x.way(0, 0, 0);
        Due.rule(x, "1", "0", "1");
        int[] down = {0, 2, 2, 2, 4, 4, 4, 5, 5};
        for (int m = 0; m < down.length; m++) {
            Due.be("down(0, -1, " + m + ")", x.down(0, -1, m), down[m]);
            Due.be("down(0, 0, " + m + ")", x.down(0, 0, m), down[m]);
        }
        int[] behind = {0, 1, 1, 4, 4, 7, -1};
        for (int many = 0; many < behind.length; many++) Due.be("behind(0, " + many + ")", x.behind(0, many), behind[many]);
        Due.be("waits(0, 0)", x.waits(0, 0), 2);
        Due.be("waits(0, 1)", x.waits(0, 1), 3);
        Due.be("left(0, -1)", x.left(0, -1), 0);
        x.set(5, 0, 7);
        Due.be("left at END 7", x.left(0, -1), 1);
        Due.be("rode at END 7", x.rode(0, -1), 4);
        Due.be("down(0, 0, 7) at END 7", x.down(0, 0, 7), -2);
        Due.be("the people are up on the hill again", x.count(7), 5);
    }

    private static void farAndLeft() {
        LastCar x = new LastCar();
        x.people(6, 2600);
        x.people(6, 40600);
        x.car(1, 1, 0);
        x.way(0, 0, 0);
        Due.rule(x, "1", "0", "1");
        x.set(5, 0, 5);
        int[] down = {0, 0, 1, 2, 3};
        for (int m = 0; m < 5; m++) Due.be("down(0, -1, " + m + ")", x.down(0, -1, m), down[m]);
        Due.be("left(0, 0): one is up, two are on their way", x.left(0, 0), 3);
        Due.be("left(0, 1)", x.left(0, 1), 6);
        Due.be("left(0, -1)", x.left(0, -1), 9);
        x.set(5, 0, 41);
        Due.be("left(0, 1): who comes in the last minute rides", x.left(0, 1), 5);
        x.set(5, 0, 40);
        Due.be("left(0, 1) a minute less", x.left(0, 1), 6);
    }

    /** How many have come to the platform as no car goes: what waits as the last MINUTE ends. */
    private static long came(LastCar x, int end) {
        x.set(5, 0, end);
        return x.waits(0, 0);
    }

    private static void dueCame(String go, int kind, int from, int number, int[] due) {
        LastCar x = new LastCar();
        x.people(50, 605);
        x.way(kind, from, number);
        x.set(4, 1, 0);
        x.set(4, 2, 9);
        Due.rule(x, go, "0", "1");
        for (int m = 0; m < due.length; m++) Due.be(go + " in " + m + " by KIND " + kind, came(x, m + 1), due[m]);
    }

    private static void goByNames() {
        dueCame("sun", 0, 0, 0, new int[] {5, 5, 14, 19});
        dueCame("price", 0, 0, 0, new int[] {1, 2, 3, 4});
        dueCame("price", 2, 2, 4, new int[] {1, 2, 7, 12});
        dueCame("price", 4, 1, 2, new int[] {2, 8, 14, 20});
        dueCame("price", 3, 0, 2, new int[] {0, 0, 0, 0});
        dueCame("price", 5, 3, 2, new int[] {2, 4, 6, 8});
        dueCame("heard", 0, 0, 9, new int[] {0, 0, 0, 0});
        dueCame("heard", 1, 1, 9, new int[] {0, 4, 8, 12});
        dueCame("heard", 1, 1, 1, new int[] {0, 0, 0, 0});
        dueCame("heard", 3, 1, 1, new int[] {0, 3, 3, 3});
        dueCame("heard", 5, 1, 1, new int[] {0, 6, 7, 8});
        dueCame("up < 50", 0, 0, 0, new int[] {0, 0, 0});
        dueCame("up - 40", 0, 0, 0, new int[] {10, 10, 10});
        dueCame("(left < 3) + 10 * (left = 1)", 0, 0, 0, new int[] {11, 12, 12});
    }

    private static void goByWait() {
        LastCar x = new LastCar();
        x.people(59, 600);
        x.people(59, 600);
        x.way(0, 0, 0);
        x.car(60, 30, 2);
        Due.rule(x, "1 + wait", "0", "1");
        Due.be("down behind 2", x.down(0, -1, 2), 26);
        Due.be("down of 1 behind 2", x.down(0, 1, 2), 13);
        Due.be("none waited then: again 1 of each", x.down(0, -1, 32), 26 + 60);
        x.set(5, 0, 4);
        Due.be("left", x.left(0, -1), 118 - 26);
        Due.be("rode", x.rode(0, 0), 26);
        Due.be("waits", x.waits(0, 0), 8);
    }

    private static void goBounds() {
        int[][] goes = {{9999, 60, 400}, {-9999, 1, 301}, {-99, 1, 301}, {-98, 1, 302}, {-100, 1, 301}, {-7, 60, 0}, {-6, 60, 0}, {-5, 60, 1},
            {394, 60, 400}, {393, 60, 399}};
        for (int[] g : goes) {
            LastCar x = new LastCar();
            x.people(400, g[1] * 10);
            x.way(0, 0, 0);
            Due.rule(x, "" + g[0], "0", "1");
            Due.be("go " + g[0] + " by SLOW " + g[1], came(x, 1), g[2]);
        }
    }

    private static void slowCuts() {
        LastCar x = new LastCar();
        x.people(20, 60);
        x.way(0, 0, 0);
        Due.rule(x, "0", "0", "1");
        int[] came = {3, 5, 7, 9, 10, 11, 12, 13, 14, 15, 15};
        for (int m = 0; m < came.length; m++) Due.be("by SLOW in " + m, came(x, m + 1), came[m]);
    }

    /** FAR 0, 3, 1: they came in 0, 3, 1; a car for 12 goes once. */
    private static void firstOnes() {
        LastCar x = new LastCar();
        x.people(10, 10);
        x.people(10, 3010);
        x.people(10, 1010);
        x.car(12, 30, 5);
        for (int kind = 0; kind < 6; kind++) x.way(kind, 0, 0);
        Due.rule(x, "400", "0", "1");
        x.set(5, 0, 10);
        int[][] down = {{10, 0, 2}, {10, 0, 2}, {10, 0, 2}, {0, 10, 2}, {10, 2, 0}, {0, 10, 2}};
        for (int way = 0; way < 6; way++) {
            for (int sort = 0; sort < 3; sort++) {
                Due.be("down of " + sort + " by KIND " + way, x.down(way, sort, 9), down[way][sort]);
                Due.be("left of " + sort + " by KIND " + way, x.left(way, sort), 10 - down[way][sort]);
            }
        }
    }

    /** Both are FAR 2; the second sort goes a minute ahead of the first. */
    private static void likeOnes() {
        LastCar x = new LastCar();
        x.people(20, 2600);
        x.people(10, 2600);
        x.car(15, 30, 5);
        for (int kind = 0; kind < 6; kind++) x.way(kind, 0, 0);
        Due.rule(x, "400 * (up < 15 or left < 10)", "0", "1");
        x.set(5, 0, 10);
        int[] first = {5, 5, 5, 5, 15, 5};
        for (int way = 0; way < 6; way++) {
            Due.be("down of 0 by KIND " + way, x.down(way, 0, 9), first[way]);
            Due.be("down of 1 by KIND " + way, x.down(way, 1, 9), 15 - first[way]);
        }
        Due.rule(x, "400", "0", "1");
        for (int way = 0; way < 6; way++) Due.be("the least SORT of one MINUTE, KIND " + way, x.down(way, 0, 9), 15);
    }

    private static void carsByNumbers() {
        LastCar x = new LastCar();
        x.people(9, 10);
        x.car(3, 30, 4);
        x.car(5, 30, 4);
        x.car(60, 30, 5);
        x.way(0, 0, 0);
        Due.rule(x, "400", "0", "1");
        int[] rode = {9, 3, 5, 1};
        for (int car = -1; car < 3; car++) Due.be("rode(0, " + car + ")", x.rode(0, car), rode[car + 1]);
        Due.be("down behind 4", x.down(0, -1, 4), 8);
        Due.be("waits(0, 0)", x.waits(0, 0), 9);
        Due.be("waits(0, 1)", x.waits(0, 1), 0);
        x.set(1, 0, 3);
        Due.be("waits(0, 1)", x.waits(0, 1), 3);
        x.set(1, 0, 4);
        Due.be("waits(0, 0): as a minute ends", x.waits(0, 0), 1);
    }

    /** Six wait as two cars, for 3 and for 5, go in minute 3 and never again. */
    private static void rush() {
        String[] rules = {"0", "1", "0 - 5", "9999", "2", "3", "wait - 4", "wait", "wait = 6", "4 * (wait = 3)", "up", "left - 86",
            "sun - 4", "price * 2"};
        int[][] rode = {{3, 3}, {2, 4}, {3, 3}, {0, 0}, {1, 3}, {0, 2}, {1, 4}, {0, 0}, {2, 4}, {3, 1}, {3, 3}, {2, 4}, {2, 4}, {1, 3}};
        for (int i = 0; i < rules.length; i++) {
            LastCar x = new LastCar();
            x.people(6, 10);
            x.car(3, 30, 3);
            x.car(5, 30, 3);
            x.way(0, 0, 0);
            x.shut(4, 119);
            Due.rule(x, "400", rules[i], "1");
            for (int car = 0; car < 2; car++) Due.be("rush " + rules[i] + ", car " + car, x.rode(0, car), rode[i][car]);
        }
    }

    private static void rushOfSortZero() {
        LastCar x = new LastCar();
        x.people(8, 605);
        x.people(9, 609);
        x.car(10, 30, 2);
        x.way(1, 0, 4);
        Due.rule(x, "1", "up", "1");
        Due.be("rush up: 5 of SORT 0 are up still", x.down(0, -1, 2), 5);
        Due.rule(x, "9", "heard * 2", "1");
        Due.be("rush heard * 2: SORT 0 hears 2", x.down(0, -1, 2), 6);
        Due.rule(x, "9", "61 - 60 * (wait = 17)", "1");
        Due.be("rush wait: of all SORTS", x.down(0, -1, 2), 9);
    }

    /** At the END 4 of the first SORT are up, 2 on their way, 3 wait; of the second 2 are up, 5 wait. */
    private static void harm() {
        String[] harms = {"1", "up", "wait", "left + price + heard + sun", "up * 10 + wait", "(up = 2) * 5"};
        long[] due = {16, 4 * 9 + 2 * 7, 8 * 16, 0, 48 * 9 + 28 * 7, 35};
        for (int i = 0; i < harms.length; i++) {
            LastCar x = new LastCar();
            x.people(9, 2609);
            x.people(7, 609);
            x.way(5, 0, 9);
            x.set(5, 0, 5);
            Due.rule(x, "1", "0", harms[i]);
            Due.be("harm " + harms[i], x.harm(0), due[i]);
        }
    }

    private static void harmBounds() {
        String[] harms = {"100", "9999", "99", "98", "0", "0 - 1", "-9999"};
        long[] due = {99, 99, 99, 98, 0, 0, 0};
        for (int i = 0; i < harms.length; i++) {
            LastCar x = new LastCar();
            for (int sort = 0; sort < 6; sort++) x.people(400, 10);
            x.way(0, 0, 0);
            Due.rule(x, "0", "0", harms[i]);
            Due.be("harm " + harms[i], x.harm(0), 2400 * due[i]);
        }
    }

    private static void noOne() {
        LastCar x = new LastCar();
        x.way(5, 3, 3);
        x.car(1, 1, 0);
        Due.be("left", x.left(0, -1), 0);
        Due.be("harm", x.harm(0), 0);
        Due.be("rode", x.rode(0, 0), 0);
        Due.be("waits", x.waits(0, 0), 0);
        Due.be("waits", x.waits(0, 1), 0);
        Due.be("down", x.down(0, -1, 89), 0);
        Due.be("behind", x.behind(0, 0), 0);
        Due.be("behind", x.behind(0, 2400), -1);
    }

    private static void sixSorts() {
        LastCar x = new LastCar();
        for (int sort = 0; sort < 6; sort++) x.people(400, 1000 * sort + 10);
        for (int car = 0; car < 4; car++) x.car(60, 1, 0);
        for (int way = 0; way < 8; way++) x.way(way % 6, way, way);
        Due.rule(x, "400", "0", "99");
        for (int way = 0; way < 8; way++) {
            Due.be("left of all", x.left(way, -1), 0);
            Due.be("left of the last", x.left(way, 5), 0);
            Due.be("rode in all", x.rode(way, -1), 2400);
            Due.be("rode the last", x.rode(way, 3), 600);
            Due.be("down", x.down(way, -1, 8), 9 * 240);
            Due.be("behind", x.behind(way, 2400), 9);
            Due.be("behind", x.behind(way, 2160), 8);
            Due.be("waits", x.waits(way, 0), 2400 - 6 * 240);
            Due.be("waits", x.waits(way, 1), 5);
        }
        x.set(5, 0, 8);
        Due.be("harm", x.harm(0), 99 * (2400 - 8 * 240));
    }

    /** Nothing of a day ahead stands in the next one. */
    private static void daysAhead() {
        LastCar x = new LastCar();
        x.people(10, 2010);
        x.way(0, 0, 0);
        Due.rule(x, "400", "0", "1");
        Due.be("waits(0, 0)", x.waits(0, 0), 10);
        Due.be("waits(0, 1)", x.waits(0, 1), 2);
        x.set(1, 0, 5);
        Due.be("waits(0, 0) farther", x.waits(0, 0), 10);
        Due.be("waits(0, 1) farther", x.waits(0, 1), 5);
        x.set(5, 0, 5);
        Due.be("waits(0, 0), nobody", x.waits(0, 0), 0);
        Due.be("waits(0, 1), nobody", x.waits(0, 1), 0);
        x.set(5, 0, 90);
        x.car(3, 30, 6);
        Due.be("rode", x.rode(0, 0), 9);
        Due.be("rode", x.rode(0, 0), 9);
        x.shut(10, 119);
        Due.be("rode till a storm", x.rode(0, 0), 3);
        Due.be("down", x.down(0, 0, 89), 3);
        Due.be("left", x.left(0, 0), 7);
    }

    private static void refusals() {
        LastCar x = new LastCar();
        int[] noWays = {-1, 0, 8, Integer.MIN_VALUE, Integer.MAX_VALUE};
        for (int way : noWays) {
            Due.be("left", x.left(way, -1), -2);
            Due.be("harm", x.harm(way), LastCar.NO);
            Due.be("rode", x.rode(way, -1), -2);
            Due.be("waits", x.waits(way, 0), -2);
            Due.be("down", x.down(way, -1, 0), -2);
            Due.be("behind", x.behind(way, 0), -2);
        }
        x.way(0, 0, 0);
        x.people(1, 10);
        x.car(1, 1, 0);
        int[] out = {-2, 1, 6, Integer.MIN_VALUE, Integer.MAX_VALUE};
        for (int v : out) {
            Due.be("left(0, " + v + ")", x.left(0, v), -2);
            Due.be("rode(0, " + v + ")", x.rode(0, v), -2);
            Due.be("down(0, " + v + ", 0)", x.down(0, v, 0), -2);
        }
        int[] noMinutes = {-1, 90, 120, Integer.MIN_VALUE, Integer.MAX_VALUE};
        for (int m : noMinutes) Due.be("down(0, 0, " + m + ")", x.down(0, 0, m), -2);
        int[] noWhats = {-1, 2, Integer.MIN_VALUE, Integer.MAX_VALUE};
        for (int what : noWhats) Due.be("waits(0, " + what + ")", x.waits(0, what), -2);
        int[] notSoMany = {-1, 2401, Integer.MIN_VALUE, Integer.MAX_VALUE};
        for (int many : notSoMany) Due.be("behind(0, " + many + ")", x.behind(0, many), -2);
        Due.be("way 0 is there", x.left(0, 0), 1);
    }
}
