/** Promises 17 to 25: latest, more, choose, must, latestUp, judge, image, back, count. */
final class LatestTest {
    private static final int MIN = Integer.MIN_VALUE;
    private static final int MAX = Integer.MAX_VALUE;

    private LatestTest() {
    }

    public static void main(String[] args) {
        latest();
        latestRefusals();
        more();
        moreBehindAllOthers();
        choose();
        must();
        latestUp();
        judge();
        judgeHearsNoWay();
        judgeRefusals();
        image();
        imageOfAll();
        count();
        Due.end("LatestTest");
    }

    /** Ten of whom two go in each minute in which a BELL of 4 is heard. */
    private static LastCar bells() {
        LastCar x = new LastCar();
        x.people(10, 605);
        x.car(60, 1, 0);
        x.way(1, 7, 4);
        x.way(0, 7, 4);
        Due.rule(x, "heard", "0", "1");
        return x;
    }

    private static void latest() {
        LastCar x = bells();
        int[] most = {0, 1, 2, 3, 6, 7, 8, 9, 10, 2400};
        int[] due = {85, 85, 86, 86, 88, 88, 89, 89, 89, 89};
        for (int i = 0; i < most.length; i++) Due.be("latest(0, " + most[i] + ")", x.latest(0, most[i]), due[i]);
        Due.be("FROM is as it was", x.told(0, 0, 1), 7);
        Due.be("left by its own FROM", x.left(0, -1), 0);
        Due.be("a WAY calls nobody", x.latest(1, 9), -1);
        Due.be("and need not", x.latest(1, 10), 89);
        x.set(5, 0, 3);
        Due.be("latest(0, 4) at END 3", x.latest(0, 4), 0);
        Due.be("latest(0, 3) at END 3", x.latest(0, 3), -1);
        Due.be("latest(0, 10) at END 3", x.latest(0, 10), 2);
        x.set(5, 0, 120);
        Due.be("latest(0, 0) at END 120", x.latest(0, 0), 115);
        x = bells();
        x.shut(0, 88);
        x.set(0, 0, 100);
        Due.be("60 have room; 41 come by SLOW, 19 must hear", x.latest(0, 40), 80);
        Due.be("40 are left whatever is called", x.latest(0, 39), -1);
    }

    private static void latestRefusals() {
        LastCar x = new LastCar();
        Due.be("latest of no WAY", x.latest(0, 0), -2);
        Due.be("more of no WAY", x.more(0, 0), -2);
        x.way(0, 0, 0);
        Due.be("more with no CAR", x.more(0, 0), -2);
        x.car(1, 1, 0);
        int[] ways = {-1, 1, MIN, MAX};
        for (int way : ways) {
            Due.be("latest(" + way + ", 0)", x.latest(way, 0), -2);
            Due.be("more(" + way + ", 0)", x.more(way, 0), -2);
        }
        int[] mosts = {-1, 2401, MIN, MAX};
        for (int most : mosts) {
            Due.be("latest(0, " + most + ")", x.latest(0, most), -2);
            Due.be("more(0, " + most + ")", x.more(0, most), -2);
        }
        Due.be("latest(0, 2400)", x.latest(0, 2400), 89);
        Due.be("more(0, 2400)", x.more(0, 2400), 0);
    }

    /** A car like the first takes six a day. */
    private static void more() {
        LastCar x = new LastCar();
        x.people(30, 600);
        x.car(2, 30, 0);
        x.way(0, 0, 0);
        Due.rule(x, "400", "0", "1");
        int[] most = {24, 23, 18, 17, 6, 5, 0, 30};
        int[] due = {0, 1, 1, 2, 3, 4, 4, 0};
        for (int i = 0; i < most.length; i++) Due.be("more(0, " + most[i] + ")", x.more(0, most[i]), due[i]);
        Due.be("no car came of it", x.count(1), 1);
        x.set(0, 0, 126);
        Due.be("20 cars more", x.more(0, 0), 20);
        x.set(0, 0, 127);
        Due.be("21 would be too many", x.more(0, 0), -1);
        Due.be("but one may be left", x.more(0, 1), 20);
    }

    /** Two cars go in minute 0, for 2 and for 1; a rush keeps off each car that finds so many waiting. */
    private static void moreBehindAllOthers() {
        LastCar x = new LastCar();
        x.people(10, 600);
        x.car(2, 30, 0);
        x.car(1, 30, 0);
        x.set(5, 0, 1);
        x.way(0, 0, 0);
        Due.rule(x, "400", "2 * (wait = 8)", "1");
        Due.be("car 1 is kept off, one more takes none", x.left(0, -1), 8);
        Due.be("as eight wait for ever", x.more(0, 7), -1);
        Due.rule(x, "400", "60 * (wait = 7)", "1");
        Due.be("7 are left behind car 1", x.left(0, -1), 7);
        Due.be("none more rides behind it", x.more(0, 6), -1);
    }

    private static void choose() {
        LastCar x = bells();
        Due.be("choose(0)", x.choose(0), 0);
        Due.be("choose(1)", x.choose(1), 0);
        x.set(5, 0, 9);
        Due.be("choose(1) at END 9", x.choose(1), 6);
        x.way(1, 6, 4);
        x.way(1, 6, 4);
        x.way(1, 8, 9);
        Due.be("the first of the least", x.choose(0), 2);
        Due.be("its HARM", x.choose(1), 4);
        x.set(5, 0, 3);
        Due.be("all alike", x.choose(0), 0);
        Due.be("all alike", x.choose(1), 10);
        int[] whats = {-1, 2, MIN, MAX};
        for (int what : whats) Due.be("choose(" + what + ")", x.choose(what), LastCar.NO);
        Due.be("no WAYS", new LastCar().choose(0), LastCar.NO);
        Due.be("no WAYS", new LastCar().choose(1), LastCar.NO);
    }

    private static void must() {
        LastCar x = new LastCar();
        x.people(400, 10);
        Due.be("no cars", x.must(), -400);
        x.car(7, 10, 9);
        Due.be("9, 19, .. 89", x.must(), 63 - 400);
        x.set(5, 0, 89);
        Due.be("END 89", x.must(), 56 - 400);
        x.car(60, 1, 88);
        Due.be("a second", x.must(), 116 - 400);
        x.shut(19, 29);
        Due.be("shut for two of these", x.must(), 102 - 400);
        x.people(5, 10);
        Due.be("more people", x.must(), 102 - 405);
    }

    private static void latestUp() {
        LastCar x = new LastCar();
        Due.be("no SORT", x.latestUp(0), -2);
        x.people(1, 10010);
        x.people(1, 10);
        x.people(1, 40010);
        Due.be("no CARS", x.latestUp(0), -1);
        x.car(1, 7, 3);
        int[] due = {77, 87, 47};
        for (int sort = 0; sort < 3; sort++) Due.be("latestUp(" + sort + ")", x.latestUp(sort), due[sort]);
        x.car(1, 30, 119);
        Due.be("one that goes behind the END", x.latestUp(0), 77);
        x.shut(81, 119);
        Due.be("a storm behind 80", x.latestUp(1), 80);
        x.shut(80, 119);
        Due.be("a storm from 80", x.latestUp(1), 73);
        x.shut(4, 119);
        Due.be("only 3 is left", x.latestUp(1), 3);
        Due.be("too far", x.latestUp(0), -1);
        x.set(1, 0, 3);
        Due.be("just so", x.latestUp(0), 0);
        x.set(1, 0, 4);
        Due.be("not so", x.latestUp(0), -1);
        x.shut(0, 119);
        Due.be("none goes", x.latestUp(1), -1);
        int[] sorts = {-1, 3, 6, MIN, MAX};
        for (int sort : sorts) Due.be("latestUp(" + sort + ")", x.latestUp(sort), -2);
    }

    private static int judged(LastCar x, int sort, int... calls) {
        x.sheet(1, sort, calls.length);
        for (int i = 0; i < calls.length; i++) x.cell(1, i, calls[i]);
        return x.judge(1);
    }

    private static void judge() {
        LastCar x = bells();
        for (int sort = 0; sort < 3; sort++) {
            Due.be("nothing told", judged(x, sort), 10);
            Due.be("4", judged(x, sort, 4), 8);
            Due.be("4 0 6", judged(x, sort, 4, 0, 6), 5);
            Due.be("1 1 1 2", judged(x, sort, 1, 1, 1, 2), 9);
            Due.be("99", judged(x, sort, 99), 0);
            Due.be("all 0 again", x.sheet(1, sort, 1), 1);
            Due.be("0", x.judge(1), 10);
        }
        x.set(5, 0, 2);
        Due.be("4 0 6 at END 2", judged(x, 2, 4, 0, 6), 8);
        int[] forty = new int[40];
        forty[39] = 6;
        x.set(5, 0, 40);
        Due.be("the last of 40", judged(x, 0, forty), 7);
        Due.be("the WAYS call as before", x.left(0, -1), 0);
    }

    /** By a WAY: 1 is asked, and of two FAR ones the one that came first rides. */
    private static void judgeHearsNoWay() {
        LastCar x = new LastCar();
        x.people(2, 1010);
        x.people(2, 2019);
        x.car(3, 30, 2);
        x.set(5, 0, 3);
        x.way(5, 0, 9);
        x.way(4, 0, 9);
        Due.rule(x, "400 * (price = 1)", "(price - 1) * 9", "1");
        Due.be("by a BOTH none goes", x.left(0, -1), 4);
        Due.be("by told calls all go", judged(x, 2, 5), 1);
        Due.be("with no WAY, too", judged(bells(), 2, 4), 8);
    }

    private static void judgeRefusals() {
        LastCar x = bells();
        int[] sheets = {-1, 4, MIN, MAX};
        for (int sheet : sheets) Due.be("judge(" + sheet + ")", x.judge(sheet), -2);
        for (int sheet = 0; sheet < 4; sheet++) Due.be("judge of a missing one", x.judge(sheet), -11);
        Due.be("100", judged(x, 1, 0, 100), -2);
        Due.be("-1", judged(x, 1, -1, 0), -2);
        Due.be("behind the END, too", x.set(5, 0, 1) + judged(x, 2, 0, 0, 0, 100), 88);
        Due.be("199 in bytes", judged(x, 0, 199), -2);
    }

    private static void image() {
        LastCar x = new LastCar();
        Due.be("back() with none", x.back(), -3);
        Due.be("image() of nobody", x.image(), 0);
        x.people(3, 10);
        Due.be("back()", x.back(), 1);
        Due.be("who came since stays", x.count(7), 3);
        x.people(4, 10);
        Due.be("image()", x.image(), 2);
        x.people(5, 10);
        for (int sort = 0; sort < 3; sort++) x.set(0, sort, 100);
        Due.be("back()", x.back(), 3);
        Due.be("two are as they were", x.count(7), 107);
        x.set(0, 1, 50);
        Due.be("back() once more", x.back(), 3);
        Due.be("two are as they were", x.count(7), 107);
        Due.be("a new image", x.image(), 3);
        x.set(0, 2, 1);
        x.back();
        Due.be("keeps what is then", x.count(7), 107);
    }

    private static void imageOfAll() {
        LastCar x = new LastCar();
        x.people(3, 4056);
        x.car(1, 1, 0);
        x.set(4, 119, 8);
        x.set(5, 0, 50);
        x.shut(0, 9);
        Due.text(x, "go 0;rush 0;harm 0;");
        x.force(1);
        x.image();
        int[][] sets = {{0, 0, 9, 3}, {1, 0, 9, 4}, {2, 0, 9, 5}, {3, 0, 9, 6}, {4, 119, 9, 8}, {5, 0, 90, 50}};
        for (int[] s : sets) x.set(s[0], s[1], s[2]);
        x.shut(-1, -1);
        x.force(0);
        x.car(2, 1, 0);
        x.way(1, 1, 1);
        x.sheet(3, 2, 2);
        Due.text(x, "go 0;rush 0;harm 0;");
        x.feed(3, 0);
        Due.be("back()", x.back(), 1);
        Due.be("THE RULE", x.count(6), 1);
        Due.be("END and the storm", x.must(), 40 * 3 - 3);
        for (int[] s : sets) Due.be("what " + s[0] + " was", x.set(s[0], s[1], s[2]), s[3]);
        int[] counts = {1, 2, 1, 90, 3, 3, 1, 9};
        for (int what = 0; what < 8; what++) Due.be("not kept: count(" + what + ")", x.count(what), counts[what]);
        Due.be("not kept: sheets", x.cell(3, 1, 1), 1);
        x.shut(-1, 0);
        x.image();
        x.shut(0, 119);
        x.back();
        Due.be("never shut is kept, too", x.must(), 90 * 3 - 9);
    }

    private static void count() {
        LastCar x = new LastCar();
        x.people(3, 10);
        x.people(4, 10);
        x.car(1, 1, 0);
        for (int k = 0; k < 3; k++) x.way(k, 0, 0);
        x.set(5, 0, 17);
        for (int k = 0; k < 4; k++) Due.text(x, "go 0;rush 0;harm 0;");
        x.feed(6, 0);
        x.force(3);
        int[] counts = {2, 1, 3, 17, 5, 6, 3, 7};
        for (int what = 0; what < 8; what++) Due.be("count(" + what + ")", x.count(what), counts[what]);
        int[] bad = {-1, 8, MIN, MAX};
        for (int what : bad) Due.be("count(" + what + ")", x.count(what), -2);
    }
}
