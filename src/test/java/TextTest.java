/** Promises 8 to 10: feed, text, force. */
final class TextTest {
    private static final String RULE = "go heard * 3 - sun ; rush 0 ; harm 1 ;";

    private TextTest() {
    }

    public static void main(String[] args) {
        feed();
        feedFull();
        text();
        textFull();
        faults();
        faultsOfDepth();
        faultsOfEnds();
        oldTapes();
        values();
        valuesOfNames();
        force();
        Due.end("TextTest");
    }

    private static void feed() {
        LastCar x = new LastCar();
        int[] bad = {0, -1, 9, Integer.MIN_VALUE, Integer.MAX_VALUE};
        for (int n : bad) Due.be("feed(" + n + ")", x.feed(n, 32), -2);
        Due.be("count(5)", x.count(5), 0);
        Due.be("feed(1)", x.feed(1, 0x4141414141414120L), 1);
        Due.be("the bytes above are left out", x.text(), -101);
        Due.be("feed(2): g o, the lowest first", x.feed(2, 'g' | 'o' << 8), 2);
        Due.be("go is read", x.text(), -102);
        Due.be("feed(2): o g", x.feed(2, 'o' | 'g' << 8), 2);
        Due.be("og is not", x.text(), -100);
        Due.be("feed(8) with the highest byte 255", x.feed(8, 0xff20202020202020L), 8);
        Due.be("it stands at 7", x.text(), -107);
    }

    private static void feedFull() {
        LastCar x = new LastCar();
        for (int k = 1; k <= 19; k++) Due.be("feed(8)", x.feed(8, 0x2020202020202020L), 8 * k);
        Due.be("feed(7)", x.feed(7, 0x20202020202020L), 159);
        Due.be("feed(2)", x.feed(2, 0x2020L), -4);
        Due.be("feed(9) while full", x.feed(9, 0x2020L), -2);
        Due.be("feed(1)", x.feed(1, 0x20L), 160);
        Due.be("feed(1) more", x.feed(1, 0x20L), -4);
        Due.be("count(5)", x.count(5), 160);
        Due.be("text() of blanks", x.text(), -260);
        Due.be("the tape is empty then", x.count(5), 0);
        Due.be("text() of nothing", x.text(), -100);
    }

    private static void text() {
        String[] good = {RULE, "go1;rush2;harm3;", "\n go 0000 ;\nrush 9999;harm 1;  \n", "go not not 1;rush - - 1;harm (1);",
            "go 1 or 2 and 3 < 4 + 5 * 6 - - 7;rush not 1=2 or not 2;harm up*wait*left+price+heard-sun;"};
        LastCar x = new LastCar();
        for (int i = 0; i < good.length; i++) {
            Due.be(good[i], Due.text(x, good[i]), i + 1);
            Due.be("the tape is empty", x.count(5), 0);
            Due.be("count(4)", x.count(4), i + 2);
        }
        Due.be("no new text is THE RULE of itself", x.count(6), 0);
    }

    private static void textFull() {
        LastCar x = new LastCar();
        for (int i = 1; i < 6; i++) Due.be("text " + i, Due.text(x, RULE), i);
        Due.be("a seventh", Due.text(x, RULE), -4);
        Due.be("the tape stays", x.count(5), RULE.length());
        Due.be("feed", x.feed(1, '?'), RULE.length() + 1);
        Due.be("ahead of a fault", x.text(), -4);
        Due.be("the tape stays", x.count(5), RULE.length() + 1);
        Due.be("count(4)", x.count(4), 6);
    }

    /** Each text with the place of its FAULT marked by a | that is not fed. */
    private static void due(String marked) {
        int place = marked.indexOf('|');
        LastCar x = new LastCar();
        Due.be(marked, Due.text(x, marked.replace("|", "")), -100 - place);
        Due.be("no text came of " + marked, x.count(4), 1);
        Due.be("the tape is empty behind " + marked, x.count(5), 0);
    }

    private static void faults() {
        String[] faults = {"|", " |", "|rush 1;", "go |;", "go 1 |2;", "go 1 |rush 0;", "go 1;|harm 1;", "go 1; rush 1; |go 1;",
            "go |12345;", "go |00001;", "go 1+|12345", "go |upp;", "go |u;", "go |goo;", "|goup;", "go up |up;", "go |go;", "|A",
            "go |Up;", "go |xp;", "go |uq;", "|ho 1;", "go 1;|lush 1;", "go 1 |xr 1;", "go|\t1;", "go 1 + |+ 1;", "go 1 * |;", "go |*1;", "go 1 < 2 |< 3;", "go 1 = 2 |= 3;", "go 1 < 2 |= 3;",
            "go 1 + |not 1;", "go 1 < |not 1;", "go - |not 1;", "go -|;", "go not |;", "go (|);", "go (1|;", "go 1|);",
            "go (1 |2);", "go (1)|(2);", "go 1 and |or 1;", "go |and 1;", "go 1 |not 1;", "go (1 < 2) < 3 |< 4;",
            "go 1;rush 1;harm 1;|;", "go 1;rush 1;harm 1; |0", "go 1;rush 1;harm 1;|go 1;", "go 1;rush 1;harm 1; |?",
            "go 1|.0;", "go 1|\u00ff;", "go 1|\0;", "go |or;", "go |heardsun;", "go not 1 < 2 |< 3;", "go 1|\r;", "go 1; rush |go"};
        for (String f : faults) due(f);
    }

    private static void faultsOfDepth() {
        due("go (((((|(1))))));");
        due("go -----|-1;");
        due("go not not not not not |not 1;");
        due("go not (not (not |(1)));");
        due("go not (-(not |-(1)));");
        due("go 1+(2*(3-(4<(5=(6+|(7))))));");
        due("go not (0 or ((1 + -|-1)));");
        LastCar x = new LastCar();
        Due.be("five (", Due.text(x, "go (((((1)))));rush 0;harm 0;"), 1);
        Due.be("five - again and again", Due.text(x, "go -----1------1+-----1;rush (1)+(1)*(1)+(1)+(1)+(1);harm 0;"), 2);
        Due.be("five not again and again",
            Due.text(x, "go not not not not not 1 or not not not not not 1 and not not not not (0);rush 0;harm 0;"), 3);
        Due.be("not and ( mixed", Due.text(x, "go not (-(not 1)) + 1 or (((((1)))));rush 0;harm 0;"), 4);
        Due.be("a not ends with its NOT, a - with its ONE", Due.text(x, "go not 1 < -1 or not ((((1)))) and -((((1))));rush 0;harm 0;"), 5);
    }

    /** A text that ends behind any of its tokens ends too early. */
    private static void faultsOfEnds() {
        String[] tokens = ("go not - ( wait + 1 ) * 2 < up or sun = 4 and ( not price ) ; rush - heard ; harm ( left ) ;").split(" ");
        StringBuilder text = new StringBuilder();
        for (String token : tokens) {
            Due.be("[" + text + "]", Due.text(new LastCar(), text.toString()), -100 - text.length());
            text.append(token).append(' ');
        }
        Due.be("[" + text + "]", Due.text(new LastCar(), text.toString()), 1);
    }

    /** What stood on THE TAPE ahead of this text, or came of it, is not read again. */
    private static void oldTapes() {
        LastCar x = new LastCar();
        Due.be("goo", Due.text(x, "goo12345"), -100);
        Due.be("go", Due.text(x, "go"), -102);
        Due.be("go 123", Due.text(x, "go 123"), -106);
        String full = "go 1 or 1 and not 1 < 2;rush 1;harm ";
        StringBuilder text = new StringBuilder(full);
        while (text.length() < 158) text.append("1+");
        String most = text.append("19").substring(0, 160);
        for (int k = 0; k < 5; k++) Due.be(most, Due.text(x, most), -260);
        for (int k = 0; k < 5; k++) Due.be("letters to the end", Due.text(x, most.substring(0, 158) + "up"), -260);
        x.people(1, 20);
        x.way(0, 0, 0);
        Due.rule(x, "-99", "0", most.substring(full.length(), 120) + "0");
        Due.be("that many ones", x.harm(0), (120 - full.length()) / 2);
    }

    /** What an E is worth, 0 to 99, by the harm of one who is left. */
    private static long worth(String e) {
        LastCar x = new LastCar();
        x.people(1, 20);
        x.way(0, 0, 0);
        Due.rule(x, "-99", "0", e);
        return x.harm(0);
    }

    private static void values() {
        String[] e = {"7", "2+3*4", "(2+3)*4", "9-3-2", "2*3*4-5", "-3+5", "- -3", "-(-3)*2", "3--3", "1<2", "2<1", "2<2", "2=2", "1=2",
            "not 0", "not 7", "not not 7", "not 1=2", "not 0 = 0", "1 or 0", "0 or 0", "7 or 7", "7 and 8", "7 and 0", "1 or 1 and 0",
            "(1 or 1) and 0", "0 and 0 or 1", "1+1<1+2", "5<1+9*9", "(1<2)+(2<3)", "not 0 and 0", "not (0 and 0)", "1 < 2 and 3 < 2",
            "(9999*4+6345)*(9999*4+6345) < 0", "8192*8192*8*8+7", "8192*8192*8*4 < 0", "-(8192*8192*8*4) < 0", "100", "0-1", "9999",
            "99", "98+1", "(0 or -1) + (0-1 and 1)", "0012", "1 and 1", "1 and 0", "0 and 1", "1 or 1", "0 or 1", "not 1"};
        long[] worth = {7, 14, 20, 4, 19, 2, 3, 6, 6, 1, 0, 0, 1, 0, 1, 0, 1, 1, 0, 1, 0, 1, 1, 0, 1, 0, 1, 1, 1, 2, 0, 1, 0,
            1, 7, 1, 1, 99, 0, 99, 99, 99, 2, 12, 1, 0, 0, 1, 1, 0};
        for (int i = 0; i < e.length; i++) Due.be("worth of " + e[i], worth(e[i]), worth[i]);
    }

    private static void valuesOfNames() {
        Due.be("up of one at the END", worth("up"), 1);
        Due.be("wait at the END", worth("wait+5"), 5);
        Due.be("left, price, heard, sun at the END", worth("left+price+heard+sun"), 0);
    }

    private static void force() {
        LastCar x = new LastCar();
        Due.be("force(1)", x.force(1), -2);
        Due.be("force(-1)", x.force(-1), -2);
        Due.be("force(0)", x.force(0), 0);
        Due.text(x, RULE);
        Due.text(x, RULE);
        Due.be("force(2)", x.force(2), 0);
        Due.be("count(6)", x.count(6), 2);
        Due.be("force(3)", x.force(3), -2);
        Due.be("force(MAX)", x.force(Integer.MAX_VALUE), -2);
        Due.be("force(MIN)", x.force(Integer.MIN_VALUE), -2);
        Due.be("force(1)", x.force(1), 2);
        Due.be("force(1)", x.force(1), 1);
        Due.be("force(0)", x.force(0), 1);
    }
}
