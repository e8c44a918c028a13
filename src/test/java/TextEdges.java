import java.util.ArrayList;
import java.util.List;

/** The bounds of THE TAPE, TOKENS and TEXTS, and the places of FAULTS. */
final class TextEdges extends Edges {
    private static final String SIGNS = "();+-*<=";

    private TextEdges() {
    }

    static void all() {
        tape();
        asLongAsCanBe();
        words();
        numbers();
        signs();
        blanks();
        parts();
        ors();
        ands();
        nots();
        sums();
        terms();
        ones();
        names();
        keys();
        wrapping();
        truth();
        firstThatCantStand();
        endsTooEarly();
        bytesThatBeginNone();
        strangeWords();
        longNumbers();
        sixthOpen();
        tillTheyEnd();
        sixTexts();
    }

    /** A text with the place of its FAULT marked by a | that is not fed: nothing but THE TAPE was there, and nothing stays. */
    private static void fault(String marked) {
        fault(marked.replace("|", ""), marked.indexOf('|'));
    }

    private static void fault(String text, int place) {
        Asked x = fresh();
        List<Long> ahead = x.seen();
        x.feed(text);
        Sentences.be("text() of [" + text + "]", x.ask("text"), -100 - place);
        x.sameAs(ahead, "[" + text + "]");
    }

    private static void faults(String... marked) {
        for (String m : marked) fault(m);
    }

    private static void fine(String... texts) {
        for (String text : texts) {
            Asked x = fresh();
            x.feed(text);
            Sentences.be("text() of [" + text + "]", x.ask("text"), 1);
            x.due(0, "count", 5);
            x.due(2, "count", 4);
        }
    }

    /** Fine as an E of each of the three parts. */
    private static void fineE(String... es) {
        for (String e : es) fine("go " + e + ";rush " + e + ";harm " + e + ";");
    }

    /** Faulty as an E of each of the three parts, at the | in it. */
    private static void faultyE(String... es) {
        for (String e : es) faults("go " + e + ";", "go 1;rush " + e + ";", "go 1;rush 1;harm " + e + ";");
    }

    /** What an E is worth, 0 to 99, by the harm of the one who is left. */
    private static void worth(String e, int due) {
        hill(1, 20, "-99", "0", e).due(due, "harm", 0);
    }

    private static void tape() {
        says(TERMS_1, "A TEXT is read from THE TAPE (160 bytes at most).");
        StringBuilder blanks = new StringBuilder("go 1;rush 2;harm 3;");
        while (blanks.length() < 160) blanks.append(' ');
        Asked x = fresh();
        x.feed(blanks.toString());
        x.due(160, "count", 5);
        x.refused(FULL, "feed", 1, 32);
        x.due(1, "text");
        StringBuilder ones = new StringBuilder("go 1;rush 1;harm 1");
        while (ones.length() < 158) ones.append("+1");
        x.feed(ones + "7;");
        x.due(160, "count", 5);
        x.due(2, "text");
        x.feed(ones + "7");
        x.refused(FULL, "feed", 2, ';');
        x.due(160, "feed", 1, ';');
        x.due(3, "text");
        x.feed(ones + "+7");
        x.refused(FULL, "feed", 1, ';');
        x.due(-260, "text");
    }

    private static void asLongAsCanBe() {
        says(TERMS_1, "TOKENS, each as long as can be:");
        faults("|goup;rush 1;harm 1;", "go |upup;", "go |upor up;", "go |heardsun;", "go |notup;", "go 12 |3;", "go 1|up;",
            "go up|1;", "go 1<|=1;", "go |12345;", "go 1234|up;");
        fine("go1;rush2;harm3;", "go not1;rush-1;harm(1);", "go 1or 2and 3;rush up<left;harm up=left;", "go up- -1;rush 1--1;harm 1*-1;");
    }

    private static void words() {
        says(TERMS_1, "WORDS (a .. z),");
        faults("go |a;", "go |z;", "go |upa;", "go |upz;", "go up|`;", "go up|{;", "go up|A;", "go up|Z;", "go |UP;", "go |`up;",
            "go |{up;", "|Go 1;", "go up|@;", "go up|[;");
        fineE("heard", "wait");
    }

    private static void numbers() {
        says(TERMS_1, "NUMBERS (as many digits as stand there, 4 at most),");
        fineE("0", "9", "0000", "0009", "9999", "1000");
        faultyE("|10000", "|00000", "|99999", "|00001", "|123456", "1+|10000", "1|/", "1|:", "|/1", "|:1");
        worth("0099", 99);
        worth("9999 = 9 + 9990", 1);
        worth("0 = 0000", 1);
    }

    private static void signs() {
        says(TERMS_1, "SIGNS ( ) ; + - * < = ;");
        fine("go (1)+1-1*1;rush 1<1;harm 1=1;");
        for (int b = 0; b < 256; b++) {
            boolean word = b >= 'a' && b <= 'z';
            boolean digit = b >= '0' && b <= '9';
            if (word || digit || b == ' ' || b == '\n') continue;
            char c = (char) b;
            if (SIGNS.indexOf(c) < 0) fault("go 1" + c + "1;rush 1;harm 1;", 4);
        }
    }

    private static void blanks() {
        says(TERMS_1, "blanks (32, 10) may stand between.");
        fine(" \n go\n\n1 ;\nrush  2\n;harm\n3 ; \n", "go\n1;rush\n1;harm\n1;\n", "go ( - 1 ) ;rush not ( 1 ) ;harm 1\n<\n1;", "go 1;rush 1;harm 1;          ");
        faults("go|\t1;", "go 1|\u000b;", "go 1|\u001f;", "go 1|!;", "go 1|\r;", "go 1|\f;", "go 1|\0;", "go 1|\u00a0;", "|\t", "|\u0000");
        faults("|g o 1;", "go 1 |2;", "go |he ard;", "go 1 |o r 1;", "go 1 |an d 1;", "go 1; |ru sh 1;");
    }

    private static void parts() {
        says(TERMS_1, "TEXT: go E ; rush E ; harm E ;");
        fine("go 1;rush 1;harm 1;");
        faults("|rush 1;", "|harm 1;", "|;", "|1", "|up", "go 1;|go 1;", "go 1;|harm 1;", "go 1;|;", "go 1;|1", "go 1;rush 1;|rush 1;",
            "go 1;rush 1;|go 1;", "go 1;rush 1;|;", "go |;", "go 1;rush |;", "go 1;rush 1;harm |;", "go 1 |rush 1;", "go 1;rush 1 |harm 1;",
            "go 1;rush 1;harm 1;|;", "go 1;rush 1;harm 1;|go 1;", "go 1;rush 1;harm 1; |0", "go 1;rush 1;harm 1; |up", "go 1;rush 1;harm 1; |?");
    }

    private static void ors() {
        says(TERMS_1, "E: AND { or AND }.");
        fineE("1", "1 or 1", "1 or 1 or 1 or 1 or 1", "1 and 1 or 1 and 1");
        faultyE("|or", "|or 1", "1 or |or 1", "1 or |and 1", "1 or |)", "(1 or |)");
        worth("0 or 0 or 0 or 3", 1);
        worth("0 or 0", 0);
        worth("1 or 1 and 0", 1);
    }

    private static void ands() {
        says(TERMS_1, "AND: NOT { and NOT }.");
        fineE("1", "1 and 1", "1 and 1 and 1 and 1 and 1", "not 1 and not 1");
        faultyE("|and", "|and 1", "1 and |and 1", "1 and |or 1", "(1 and |)");
        worth("1 and 2 and 3 and 0", 0);
        worth("1 and 2 and 3 and 4", 1);
        worth("not 0 and 0", 0);
    }

    private static void nots() {
        says(TERMS_1, "NOT: not NOT, or SUM, perhaps < or = and a SUM.");
        fineE("1", "not 1", "not not 1", "1 < 1", "1 = 1", "not 1 < 1", "not not 1 = 1", "(1 < 1) < 1", "1 < (1 = 1)", "1 < 1 and 1 < 1");
        faultyE("not |and 1", "1 |not 1", "1 < 1 |< 1", "1 < 1 |= 1", "1 = 1 |< 1", "1 = 1 |= 1", "1 < |not 1", "1 = |not 1", "1 + |not 1",
            "1 * |not 1", "- |not 1", "|< 1", "|= 1", "1 < |= 1", "not not 1 < 1 |< 1");
        worth("not 1 < 1", 1);
        worth("not 1 = 1", 0);
        worth("not 0 < 1", 0);
        worth("not not 7", 1);
        worth("2 < 3", 1);
        worth("3 < 3", 0);
        worth("4 < 3", 0);
        worth("3 = 3", 1);
        worth("3 = 2", 0);
    }

    private static void sums() {
        says(TERMS_1, "SUM: TERM { + or - TERM }.");
        fineE("1", "1 + 1", "1 - 1", "1 + 1 - 1 + 1 - 1", "1 * 1 - 1 * 1");
        faultyE("|+", "|+ 1", "1 + |+ 1", "1 - |+ 1", "(1 + |)", "1 + |* 1", "1 - |< 1");
        worth("9 - 3 - 2", 4);
        worth("9 - 3 + 2", 8);
        worth("2 + 3 * 4", 14);
    }

    private static void terms() {
        says(TERMS_1, "TERM: ONE { * ONE }.");
        fineE("1", "1 * 1", "1 * 1 * 1 * 1", "- 1 * - 1", "(1) * (1)");
        faultyE("|*", "|* 1", "1 * |* 1", "1 * |+ 1", "(1 * |)", "1 * |not 1");
        worth("2 * 3 * 4", 24);
        worth("(2 + 3) * 4", 20);
    }

    private static void ones() {
        says(TERMS_1, "ONE: a NUMBER, a NAME, - ONE, ( E ).");
        fineE("7", "up", "- 1", "- - up", "(1)", "((up))", "-(1)", "(-1)", "(1 or 1)", "(not 1 < 2)");
        faultyE("|)", "(|)", "(1 |1)", "1|(1)", "(1)|(1)", "(1)|1", "1|)", "(1)|)", "-|)", "up |up", "1 |up");
        worth("-(-3) * 2", 6);
        worth("3 - -3", 6);
        worth("-3 + 5", 2);
    }

    private static void names() {
        says(TERMS_1, "NAMES are up wait left price heard sun;");
        fineE("up", "wait", "left", "price", "heard", "sun", "up*wait*left*price*heard*sun");
        faults("|up", "|wait 1;", "go 1;|left 1;", "go |ups;", "go |u;", "go |prices;", "go |sunn;", "go |hear;", "go |lef;", "go |waits;");
    }

    private static void keys() {
        says(TERMS_1, "go, rush, harm, or, and, not are KEYS.");
        faultyE("|go", "|rush", "|harm", "|or", "|and", "1 |go", "1 |rush 1", "1 |harm", "1 |not", "1 + |go", "not |or", "not |)");
        fine("go not 1 or 1 and 1;rush 1;harm 1;");
    }

    private static void wrapping() {
        says(TERMS_1, "An E is an int (32 bits, wrapping):");
        worth(LEAST_INT + " < 0", 1);
        worth("0 < " + GREATEST_INT, 1);
        worth(GREATEST_INT + " + 1 = " + LEAST_INT, 1);
        worth(LEAST_INT + " - 1 = " + GREATEST_INT, 1);
        worth("-" + LEAST_INT + " = " + LEAST_INT, 1);
        worth(LEAST_INT + " * 2", 0);
        worth("8192*8192*8*8 + 7", 7);
        worth(LEAST_INT + " < " + GREATEST_INT, 1);
        worth(GREATEST_INT + " < " + LEAST_INT, 0);
        worth(GREATEST_INT + " * " + GREATEST_INT, 1);
        worth("9999*9999*43 < 0", 9999 * 9999 * 43 < 0 ? 1 : 0);
        worth("9999*9999*21 < 0", 9999 * 9999 * 21 < 0 ? 1 : 0);
        worth("9999*9999*22 < 0", 9999 * 9999 * 22 < 0 ? 1 : 0);
    }

    private static void truth() {
        says(TERMS_1, "of or, and, not, <, = 1 or 0 (what is not 0 is true).");
        String[] isTrue = {"1", "2", "-1", "9999", LEAST_INT, GREATEST_INT};
        for (String e : isTrue) {
            worth(e + " or 0", 1);
            worth("0 or " + e, 1);
            worth(e + " and 1", 1);
            worth("1 and " + e, 1);
            worth("(not " + e + ") + 5", 5);
            worth("not not " + e, 1);
        }
        String[] isFalse = {"0", "1 - 1", "8192*8192*8*8", "(1 < 1)", "(1 = 2)"};
        for (String e : isFalse) {
            worth(e + " or 0", 0);
            worth(e + " and 1", 0);
            worth("not (" + e + ")", 1);
        }
        worth("(7 or 7) + (7 and 7) + (7 < 8) + (7 = 7)", 4);
        worth("(0 or 0) + (7 and 0) + (7 < 7) + (7 = 8) + 3", 3);
    }

    private static void firstThatCantStand() {
        says(TERMS_1, "FAULT: the place of the first byte of the first TOKEN that can't stand there");
        faults("|)", "go |);", "go  \n |);?", "go 1 |2 3 4 ?", "go 1;  |go ? 12345", "go 1 |harm", "go (1 |;", "go 1|);", "go up |heard",
            "go 1 + |* 2 + * 3;", "   |12", "go 1; rush 2; harm 3; |harm");
    }

    /** A text that stops behind any of its tokens, with blanks and without. */
    private static void endsTooEarly() {
        says(TERMS_1, "(the text's size, if it ends too early),");
        String[] tokens = "go not - ( wait + 1 ) * 2 < up or sun = 4 and ( not 12 ) ; rush - heard ; harm ( left ) ;".split(" ");
        StringBuilder text = new StringBuilder();
        for (String token : tokens) {
            fault(text.toString(), text.length());
            fault(text + "\n  ", text.length() + 3);
            text.append(text.length() == 0 ? "" : " ").append(token);
        }
        fine(text.toString());
        StringBuilder most = new StringBuilder("go 1");
        while (most.length() < 160) most.append(' ');
        fault(most.toString(), 160);
    }

    private static void bytesThatBeginNone() {
        says(TERMS_1, "also of a byte that begins none,");
        char[] none = {0, 1, 9, 11, 31, '!', '"', '%', '&', '\'', ',', '.', '/', ':', '>', '?', '@', 'A', 'Z', '[', '`', '{', '|', 127, 128, 255};
        for (char c : none) {
            fault(c + "", 0);
            fault("go 1; " + c + "rush 1;", 6);
            fault("go up" + c + ";", 5);
            fault("go 12" + c + ";", 5);
            fault("go 1;rush 1;harm 1;" + c, 19);
        }
    }

    private static void strangeWords() {
        says(TERMS_1, "a WORD that is neither KEY nor NAME,");
        faults("|a", "|ho 1;", "|gone 1;", "go |o;", "go |nota 1;", "go 1 |ors 1;", "go 1 |an 1;", "go 1;|rus 1;", "go 1;|rushh 1;",
            "go 1;rush 1;|har 1;", "go |pric;", "go 1 + |vp;", "go (|x);", "go 1;rush 1;harm 1;|end");
        StringBuilder letters = new StringBuilder();
        while (letters.length() < 157) letters.append('u');
        fault("go " + letters, 3);
    }

    private static void longNumbers() {
        says(TERMS_1, "a NUMBER that is too long,");
        faults("go |12345;", "go |00000;", "go 9999+|99990;", "|12345", "go 1 |12345;", "go (|55555);", "go 1;rush 1;harm 1;|12345");
        StringBuilder digits = new StringBuilder();
        while (digits.length() < 157) digits.append('0');
        fault("go " + digits, 3);
        fineE("1234", "9999+9999");
    }

    /** All rows of so many of ( not - that may stand one behind the other. */
    private static List<String> rowsOfOpen(int n) {
        List<String> rows = new ArrayList<>(List.of(""));
        for (int k = 0; k < n; k++) {
            List<String> longer = new ArrayList<>();
            for (String row : rows) {
                longer.add(row + "(");
                longer.add(row + "-");
                if (!row.endsWith("-")) longer.add(row + " not ");
            }
            rows = longer;
        }
        return rows;
    }

    private static String closed(String open) {
        return open + "1" + open.replaceAll("[^(]", "").replace('(', ')');
    }

    private static void sixthOpen() {
        says(TERMS_1, "a ( , a not, a - ahead of a ONE while 5 of these are open");
        for (String five : rowsOfOpen(5)) {
            fine("go " + closed(five) + ";rush 1;harm 1;");
            fault("go " + five + "|(1);");
            fault("go " + five + "|-1;");
            if (!five.endsWith("-")) fault("go " + five + "|not 1;");
        }
        fineE("(((((1 - 1)))))", "(((((1 - 1 - 1)))))", "((((- 1 - 1))))");
        faults("go 1 - (((((1 - |-1)))));", "go 1 + (((((1 + |(1))))));", "go (((((1 and |not 1)))));", "go 1;rush 1;harm -----|-1;");
    }

    private static void tillTheyEnd() {
        says(TERMS_1, "(a ( till its ) , not and - till what they belong to ends).");
        fineE("(((((1)))))+(((((1)))))", "((((1)+(1)+((1)))))", "((((-1))))*-1");
        faultyE("((((1)+(1)+((|(1))))))", "((((1)*-(|(1)))))", "(((((1))*((|((1))))))");
        fineE("-----1 - -----1", "-----1*-----1", "-(-(-1)) + -----1", "not -1 < ----1");
        faultyE("----(|-1)", "----(1 * |-1)", "-----1*-----|-1");
        fineE("not not not not not 1 and not not not not not 1", "not not not not not 1 or -----1", "(not not not not 1)+(not 1)");
        faultyE("not not not not not 1 < |-1", "not not not not not 1 * |(1)", "not not not not (1 + |-1)", "not not not not -1 = -|(1)");
        faults("go not not not not not 1 < 1 + |-1;", "go not not not not not up |not 1;");
        fine("go -----1;rush -----1;harm -----1;", "go (((((1)))));rush (((((1)))));harm not not not not not 1;");
    }

    private static void sixTexts() {
        says(TERMS_1, "There are 6 TEXTS at most, TEXT 0 with them.");
        Asked x = fresh();
        x.due(1, "count", 4);
        x.due(0, "force", 0);
        for (int text = 1; text < 6; text++) {
            x.refused(BAD, "force", text);
            x.feed("go 1;rush 1;harm " + text + ";");
            x.due(text, "text");
            x.due(text - 1, "force", text);
        }
        x.feed("go 1;rush 1;harm 1;");
        x.refused(FULL, "text");
        x.refused(BAD, "force", 6);
        x.due(6, "count", 4);
    }
}
