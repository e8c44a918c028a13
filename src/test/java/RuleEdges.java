/** The bounds of what a rule's names tell in a MINUTE, and of go, rush and harm. */
final class RuleEdges extends Edges {
    private RuleEdges() {
    }

    static void all() {
        up();
        waits();
        left();
        price();
        heard();
        sun();
        go();
        goBounds();
        rush();
        harm();
        theRule();
    }

    /** As no car goes, those who went and came stand at the platform as the last MINUTE ends. */
    private static void went(Asked x, int... due) {
        for (int end = 1; end <= due.length; end++) {
            x.ask("set", 5, 0, end);
            x.due(due[end - 1], "waits", 0, 0);
        }
    }

    private static void up() {
        says(TERMS_1, "Of a SORT in a MINUTE: up: how many of it are UP still;");
        went(hill(50, 600, "up - 45", "0", "1"), 5, 5, 5);
        went(hill(50, 600, "(up = 50) * 3 + (up = 47) * 2", "0", "1"), 3, 5, 5);
        went(hill(2, 600, "1 + (up = 0) * 9", "0", "1"), 1, 2, 2);
        Asked x = hill(9, 600, "up < 9", "0", "1");
        x.ask("people", 8, 600);
        went(x, 1, 2, 3);
    }

    private static void waits() {
        says(TERMS_1, "wait: how many wait at the platform in all;");
        went(hill(50, 600, "2 + wait", "0", "1"), 2, 6, 14, 30);
        Asked x = hill(50, 600, "2 + wait", "0", "1");
        x.ask("people", 50, 600);
        went(x, 4, 16, 52);
        went(hill(50, 1600, "2 + wait", "0", "1"), 0, 2, 4, 8);
        Asked y = hill(50, 600, "2 + wait", "0", "1");
        y.ask("car", 60, 1, 0);
        y.ask("set", 5, 0, 3);
        y.due(6, "rode", 0, 0);
    }

    private static void left() {
        says(TERMS_1, "left: END less that MINUTE;");
        went(hill(50, 600, "left", "0", "1"), 1, 3, 6, 10);
        Asked x = hill(50, 600, "left - 119", "0", "1");
        x.ask("set", 5, 0, 120);
        x.due(1, "waits", 0, 0);
        x.due(0, "waits", 0, 1);
        Asked y = hill(50, 600, "7 * (left = 1)", "0", "1");
        y.ask("set", 5, 0, 120);
        y.due(7, "waits", 0, 0);
        y.due(119, "waits", 0, 1);
        went(hill(50, 600, "7 * (left = 0)", "0", "1"), 0, 0, 0);
    }

    private static Asked hillBy(int kind, int from, int number, String go) {
        Asked x = fresh();
        x.ask("people", 50, 609);
        x.ask("way", kind, from, number);
        return x.rule(go, "0", "1");
    }

    private static void price() {
        says(TERMS_1, "price: what is ASKED;");
        went(hillBy(0, 0, 9, "price"), 1, 2, 3);
        went(hillBy(2, 1, 9, "price"), 1, 11, 21);
        went(hillBy(3, 0, 9, "price"), 0, 0, 0);
        went(hillBy(4, 1, 9, "price"), 2, 22, 42);
        went(hillBy(5, 1, 9, "price"), 9, 18, 27);
    }

    private static void heard() {
        says(TERMS_1, "heard: HEARS times CALLS by 10 (cut);");
        went(hillBy(0, 0, 9, "heard"), 0, 0, 0);
        went(hillBy(1, 1, 1, "heard"), 0, 0, 0);
        went(hillBy(1, 1, 2, "heard"), 0, 1, 2);
        went(hillBy(1, 1, 9, "heard"), 0, 8, 16);
        went(hillBy(3, 0, 0, "heard"), 4, 4, 4);
        went(hillBy(5, 1, 9, "heard"), 0, 25, 41);
        Asked x = hillBy(1, 0, 9, "heard");
        x.ask("set", 3, 0, 0);
        went(x, 0, 0);
        x.ask("set", 3, 0, 1);
        went(x, 0, 0);
    }

    private static void sun() {
        says(TERMS_1, "sun: SUN.");
        Asked x = hill(50, 600, "sun", "0", "1");
        x.ask("set", 4, 1, 0);
        x.ask("set", 4, 2, 9);
        went(x, 5, 5, 14, 19);
        Asked y = hill(50, 600, "7 * (sun = 8)", "0", "1");
        y.ask("set", 4, 119, 8);
        y.ask("set", 5, 0, 119);
        y.due(0, "waits", 0, 0);
        y.ask("set", 5, 0, 120);
        y.due(7, "waits", 0, 0);
    }

    private static void go() {
        says(TERMS_1, "go: how many more go than UP by SLOW (cut)");
        went(hill(59, 600, "0", "0", "1"), 0, 0);
        went(hill(60, 600, "0", "0", "1"), 1, 1);
        went(hill(119, 600, "0", "0", "1"), 1, 2);
        went(hill(120, 600, "0", "0", "1"), 2, 3, 4);
        went(hill(5, 10, "0", "0", "1"), 5, 5);
        went(hill(5, 20, "0", "0", "1"), 2, 3, 4, 4);
    }

    private static void goBounds() {
        says(TERMS_1, "(-99 .. 400, else the bound; together 0 at least, UP at most).");
        String[] least = {"-97", "-98", "-99", "-100", "-101", "-9999", LEAST_INT};
        int[] byLeast = {3, 2, 1, 1, 1, 1, 1};
        for (int i = 0; i < least.length; i++) went(hill(400, 40, least[i], "0", "1"), byLeast[i]);
        String[] most = {"392", "393", "394", "399", "400", "401", "9999", GREATEST_INT};
        int[] byMost = {398, 399, 400, 400, 400, 400, 400, 400};
        for (int i = 0; i < most.length; i++) went(hill(400, 600, most[i], "0", "1"), byMost[i]);
        String[] few = {"-5", "-6", "-7", "-99", "0", "1", "400"};
        int[] byFew = {1, 0, 0, 0, 6, 6, 6};
        for (int i = 0; i < few.length; i++) went(hill(6, 10, few[i], "0", "1"), byFew[i]);
        went(hill(0, 10, "400", "0", "1"), 0, 0);
        Asked x = hill(400, 40, "-100", "0", "1");
        x.ask("people", 0, 10);
        went(x, 1, 1);
    }

    /** Sixty wait as a car goes in MINUTE 0. */
    private static void rushed(int room, String rush, int due) {
        Asked x = hill(60, 10, "0", rush, "1");
        x.ask("people", 3, 19);
        x.ask("set", 0, 1, 0);
        x.ask("car", room, 30, 0);
        x.ask("set", 5, 0, 1);
        x.due(due, "rode", 0, 0);
    }

    private static void rush() {
        says(TERMS_1, "rush (of SORT 0, as a car goes): how many fewer a car takes (0 .. 60, else the bound).");
        String[] rushes = {"0", "1", "59", "60", "61", "9999", GREATEST_INT, "-1", "-9999", LEAST_INT};
        int[] of60 = {60, 59, 1, 0, 0, 0, 0, 60, 60, 60};
        for (int i = 0; i < rushes.length; i++) rushed(60, rushes[i], of60[i]);
        String[] little = {"0", "4", "5", "6", "60", "-1"};
        int[] of5 = {5, 1, 0, 0, 0, 5};
        for (int i = 0; i < little.length; i++) rushed(5, little[i], of5[i]);
        rushed(10, "wait - 55", 5);
        rushed(10, "up + 2", 8);
        rushed(10, "heard + left + price + sun", 3);
        rushOfSortZero();
        Asked x = hill(30, 600, "10", "wait - 12", "1");
        x.ask("car", 5, 30, 1);
        x.ask("car", 5, 30, 1);
        x.ask("set", 5, 0, 2);
        x.due(0, "rode", 0, 0);
        x.due(0, "rode", 0, 1);
        x.rule("10", "(wait - 17) * 2", "1");
        x.due(0, "rode", 0, 0);
        x.rule("10", "wait - 18", "1");
        x.due(3, "rode", 0, 0);
        x.due(5, "rode", 0, 1);
    }

    /** Of SORT 0 there are 8 up still, and it hears 2; of SORT 1 none, and it hears 4; 22 wait in all as the car goes. */
    private static void rushOfSortZero() {
        Asked x = fresh();
        x.ask("people", 9, 604);
        x.ask("people", 1, 608);
        x.ask("way", 1, 0, 5);
        x.ask("car", 10, 30, 0);
        x.ask("people", 20, 19);
        x.ask("set", 5, 0, 1);
        x.rule("1", "up", "1");
        x.due(2, "rode", 0, 0);
        x.rule("1", "heard * 3", "1");
        x.due(4, "rode", 0, 0);
        x.rule("1", "wait - 20", "1");
        x.due(8, "rode", 0, 0);
    }

    /** Nobody goes at first; then one goes in each MINUTE. */
    private static void harm() {
        says(TERMS_1, "harm: what one of a SORT who is LEFT is worth (0 .. 99, else the bound; up, wait as at the END; left, price, heard, sun 0).");
        String[] harms = {"0", "1", "98", "99", "100", "9999", GREATEST_INT, "-1", "-99", LEAST_INT};
        int[] one = {0, 1, 98, 99, 99, 99, 99, 0, 0, 0};
        for (int i = 0; i < harms.length; i++) hill(400, 600, "-99", "0", harms[i]).due(400 * one[i], "harm", 0);
        Asked x = hill(10, 600, "1", "0", "up");
        x.ask("set", 5, 0, 3);
        x.due(10 * 7, "harm", 0);
        x.rule("1", "0", "wait");
        x.due(10 * 3, "harm", 0);
        x.ask("set", 1, 0, 1);
        x.due(10 * 2, "harm", 0);
        x.ask("car", 1, 30, 2);
        x.due(9, "harm", 0);
        x.rule("1", "0", "3 + left + price + heard + sun");
        x.ask("way", 5, 0, 9);
        x.due(9 * 3, "harm", 0);
        x.due(9 * 3, "harm", 1);
    }

    private static void theRule() {
        says(TERMS_1, "TEXT 0, at first THE RULE, is: go heard * 3 - sun ; rush 0 ; harm 1 ;");
        Asked x = fresh();
        x.ask("people", 50, 609);
        x.ask("way", 1, 1, 4);
        x.due(0, "count", 6);
        went(x, 0, 4, 8);
        x.ask("set", 4, 0, 0);
        x.ask("set", 4, 1, 9);
        x.ask("set", 4, 2, 8);
        went(x, 0, 0, 1);
        x.due(50, "harm", 0);
        x.ask("car", 60, 1, 0);
        x.due(49, "harm", 0);
        x.rule("400", "60", "0");
        x.due(0, "harm", 0);
        x.due(1, "force", 0);
        x.due(49, "harm", 0);
    }
}
