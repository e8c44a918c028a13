/** What the document begins with, word by word, and how long an object is used. */
final class FirstEdges extends Edges {
    private static final String FIRST = "First";

    private FirstEdges() {
    }

    static void all() {
        people();
        cars();
        minuteByMinute();
        rules();
        rush();
        leftByEachRule();
        carsMore();
        storm();
        toldCalls();
        whoGoesFirst();
        laidBack();
        use();
    }

    private static void people() {
        says(FIRST, "The last car down: people of sorts who are up on a hill, at places so many minutes from the car,"
            + " and go down when they like, by a rule of texts;");
        Asked x = fresh();
        x.due(0, "people", 7, 3600);
        x.due(1, "people", 4, 600);
        x.due(11, "count", 7);
        x.ask("car", 60, 1, 0);
        x.ask("way", 0, 0, 0);
        x.due(11, "left", 0, NONE);
        x.rule("2 * (left = 80)", "0", "1");
        int[] minutes = {9, 10, 12, 13};
        int[] far = {0, 0, 0, 2};
        int[] near = {0, 2, 2, 2};
        for (int i = 0; i < 4; i++) {
            x.due(far[i], "down", 0, 0, minutes[i]);
            x.due(near[i], "down", 0, 1, minutes[i]);
        }
        x.due(11, "count", 7);
    }

    /** The car's last MINUTE is 60: who comes behind it is left. */
    private static void cars() {
        says(FIRST, "cars with room that go for the last time;");
        Asked x = hill(7, 600, "400 * (left = 30)", "0", "1");
        x.ask("car", 5, 30, 0);
        x.due(2, "left", 0, 0);
        x.due(60, "behind", 0, 1);
        x.rule("400 * (left = 29)", "0", "1");
        x.due(7, "left", 0, 0);
        x.due(NONE, "behind", 0, 1);
    }

    private static void minuteByMinute() {
        says(FIRST, "minute by minute who comes to the platform, who waits, who rides, who is left;");
        Asked x = hill(6, 1600, "1", "0", "1");
        x.ask("car", 2, 2, 2);
        int[] left = {6, 6, 4, 4, 2, 2, 0};
        for (int end = 1; end <= 7; end++) {
            x.ask("set", 5, 0, end);
            x.due(left[end - 1], "left", 0, 0);
            x.due(6 - left[end - 1], "rode", 0, 0);
            x.due(end > 1 ? 1 : 0, "waits", 0, 0);
            x.due(end > 1 ? 1 : 0, "waits", 0, 1);
        }
    }

    private static void rules() {
        says(FIRST, "rules of kinds by which one calls, asks more, gives hours, lets nobody up;");
        Asked x = hill(6, 10600, "1", "0", "1");
        for (int kind = 1; kind < 4; kind++) x.due(kind, "way", kind, 10, 4);
        int[] minutes = {9, 10, 11, 20};
        int[] calls = {0, 4, 4, 4};
        int[] asks = {1, 5, 5, 5};
        int[] hours = {0, 9, 4, 9};
        for (int i = 0; i < 4; i++) {
            x.due(calls[i], "told", 1, minutes[i], 3);
            x.due(asks[i], "told", 2, minutes[i], 4);
            x.due(hours[i], "told", 3, minutes[i], 3);
        }
        x.ask("car", 1, 30, 15);
        x.due(65, "latestUp", 0);
    }

    private static void rush() {
        says(FIRST, "a rush;");
        Asked x = hill(20, 10, "0", "wait - 13", "1");
        x.ask("car", 9, 30, 0);
        x.ask("set", 5, 0, 1);
        x.due(2, "rode", 0, 0);
    }

    private static void leftByEachRule() {
        says(FIRST, "how many are left at the end by each rule, the latest minute to call by which nobody is;");
        Asked x = fresh();
        x.ask("people", 6, 605);
        x.ask("car", 60, 1, 0);
        x.ask("way", 0, 0, 0);
        x.ask("way", 1, 88, 4);
        x.rule("heard", "0", "1");
        x.due(6, "left", 0, NONE);
        x.due(2, "left", 1, NONE);
        x.due(NONE, "latest", 0, 0);
        x.due(87, "latest", 1, 0);
    }

    private static void carsMore() {
        says(FIRST, "how many cars more;");
        Asked x = hill(20, 10, "0", "0", "1");
        x.ask("car", 9, 30, 0);
        x.ask("set", 5, 0, 1);
        x.due(2, "more", 0, 0);
        x.due(1, "more", 0, 2);
        x.due(0, "more", 0, 11);
    }

    private static void storm() {
        says(FIRST, "a storm that shuts it;");
        Asked x = hill(20, 10, "0", "0", "1");
        x.ask("car", 1, 1, 0);
        x.ask("set", 5, 0, 15);
        x.due(5, "left", 0, 0);
        x.ask("shut", 4, 12);
        x.due(14, "left", 0, 0);
        x.due(6 - 20, "must");
    }

    private static void toldCalls() {
        says(FIRST, "told calls;");
        Asked x = fresh();
        x.ask("people", 20, 605);
        x.ask("car", 60, 1, 0);
        x.rule("heard", "0", "1");
        row(x, 0, 0, 4, 0, 10);
        x.due(13, "judge", 0);
    }

    /** Both SORTS wait as the one car goes: who came first, and who had more FAR to come. */
    private static void whoGoesFirst() {
        says(FIRST, "who goes first;");
        Asked x = hill(3, 10, "0", "0", "1");
        x.ask("people", 3, 5010);
        x.ask("way", 3, 0, 0);
        x.ask("car", 3, 30, 5);
        x.due(3, "down", 0, 0, 5);
        x.due(3, "down", 1, 1, 5);
    }

    private static void laidBack() {
        says(FIRST, "all laid back.");
        Asked x = world();
        x.ask("image");
        int[][] changes = {{0, 1, 7}, {1, 1, 7}, {2, 1, 7}, {3, 1, 7}, {4, 8, 7}, {5, 0, 7}};
        int[] were = new int[6];
        for (int i = 0; i < 6; i++) were[i] = (int) x.ask("set", changes[i][0], changes[i][1], changes[i][2]);
        x.ask("force", 1);
        x.due(3, "back");
        x.due(0, "count", 6);
        for (int i = 0; i < 6; i++) x.due(were[i], "set", changes[i][0], changes[i][1], changes[i][2]);
    }

    private static void use() {
        says("Use", "An object is used for at most 512 calls after it has been made; what later calls answer is free.");
        LastCar x = new LastCar();
        x.people(9, 10);
        x.way(0, 0, 0);
        for (int call = 3; call < 512; call++) x.set(0, 0, call % 400);
        Sentences.be("the 512th call: left(0, 0)", x.left(0, 0), 511 % 400);
        x.left(0, 0);
        Sentences.be("the 513th ends, with any answer", 1, 1);
    }
}
