/** Counts the answers that are not as due, and ends a test with 1 if there was one. */
final class Due {
    private static int asked = 0;
    private static int wrong = 0;

    private Due() {
    }

    static void be(String call, long got, long want) {
        asked++;
        if (got != want) {
            wrong++;
            if (wrong <= 20) System.out.println(call + " answered " + got + ", due is " + want);
        }
    }

    /** Feeds a text of signs 0 to 255, eight at a time; what THE TAPE holds then is asked. */
    static void feed(LastCar x, String signs) {
        for (int i = 0; i < signs.length(); i += 8) {
            int n = Math.min(8, signs.length() - i);
            x.feed(n, bytes(signs, i, n));
        }
        be("count(5) behind feeding", x.count(5), signs.length());
    }

    static long bytes(String signs, int from, int n) {
        long bytes = 0;
        for (int k = n - 1; k >= 0; k--) bytes = bytes << 8 | signs.charAt(from + k);
        return bytes;
    }

    static int text(LastCar x, String signs) {
        feed(x, signs);
        return x.text();
    }

    /** A rule of these three parts is THE RULE from now on. */
    static void rule(LastCar x, String go, String rush, String harm) {
        int number = text(x, "go " + go + ";rush " + rush + ";harm " + harm + ";");
        be("force of go " + go + " rush " + rush + " harm " + harm, x.force(number) >= 0 ? 1 : 0, 1);
    }

    static void end(String test) {
        System.out.println(test + ": " + asked + " answers, " + wrong + " not as due");
        if (wrong != 0 || asked == 0) System.exit(1);
    }
}
