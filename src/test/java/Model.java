import java.util.ArrayList;
import java.util.Arrays;
import java.util.Comparator;
import java.util.HashMap;
import java.util.List;
import java.util.Map;
import java.util.regex.Matcher;
import java.util.regex.Pattern;

/** The document told once more, slowly: every one up on the hill is an object, every text stays a row of signs. */
final class Model {
    private static final long NO = -4611686018427387904L;
    private static final List<String> NAMES = Arrays.asList("up", "wait", "left", "price", "heard", "sun");

    static final class Person {
        final int sort;
        int came = Integer.MAX_VALUE;
        int rode = Integer.MAX_VALUE;
        int car = -1;
        boolean up = true;

        Person(int sort) {
            this.sort = sort;
        }

        boolean waitsAt(int minute) {
            return came <= minute && rode == Integer.MAX_VALUE;
        }
    }

    private List<int[]> sorts = new ArrayList<>();
    private final List<int[]> cars = new ArrayList<>();
    private final List<int[]> ways = new ArrayList<>();
    private int[] sun = new int[120];
    private int end = 90;
    private int shutFrom = -1;
    private int shutTo = -1;
    private int rule = 0;
    private final List<String> texts = new ArrayList<>();
    private final Map<String, List<List<String>>> partsOf = new HashMap<>();
    private String tape = "";
    private final int[][] sheets = new int[4][];
    private final int[] sheetSorts = new int[4];
    private Object[] image = null;

    Model() {
        Arrays.fill(sun, 5);
        texts.add("go heard * 3 - sun ; rush 0 ; harm 1 ;");
    }

    int people(int up, int rest) {
        int[] sort = {up, rest / 1000, rest % 1000 / 10, rest % 10};
        if (rest < 0 || up < 0 || up > 400 || sort[1] > 40 || sort[2] < 1 || sort[2] > 60) return -2;
        if (sorts.size() == 6) return -4;
        sorts.add(sort);
        return sorts.size() - 1;
    }

    int car(int room, int every, int first) {
        if (room < 1 || room > 60 || every < 1 || every > 30 || first < 0 || first > 119) return -2;
        if (cars.size() == 4) return -4;
        cars.add(new int[] {room, every, first});
        return cars.size() - 1;
    }

    int way(int kind, int from, int number) {
        if (kind < 0 || kind > 5 || from < 0 || from > 119 || number < 0 || number > 9) return -2;
        if (ways.size() == 8) return -4;
        ways.add(new int[] {kind, from, number});
        return ways.size() - 1;
    }

    int set(int what, int of, int v) {
        int was;
        if (what >= 0 && what <= 3) {
            int[] most = {400, 40, 60, 9};
            if (of < 0 || of >= sorts.size() || v < (what == 2 ? 1 : 0) || v > most[what]) return -2;
            was = sorts.get(of)[what];
            sorts.get(of)[what] = v;
            return was;
        }
        if (what == 4) {
            if (of < 0 || of > 119 || v < 0 || v > 9) return -2;
            was = sun[of];
            sun[of] = v;
            return was;
        }
        if (what != 5 || v < 1 || v > 120) return -2;
        was = end;
        end = v;
        return was;
    }

    int shut(int from, int to) {
        if (from == -1) {
            shutFrom = -1;
            return 1;
        }
        if (from < 0 || from > 119 || to < from || to > 119) return -2;
        shutFrom = from;
        shutTo = to;
        return 1;
    }

    private static int calls(int kind, int from, int number, int minute) {
        if (kind == 1) return minute >= from ? number : 0;
        if (kind == 3) return calls(1, from, number, minute) + (minute >= from && (minute - from) % 10 == 0 ? 5 : 0);
        if (kind == 5) return 2 * calls(3, from, number, minute);
        return 0;
    }

    private static int asks(int kind, int from, int number, int minute) {
        if (kind == 2) return asks(0, from, number, minute) + (minute >= from ? number : 0);
        if (kind == 3) return Math.max(0, asks(1, from, number, minute) - 1);
        if (kind == 4) return 2 * asks(2, from, number, minute);
        if (kind == 5) return asks(3, from, number, minute) + number;
        return 1;
    }

    int told(int way, int minute, int what) {
        if (noWay(way) || minute < 0 || minute > 119 || what < 0 || what > 4) return -2;
        int[] w = ways.get(way);
        if (what < 3) return w[what];
        return what == 3 ? calls(w[0], w[1], w[2], minute) : asks(w[0], w[1], w[2], minute);
    }

    private boolean noWay(int way) {
        return way < 0 || way >= ways.size();
    }

    // ---- texts

    int feed(int n, long bytes) {
        if (n < 1 || n > 8) return -2;
        if (tape.length() + n > 160) return -4;
        for (int k = 0; k < n; k++) {
            tape += (char) (bytes & 255);
            bytes >>= 8;
        }
        return tape.length();
    }

    int text() {
        if (texts.size() == 6) return -4;
        String read = tape;
        tape = "";
        int fault = fault(read);
        if (fault >= 0) return -100 - fault;
        texts.add(read);
        return texts.size() - 1;
    }

    private static final class Token {
        final String sign;
        final int place;

        Token(String sign, int place) {
            this.sign = sign;
            this.place = place;
        }
    }

    /** What can't be a token comes as "?"; behind the last one comes "" at the text's size. */
    private static List<Token> tokens(String text) {
        List<Token> tokens = new ArrayList<>();
        Matcher m = Pattern.compile("[a-z]+|[0-9]+|[^ \n]", Pattern.DOTALL).matcher(text);
        while (m.find()) {
            String sign = m.group();
            boolean fine = sign.matches("[0-9]{1,4}|go|rush|harm|or|and|not|[();+*<=-]") || NAMES.contains(sign);
            tokens.add(new Token(fine ? sign : "?", m.start()));
        }
        tokens.add(new Token("", text.length()));
        return tokens;
    }

    /** No recursion here: what is open stands in a row of ( with or without a comparison, n for not, - for minus. */
    static int fault(String text) {
        List<String> keys = Arrays.asList("go", "rush", "harm", "");
        int parts = 0;
        boolean inPart = false;
        boolean wantsOne = false;
        boolean mayNot = false;
        boolean compared = false;
        String open = "";
        List<Boolean> comparedOutside = new ArrayList<>();
        for (Token t : tokens(text)) {
            String s = t.sign;
            if (!inPart) {
                if (!s.equals(keys.get(parts))) return t.place;
                if (s.isEmpty()) return -1;
                inPart = true;
                wantsOne = true;
                mayNot = true;
                compared = false;
            } else if (wantsOne) {
                if (s.equals("not") && mayNot || s.equals("-") || s.equals("(")) {
                    if (open.length() == 5) return t.place;
                    open += s.charAt(0);
                    mayNot = !s.equals("-");
                    if (s.equals("(")) {
                        comparedOutside.add(compared);
                        compared = false;
                    }
                } else if (s.matches("[0-9]+") || NAMES.contains(s)) {
                    open = open.replaceAll("-+$", "");
                    wantsOne = false;
                } else {
                    return t.place;
                }
            } else if (s.equals("*") || s.equals("+") || s.equals("-")) {
                wantsOne = true;
                mayNot = false;
            } else if (s.equals("<") || s.equals("=")) {
                if (compared) return t.place;
                compared = true;
                wantsOne = true;
                mayNot = false;
            } else if (s.equals("or") || s.equals("and")) {
                open = open.replaceAll("n+$", "");
                compared = false;
                wantsOne = true;
                mayNot = true;
            } else if (s.equals(")")) {
                open = open.replaceAll("n+$", "");
                if (!open.endsWith("(")) return t.place;
                open = open.substring(0, open.length() - 1).replaceAll("-+$", "");
                compared = comparedOutside.remove(comparedOutside.size() - 1);
            } else if (s.equals(";")) {
                open = open.replaceAll("n+$", "");
                if (!open.isEmpty()) return t.place;
                inPart = false;
                parts++;
            } else {
                return t.place;
            }
        }
        return text.length();
    }

    int force(int text) {
        if (text < 0 || text >= texts.size()) return -2;
        int was = rule;
        rule = text;
        return was;
    }

    /** Works out one part of a text by splitting it at what binds least; places are those of tokens. */
    private static int value(List<String> e, int[] names) {
        int at = lastOutside(e, "or", null);
        if (at >= 0) return value(e.subList(0, at), names) != 0 | value(e.subList(at + 1, e.size()), names) != 0 ? 1 : 0;
        at = lastOutside(e, "and", null);
        if (at >= 0) return value(e.subList(0, at), names) != 0 & value(e.subList(at + 1, e.size()), names) != 0 ? 1 : 0;
        if (e.get(0).equals("not")) return value(e.subList(1, e.size()), names) == 0 ? 1 : 0;
        at = lastOutside(e, "<", "=");
        if (at >= 0) {
            int a = value(e.subList(0, at), names);
            int b = value(e.subList(at + 1, e.size()), names);
            return (e.get(at).equals("<") ? a < b : a == b) ? 1 : 0;
        }
        at = lastOutside(e, "+", "-");
        if (at > 0) {
            int a = value(e.subList(0, at), names);
            int b = value(e.subList(at + 1, e.size()), names);
            return e.get(at).equals("+") ? a + b : a - b;
        }
        at = lastOutside(e, "*", null);
        if (at >= 0) return value(e.subList(0, at), names) * value(e.subList(at + 1, e.size()), names);
        if (e.get(0).equals("-")) return -value(e.subList(1, e.size()), names);
        if (e.get(0).equals("(")) return value(e.subList(1, e.size() - 1), names);
        int name = NAMES.indexOf(e.get(0));
        return name >= 0 ? names[name] : Integer.parseInt(e.get(0));
    }

    /** The last place of one of two signs outside of all ( ), as a sign that joins: a - ahead of a ONE is none. */
    private static int lastOutside(List<String> e, String sign, String other) {
        int depth = 0;
        for (int i = e.size() - 1; i >= 0; i--) {
            String s = e.get(i);
            if (s.equals(")")) depth++;
            if (s.equals("(")) depth--;
            if (depth != 0 || !s.equals(sign) && !s.equals(other)) continue;
            if (s.equals("-") && (i == 0 || e.get(i - 1).matches("[-+*<=(]|or|and|not"))) continue;
            return i;
        }
        return -1;
    }

    private static List<List<String>> parts(String text) {
        List<List<String>> parts = new ArrayList<>();
        List<String> part = new ArrayList<>();
        for (Token t : tokens(text)) {
            if (t.sign.equals(";")) {
                parts.add(part.subList(1, part.size()));
                part = new ArrayList<>();
            } else {
                part.add(t.sign);
            }
        }
        return parts;
    }

    private int ruled(int part, int[] names, int least, int most) {
        List<String> e = partsOf.computeIfAbsent(texts.get(rule), Model::parts).get(part);
        return Math.min(most, Math.max(least, value(e, names)));
    }

    // ---- days

    private List<Person> everyone;
    private int[] waited;

    private void run(int kind, int from, int number, int[] toldCalls, int carsMore) {
        everyone = new ArrayList<>();
        waited = new int[end];
        for (int s = 0; s < sorts.size(); s++) {
            for (int i = 0; i < sorts.get(s)[0]; i++) everyone.add(new Person(s));
        }
        for (int m = 0; m < end; m++) {
            int call = toldCalls == null ? calls(kind, from, number, m) : m < toldCalls.length ? toldCalls[m] : 0;
            int ask = asks(kind, from, number, m);
            for (int s = 0; s < sorts.size(); s++) {
                int[] names = names(s, m, m == 0 ? 0 : waited[m - 1], call, ask);
                int go = names[0] / sorts.get(s)[2] + ruled(0, names, -99, 400);
                for (Person p : everyone) {
                    if (go > 0 && p.sort == s && p.up) {
                        go--;
                        p.up = false;
                        p.came = m + sorts.get(s)[1];
                    }
                }
            }
            for (int c = 0; c < cars.size() + carsMore; c++) {
                if (goes(c, m)) ride(kind, c, m, call, ask);
            }
            waited[m] = waitingAt(m);
        }
    }

    private int[] names(int sort, int minute, int wait, int call, int ask) {
        int up = 0;
        for (Person p : everyone) if (p.sort == sort && p.up) up++;
        return new int[] {up, wait, end - minute, ask, sorts.get(sort)[3] * call / 10, sun[minute]};
    }

    private int waitingAt(int minute) {
        int n = 0;
        for (Person p : everyone) if (p.waitsAt(minute)) n++;
        return n;
    }

    private boolean goes(int car, int minute) {
        int[] c = cars.get(car < cars.size() ? car : 0);
        boolean isShut = shutFrom >= 0 && shutFrom <= minute && minute <= shutTo;
        return !isShut && minute >= c[2] && (minute - c[2]) % c[1] == 0;
    }

    private void ride(int kind, int car, int minute, int call, int ask) {
        if (sorts.isEmpty()) return;
        int rush = ruled(1, names(0, minute, waitingAt(minute), call, ask), 0, 60);
        List<Person> there = new ArrayList<>();
        for (Person p : everyone) if (p.waitsAt(minute)) there.add(p);
        Comparator<Person> order = Comparator.comparingInt(p -> p.came * 10 + p.sort);
        if (kind == 3 || kind == 5) order = Comparator.comparingInt((Person p) -> -sorts.get(p.sort)[1]).thenComparing(order);
        if (kind == 4) order = Comparator.comparingInt((Person p) -> p.sort).thenComparing(order);
        there.sort(order);
        int room = cars.get(car < cars.size() ? car : 0)[0] - rush;
        for (int i = 0; i < room && i < there.size(); i++) {
            there.get(i).rode = minute;
            there.get(i).car = car;
        }
    }

    private void runWay(int way) {
        int[] w = ways.get(way);
        run(w[0], w[1], w[2], null, 0);
    }

    private int leftNow(int sort) {
        int n = 0;
        for (Person p : everyone) if ((sort == -1 || p.sort == sort) && p.rode == Integer.MAX_VALUE) n++;
        return n;
    }

    int left(int way, int sort) {
        if (noWay(way) || sort < -1 || sort >= sorts.size()) return -2;
        runWay(way);
        return leftNow(sort);
    }

    long harm(int way) {
        if (noWay(way)) return NO;
        runWay(way);
        long sum = 0;
        for (Person p : everyone) {
            if (p.rode != Integer.MAX_VALUE) continue;
            int up = 0;
            for (Person q : everyone) if (q.sort == p.sort && q.up) up++;
            sum += ruled(2, new int[] {up, waitingAt(end - 1), 0, 0, 0, 0}, 0, 99);
        }
        return sum;
    }

    int rode(int way, int car) {
        if (noWay(way) || car < -1 || car >= cars.size()) return -2;
        runWay(way);
        int n = 0;
        for (Person p : everyone) if (p.car >= 0 && (car == -1 || p.car == car)) n++;
        return n;
    }

    int waits(int way, int what) {
        if (noWay(way) || what < 0 || what > 1) return -2;
        runWay(way);
        int best = 0;
        for (int m = 1; m < end; m++) if (waited[m] > waited[best]) best = m;
        return what == 0 ? waited[best] : best;
    }

    private int downNow(int sort, int minute) {
        int n = 0;
        for (Person p : everyone) if ((sort == -1 || p.sort == sort) && p.rode <= minute) n++;
        return n;
    }

    int down(int way, int sort, int minute) {
        if (noWay(way) || sort < -1 || sort >= sorts.size() || minute < 0 || minute >= end) return -2;
        runWay(way);
        return downNow(sort, minute);
    }

    int behind(int way, int many) {
        if (noWay(way) || many < 0 || many > 2400) return -2;
        runWay(way);
        for (int m = 0; m < end; m++) if (downNow(-1, m) >= many) return m;
        return -1;
    }

    // ---- the latest, more cars

    int latest(int way, int most) {
        if (noWay(way) || most < 0 || most > 2400) return -2;
        int found = -1;
        int[] w = ways.get(way);
        for (int from = 0; from < end; from++) {
            run(w[0], from, w[2], null, 0);
            if (leftNow(-1) <= most) found = from;
        }
        return found;
    }

    int more(int way, int most) {
        if (noWay(way) || most < 0 || most > 2400 || cars.isEmpty()) return -2;
        int[] w = ways.get(way);
        for (int more = 0; more <= 20; more++) {
            run(w[0], w[1], w[2], null, more);
            if (leftNow(-1) <= most) return more;
        }
        return -1;
    }

    long choose(int what) {
        if (what < 0 || what > 1 || ways.isEmpty()) return NO;
        int best = 0;
        for (int w = 1; w < ways.size(); w++) if (harm(w) < harm(best)) best = w;
        return what == 0 ? best : harm(best);
    }

    int must() {
        int sum = 0;
        for (int c = 0; c < cars.size(); c++) {
            for (int m = 0; m < end; m++) if (goes(c, m)) sum += cars.get(c)[0];
        }
        return sum - count(7);
    }

    int latestUp(int sort) {
        if (sort < 0 || sort >= sorts.size()) return -2;
        int found = -1;
        for (int m = 0; m < end; m++) {
            int there = m + sorts.get(sort)[1];
            for (int c = 0; c < cars.size(); c++) if (there < end && goes(c, there)) found = m;
        }
        return found;
    }

    int judge(int sheet) {
        if (sheet < 0 || sheet > 3) return -2;
        if (sheets[sheet] == null) return -11;
        for (int v : sheets[sheet]) if (v < 0 || v > 99) return -2;
        run(0, 0, 0, sheets[sheet], 0);
        return leftNow(-1);
    }

    int image() {
        List<int[]> keptSorts = new ArrayList<>();
        for (int[] s : sorts) keptSorts.add(s.clone());
        image = new Object[] {keptSorts, sun.clone(), end, shutFrom, shutTo, rule};
        return sorts.size();
    }

    @SuppressWarnings("unchecked")
    int back() {
        if (image == null) return -3;
        List<int[]> keptSorts = (List<int[]>) image[0];
        for (int s = 0; s < keptSorts.size(); s++) sorts.set(s, keptSorts.get(s).clone());
        sun = ((int[]) image[1]).clone();
        end = (Integer) image[2];
        shutFrom = (Integer) image[3];
        shutTo = (Integer) image[4];
        rule = (Integer) image[5];
        return sorts.size();
    }

    int count(int what) {
        int up = 0;
        for (int[] s : sorts) up += s[0];
        int[] counts = {sorts.size(), cars.size(), ways.size(), end, texts.size(), tape.length(), rule, up};
        return what < 0 || what > 7 ? -2 : counts[what];
    }

    // ---- the host

    int sheet(int sheet, int sort, int n) {
        if (sheet < 0 || sheet > 3 || sort < -1 || sort > 2 || sort >= 0 && n > 40) return -2;
        if (sort >= 0 && n < 0) return -14;
        sheets[sheet] = sort < 0 ? null : new int[n];
        sheetSorts[sheet] = sort;
        return 1;
    }

    int cell(int sheet, int i, int v) {
        if (sheet < 0 || sheet > 3) return -2;
        if (sheets[sheet] == null) return -11;
        if (i < 0 || i >= sheets[sheet].length) return -12;
        int sort = sheetSorts[sheet];
        sheets[sheet][i] = sort == 0 ? (byte) v : sort == 1 ? (short) v : v;
        return 1;
    }

    int copy(int sheet, int i, int other, int j, int n) {
        if (sheet < 0 || sheet > 3 || other < 0 || other > 3) return -2;
        if (sheets[sheet] == null || sheets[other] == null) return -11;
        if (sheetSorts[sheet] != sheetSorts[other]) return -13;
        if (i < 0 || j < 0 || n < 0) return -12;
        if ((long) i + n > sheets[sheet].length || (long) j + n > sheets[other].length) return -12;
        int[] was = sheets[sheet].clone();
        for (int k = 0; k < n; k++) sheets[other][j + k] = was[i + k];
        return n;
    }

    int sorts(int sheet, int sort, int from, int n) {
        if (sheet < 0 || sheet > 3 || sort < 0 || sort > 2 || n < 0 || n > 8) return -2;
        if (sheets[sheet] == null) return -11;
        if (sheetSorts[sheet] != sort) return -13;
        int came = 0;
        for (long i = from; i < from + 2L * n; i += 2) {
            if (i < 0 || i + 1 >= sheets[sheet].length) return -12;
            if (people(sheets[sheet][(int) i], sheets[sheet][(int) i + 1]) >= 0) came++;
        }
        return came;
    }

    int taken(int way, int k) {
        if (k < 0 || k > 5) return -2;
        if (noWay(way)) return -11;
        String[] under = {"0", "10", "20", "310", "420", "5310"};
        int[] w = ways.get(way);
        return under[w[0]].indexOf((char) ('0' + k)) >= 0 ? w[2] : -13;
    }
}
