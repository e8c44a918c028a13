import java.util.Arrays;

/** The last car down: who goes to the platform, who rides, who is left on the hill. */
public final class LastCar {
    public static final int NONE = -1, BAD = -2, STATE = -3, FULL = -4;
    public static final long NO = -4611686018427387904L;

    /** The host's refusals. */
    private static final int NOTHING = -11, OUTSIDE = -12, UNLIKE = -13, BELOW_ZERO = -14;

    private static final int MINUTES = 120, SORTS = 6, CARS = 4, WAYS = 8, TEXTS = 6, SHEETS = 4;
    private static final int TAPE_BYTES = 160, SHEET_CELLS = 40;
    private static final int ROOM_MOST = 60, EVERY_MOST = 30, NUMBER_MOST = 9;
    private static final int PEOPLE_MOST = 2400, CARS_MORE_MOST = 20, TOLD_MOST = 99, SORTS_BY_SHEET_MOST = 8;
    private static final int GO_LEAST = -99, GO_MOST = 400, RUSH_MOST = 60, HARM_MOST = 99;

    /** What set() names, and between which bounds each of these stands. */
    private static final int UP = 0, FAR = 1, SLOW = 2, HEARS = 3, SUN = 4, END = 5;
    private static final int[] LEAST = {0, 0, 1, 0, 0, 1};
    private static final int[] MOST = {400, 40, 60, 9, 9, MINUTES};

    /** KINDS of WAYS, and the one that each is under. */
    private static final int WAY = 0, BELL = 1, PRICE = 2, HOUR = 3, DEAR = 4, BOTH = 5;
    private static final int[] UNDER = {NONE, WAY, WAY, BELL, PRICE, HOUR};

    /** Sorts of SHEETS. */
    private static final int MISSING = -1, BYTES = 0, SHORTS = 1, INTS = 2;

    /** Parts of a TEXT, and the places of the NAMES in a row of their values. */
    private static final int GO_PART = 0, RUSH_PART = 1, HARM_PART = 2, PARTS = 3;
    private static final int UP_NAME = 0, WAIT_NAME = 1, LEFT_NAME = 2, PRICE_NAME = 3, HEARD_NAME = 4, SUN_NAME = 5;
    private static final int NAMES = 6;

    /**
     * TOKENS, and what a TEXT is made into: a sign is its own byte; the KEY of a part, a NAME and a NUMBER are told
     * by what stands here and the part, the NAME's place, the NUMBER's value. STRAY can stand nowhere.
     */
    private static final int STRAY = 0, TAPE_END = 1;
    private static final int OR = 256, AND = 257, NOT = 258, NEGATE = 259;
    private static final int PART_KEYS = 270, NAME = 300, NUMBER = 1000;
    private static final int DIGITS_MOST = 4, OPEN_MOST = 5;

    private static final String FIRST_RULE = "go heard * 3 - sun ; rush 0 ; harm 1 ;";

    private final Hill hill = new Hill();
    private final Hill kept = new Hill();
    private boolean imageKept = false;
    private final Cars cars = new Cars();
    private final Way[] ways = new Way[WAYS];
    private int wayCount = 0;
    private final Way plainWay = new Way(WAY, 0, 0);
    private final Tape tape = new Tape();
    private final Text[] texts = new Text[TEXTS];
    private int textCount = 1;
    private final Sheet[] sheets = new Sheet[SHEETS];
    private final Day day = new Day();

    public LastCar() {
        texts[0] = firstRule();
        for (int i = 1; i < TEXTS; i++) texts[i] = new Text();
        for (int i = 0; i < SHEETS; i++) sheets[i] = new Sheet();
    }

    private static Text firstRule() {
        Tape written = new Tape();
        Text rule = new Text();
        for (int i = 0; i < FIRST_RULE.length(); i++) written.append(FIRST_RULE.charAt(i));
        written.read(rule);
        return rule;
    }

    // ---- people, cars, ways

    public int people(int up, int rest) {
        return hill.addSort(up, rest);
    }

    public int car(int room, int every, int first) {
        if (!between(room, 1, ROOM_MOST) || !between(every, 1, EVERY_MOST) || !isMinute(first)) return BAD;
        return cars.add(room, every, first);
    }

    public int way(int kind, int from, int number) {
        if (!between(kind, WAY, BOTH) || !isMinute(from) || !between(number, 0, NUMBER_MOST)) return BAD;
        if (wayCount >= WAYS) return FULL;
        ways[wayCount] = new Way(kind, from, number);
        return wayCount++;
    }

    public int set(int what, int of, int v) {
        if (!fits(what, v)) return BAD;
        if (what == END) {
            int wasEnd = hill.end;
            hill.end = v;
            return wasEnd;
        }
        int[] row = hill.rowOf(what);
        if (row == null || !between(of, 0, hill.sizeOf(what) - 1)) return BAD;
        int was = row[of];
        row[of] = v;
        return was;
    }

    public int shut(int from, int to) {
        if (from != NONE && (!isMinute(from) || !isMinute(to) || to < from)) return BAD;
        hill.shutFrom = from;
        hill.shutTo = to;
        return 1;
    }

    public int told(int way, int minute, int what) {
        Way asked = wayAt(way);
        if (asked == null || !isMinute(minute)) return BAD;
        switch (what) {
            case 0: return asked.kind;
            case 1: return asked.from;
            case 2: return asked.number;
            case 3: return asked.callsIn(minute, asked.from);
            case 4: return asked.asksIn(minute, asked.from);
            default: return BAD;
        }
    }

    // ---- texts

    public int feed(int n, long bytes) {
        if (!between(n, 1, 8)) return BAD;
        if (tape.size + n > TAPE_BYTES) return FULL;
        for (int k = 0; k < n; k++) tape.append((int) (bytes >>> (8 * k)) & 255);
        return tape.size;
    }

    public int text() {
        if (textCount >= TEXTS) return FULL;
        int fault = tape.read(texts[textCount]);
        tape.empty();
        if (fault != NONE) return -100 - fault;
        return textCount++;
    }

    public int force(int text) {
        if (!between(text, 0, textCount - 1)) return BAD;
        int was = hill.rule;
        hill.rule = text;
        return was;
    }

    // ---- days

    public int left(int way, int sort) {
        Way asked = wayAt(way);
        if (asked == null || !isSortOrAll(sort)) return BAD;
        runDay(asked);
        return day.leftOf(hill, sort);
    }

    public long harm(int way) {
        Way asked = wayAt(way);
        if (asked == null) return NO;
        runDay(asked);
        return day.harmDone(hill, texts[hill.rule]);
    }

    public int rode(int way, int car) {
        Way asked = wayAt(way);
        if (asked == null || !between(car, NONE, cars.number - 1)) return BAD;
        runDay(asked);
        return car == NONE ? day.rodeInAll(hill) : day.rodeBy[car];
    }

    public int waits(int way, int what) {
        Way asked = wayAt(way);
        if (asked == null || !between(what, 0, 1)) return BAD;
        runDay(asked);
        return what == 0 ? day.mostWaiting : day.mostWaitingIn;
    }

    public int down(int way, int sort, int minute) {
        Way asked = wayAt(way);
        if (asked == null || !isSortOrAll(sort) || !between(minute, 0, hill.end - 1)) return BAD;
        runDay(asked);
        return day.downBehind(hill, sort, minute);
    }

    public int behind(int way, int many) {
        Way asked = wayAt(way);
        if (asked == null || !between(many, 0, PEOPLE_MOST)) return BAD;
        runDay(asked);
        for (int minute = 0; minute < hill.end; minute++) {
            if (day.downBehind(hill, NONE, minute) >= many) return minute;
        }
        return NONE;
    }

    // ---- the latest, more cars

    public int latest(int way, int most) {
        Way asked = wayAt(way);
        if (asked == null || !between(most, 0, PEOPLE_MOST)) return BAD;
        for (int from = hill.end - 1; from >= 0; from--) {
            if (leftBy(asked, from, 0) <= most) return from;
        }
        return NONE;
    }

    public int more(int way, int most) {
        Way asked = wayAt(way);
        if (asked == null || !between(most, 0, PEOPLE_MOST) || cars.number == 0) return BAD;
        for (int carsMore = 0; carsMore <= CARS_MORE_MOST; carsMore++) {
            if (leftBy(asked, asked.from, carsMore) <= most) return carsMore;
        }
        return NONE;
    }

    public long choose(int what) {
        if (!between(what, 0, 1)) return NO;
        int chosen = NONE;
        long least = NO;
        for (int way = 0; way < wayCount; way++) {
            runDay(ways[way]);
            long harm = day.harmDone(hill, texts[hill.rule]);
            if (chosen == NONE || harm < least) {
                chosen = way;
                least = harm;
            }
        }
        if (chosen == NONE) return NO;
        return what == 0 ? chosen : least;
    }

    public int must() {
        int sum = 0;
        for (int minute = 0; minute < hill.end; minute++) {
            if (!hill.isShutIn(minute)) sum += cars.roomIn(minute);
        }
        return sum - hill.allUp();
    }

    public int latestUp(int sort) {
        if (!between(sort, 0, hill.sorts - 1)) return BAD;
        for (int minute = hill.end - 1; minute >= hill.far[sort]; minute--) {
            if (!hill.isShutIn(minute) && cars.roomIn(minute) > 0) return minute - hill.far[sort];
        }
        return NONE;
    }

    public int judge(int sheet) {
        if (!isSheet(sheet)) return BAD;
        Sheet calls = sheets[sheet];
        if (calls.sort == MISSING) return NOTHING;
        if (!calls.allBetween(0, TOLD_MOST)) return BAD;
        day.hearWay(plainWay, plainWay.from, hill);
        day.hearSheet(calls);
        day.run(hill, cars, cars.number, texts[hill.rule]);
        return day.leftOf(hill, NONE);
    }

    public int image() {
        kept.takeOver(hill);
        imageKept = true;
        return hill.sorts;
    }

    public int back() {
        if (!imageKept) return STATE;
        hill.takeOver(kept);
        return hill.sorts;
    }

    public int count(int what) {
        switch (what) {
            case 0: return hill.sorts;
            case 1: return cars.number;
            case 2: return wayCount;
            case 3: return hill.end;
            case 4: return textCount;
            case 5: return tape.size;
            case 6: return hill.rule;
            case 7: return hill.allUp();
            default: return BAD;
        }
    }

    // ---- the host

    public int sheet(int sheet, int sort, int n) {
        if (!isSheet(sheet) || !between(sort, MISSING, INTS)) return BAD;
        if (sort != MISSING && n > SHEET_CELLS) return BAD;
        if (sort != MISSING && n < 0) return BELOW_ZERO;
        sheets[sheet].become(sort, sort == MISSING ? 0 : n);
        return 1;
    }

    public int cell(int sheet, int i, int v) {
        if (!isSheet(sheet)) return BAD;
        Sheet row = sheets[sheet];
        if (row.sort == MISSING) return NOTHING;
        if (!row.has(i)) return OUTSIDE;
        row.put(i, v);
        return 1;
    }

    public int copy(int sheet, int i, int other, int j, int n) {
        if (!isSheet(sheet) || !isSheet(other)) return BAD;
        Sheet source = sheets[sheet];
        Sheet target = sheets[other];
        if (source.sort == MISSING || target.sort == MISSING) return NOTHING;
        if (source.sort != target.sort) return UNLIKE;
        if (!source.hasRow(i, n) || !target.hasRow(j, n)) return OUTSIDE;
        System.arraycopy(source.cells, i, target.cells, j, n);
        return n;
    }

    public int sorts(int sheet, int sort, int from, int n) {
        if (!isSheet(sheet) || !between(sort, BYTES, INTS) || !between(n, 0, SORTS_BY_SHEET_MOST)) return BAD;
        Sheet row = sheets[sheet];
        if (row.sort == MISSING) return NOTHING;
        if (row.sort != sort) return UNLIKE;
        int came = 0;
        for (int k = 0; k < n; k++) {
            // A place that wraps below 0 has had one outside ahead of it.
            int i = from + 2 * k;
            if (!row.has(i) || !row.has(i + 1)) return OUTSIDE;
            if (hill.addSort(row.cells[i], row.cells[i + 1]) >= 0) came++;
        }
        return came;
    }

    public int taken(int way, int k) {
        if (!between(k, WAY, BOTH)) return BAD;
        Way asked = wayAt(way);
        if (asked == null) return NOTHING;
        return asked.isUnder(k) ? asked.number : UNLIKE;
    }

    // ---- what the calls share

    private static boolean between(int v, int least, int most) {
        return least <= v && v <= most;
    }

    private static int bounded(int v, int least, int most) {
        return Math.max(least, Math.min(most, v));
    }

    private static boolean isMinute(int v) {
        return between(v, 0, MINUTES - 1);
    }

    private static boolean isSheet(int v) {
        return between(v, 0, SHEETS - 1);
    }

    private static boolean fits(int what, int v) {
        return between(what, UP, END) && between(v, LEAST[what], MOST[what]);
    }

    private boolean isSortOrAll(int sort) {
        return between(sort, NONE, hill.sorts - 1);
    }

    private Way wayAt(int way) {
        return between(way, 0, wayCount - 1) ? ways[way] : null;
    }

    private void runDay(Way way) {
        day.hearWay(way, way.from, hill);
        day.run(hill, cars, cars.number, texts[hill.rule]);
    }

    private int leftBy(Way way, int from, int carsMore) {
        day.hearWay(way, from, hill);
        day.run(hill, cars, cars.number + carsMore, texts[hill.rule]);
        return day.leftOf(hill, NONE);
    }

    /** All that an image keeps: the sorts of people, the sun, the end, the storm, the rule. */
    private static final class Hill {
        int sorts = 0;
        final int[] up = new int[SORTS];
        final int[] far = new int[SORTS];
        final int[] slow = new int[SORTS];
        final int[] hears = new int[SORTS];
        final int[] sun = new int[MINUTES];
        int end = 90;
        int shutFrom = NONE;
        int shutTo = NONE;
        int rule = 0;

        Hill() {
            Arrays.fill(sun, 5);
        }

        int addSort(int howMany, int rest) {
            if (rest < 0) return BAD;
            int minutesFar = rest / 1000;
            int howSlow = rest / 10 % 100;
            int hearing = rest % 10;
            if (!fits(UP, howMany) || !fits(FAR, minutesFar) || !fits(SLOW, howSlow)) return BAD;
            if (sorts >= SORTS) return FULL;
            up[sorts] = howMany;
            far[sorts] = minutesFar;
            slow[sorts] = howSlow;
            hears[sorts] = hearing;
            return sorts++;
        }

        int[] rowOf(int what) {
            switch (what) {
                case UP: return up;
                case FAR: return far;
                case SLOW: return slow;
                case HEARS: return hears;
                case SUN: return sun;
                default: return null;
            }
        }

        int sizeOf(int what) {
            return what == SUN ? MINUTES : sorts;
        }

        boolean isShutIn(int minute) {
            return shutFrom != NONE && between(minute, shutFrom, shutTo);
        }

        int allUp() {
            int sum = 0;
            for (int sort = 0; sort < sorts; sort++) sum += up[sort];
            return sum;
        }

        /** Sorts never go away, so those behind the other's last one stay as they are. */
        void takeOver(Hill other) {
            System.arraycopy(other.up, 0, up, 0, other.sorts);
            System.arraycopy(other.far, 0, far, 0, other.sorts);
            System.arraycopy(other.slow, 0, slow, 0, other.sorts);
            System.arraycopy(other.hears, 0, hears, 0, other.sorts);
            System.arraycopy(other.sun, 0, sun, 0, MINUTES);
            sorts = Math.max(sorts, other.sorts);
            end = other.end;
            shutFrom = other.shutFrom;
            shutTo = other.shutTo;
            rule = other.rule;
        }
    }

    private static final class Cars {
        int number = 0;
        private final int[] room = new int[CARS];
        private final int[] every = new int[CARS];
        private final int[] first = new int[CARS];

        int add(int howMuch, int howOften, int from) {
            if (number >= CARS) return FULL;
            room[number] = howMuch;
            every[number] = howOften;
            first[number] = from;
            return number++;
        }

        /** The room of a car that goes in a minute, or 0; those behind the last are like car 0. */
        int roomOf(int car, int minute) {
            int like = car < number ? car : 0;
            int since = minute - first[like];
            if (since < 0 || every[like] < 1 || since % every[like] != 0) return 0;
            return room[like];
        }

        int roomIn(int minute) {
            int sum = 0;
            for (int car = 0; car < number; car++) sum += roomOf(car, minute);
            return sum;
        }
    }

    private static final class Way {
        final int kind;
        final int from;
        final int number;

        Way(int itsKind, int itsFrom, int itsNumber) {
            kind = itsKind;
            from = itsFrom;
            number = itsNumber;
        }

        /** The minute since which it holds is told, so that another one than its own can be tried. */
        int callsIn(int minute, int since) {
            if (minute < since) return 0;
            int hourly = (minute - since) % 10 == 0 ? 5 : 0;
            switch (kind) {
                case BELL: return number;
                case HOUR: return number + hourly;
                case BOTH: return 2 * (number + hourly);
                default: return 0;
            }
        }

        int asksIn(int minute, int since) {
            int price = minute < since ? 1 : 1 + number;
            switch (kind) {
                case PRICE: return price;
                case HOUR: return 0;
                case DEAR: return 2 * price;
                case BOTH: return number;
                default: return 1;
            }
        }

        /** Who goes first: the lesser rank. */
        int rankOf(int sort, int minutesFar) {
            if (kind == HOUR || kind == BOTH) return -minutesFar;
            return kind == DEAR ? sort : 0;
        }

        boolean isUnder(int wanted) {
            int above = kind;
            for (int k = 0; k < UNDER.length && above != wanted; k++) {
                if (!between(above, WAY, BOTH)) return false;
                above = UNDER[above];
            }
            return above == wanted;
        }
    }

    /** A TEXT in the order in which it is worked out: what is joined first, then the sign. */
    private static final class Text {
        private final int[] code = new int[TAPE_BYTES];
        private final int[] starts = new int[PARTS + 1];
        private final int[] stack = new int[TAPE_BYTES];
        private int size = 0;

        void clear() {
            size = 0;
        }

        void begin(int part) {
            starts[part] = size;
        }

        void close() {
            starts[PARTS] = size;
        }

        void add(int step) {
            if (size >= TAPE_BYTES) return;
            code[size] = step;
            size++;
        }

        int value(int part, int[] names) {
            int top = 0;
            for (int i = starts[part]; i < starts[part + 1]; i++) {
                int step = code[i];
                if (step >= NAME) {
                    if (top >= TAPE_BYTES) return 0;
                    stack[top] = step >= NUMBER ? step - NUMBER : names[step - NAME];
                    top++;
                } else if (step == NOT || step == NEGATE) {
                    if (top < 1) return 0;
                    int v = stack[top - 1];
                    stack[top - 1] = step == NEGATE ? -v : v == 0 ? 1 : 0;
                } else {
                    if (top < 2) return 0;
                    top--;
                    stack[top - 1] = joined(step, stack[top - 1], stack[top]);
                }
            }
            return top < 1 ? 0 : stack[top - 1];
        }

        private static int joined(int sign, int a, int b) {
            switch (sign) {
                case '+': return a + b;
                case '-': return a - b;
                case '*': return a * b;
                case '<': return a < b ? 1 : 0;
                case '=': return a == b ? 1 : 0;
                case AND: return a != 0 && b != 0 ? 1 : 0;
                default: return a != 0 || b != 0 ? 1 : 0;
            }
        }
    }

    /** THE TAPE, and how a TEXT is read from it. */
    private static final class Tape {
        private final int[] bytes = new int[TAPE_BYTES];
        int size = 0;
        private int pos = 0;
        private int token = STRAY;
        private int place = 0;
        private int fault = NONE;

        void append(int b) {
            if (size >= TAPE_BYTES) return;
            bytes[size] = b;
            size++;
        }

        void empty() {
            size = 0;
        }

        /** The place of the FAULT, or NONE. */
        int read(Text text) {
            pos = 0;
            fault = NONE;
            text.clear();
            next();
            for (int part = 0; part < PARTS; part++) {
                expect(PART_KEYS + part);
                text.begin(part);
                readOr(text, 0);
                expect(';');
            }
            text.close();
            expect(TAPE_END);
            return fault;
        }

        private void expect(int wanted) {
            if (token == wanted) next();
            else refuse();
        }

        /** Behind the first fault nothing fits any more, so all reading ends soon. */
        private void refuse() {
            if (fault == NONE) fault = place;
            token = STRAY;
        }

        private void readOr(Text text, int open) {
            readAnd(text, open);
            for (int k = 0; k < TAPE_BYTES && token == OR; k++) {
                next();
                readAnd(text, open);
                text.add(OR);
            }
        }

        private void readAnd(Text text, int open) {
            readNot(text, open);
            for (int k = 0; k < TAPE_BYTES && token == AND; k++) {
                next();
                readNot(text, open);
                text.add(AND);
            }
        }

        private void readNot(Text text, int open) {
            if (token == NOT) {
                if (!mayOpen(open)) return;
                next();
                readNot(text, open + 1);
                text.add(NOT);
                return;
            }
            readSum(text, open);
            if (token == '<' || token == '=') {
                int sign = token;
                next();
                readSum(text, open);
                text.add(sign);
            }
        }

        private void readSum(Text text, int open) {
            readTerm(text, open);
            for (int k = 0; k < TAPE_BYTES && (token == '+' || token == '-'); k++) {
                int sign = token;
                next();
                readTerm(text, open);
                text.add(sign);
            }
        }

        private void readTerm(Text text, int open) {
            readOne(text, open);
            for (int k = 0; k < TAPE_BYTES && token == '*'; k++) {
                next();
                readOne(text, open);
                text.add('*');
            }
        }

        private void readOne(Text text, int open) {
            if (token >= NAME) {
                text.add(token);
                next();
            } else if (token == '-') {
                if (!mayOpen(open)) return;
                next();
                readOne(text, open + 1);
                text.add(NEGATE);
            } else if (token == '(') {
                if (!mayOpen(open)) return;
                next();
                readOr(text, open + 1);
                expect(')');
            } else {
                refuse();
            }
        }

        private boolean mayOpen(int open) {
            if (open < OPEN_MOST) return true;
            refuse();
            return false;
        }

        private void next() {
            while (pos < size && (bytes[pos] == ' ' || bytes[pos] == '\n')) pos++;
            place = pos;
            if (pos >= size) {
                token = TAPE_END;
            } else if (isLetter(bytes[pos])) {
                while (pos < size && isLetter(bytes[pos])) pos++;
                token = wordToken();
            } else if (isDigit(bytes[pos])) {
                while (pos < size && isDigit(bytes[pos])) pos++;
                token = numberToken();
            } else {
                token = signToken(bytes[pos]);
                pos++;
            }
        }

        private static boolean isLetter(int b) {
            return between(b, 'a', 'z');
        }

        private static boolean isDigit(int b) {
            return between(b, '0', '9');
        }

        private static int signToken(int b) {
            switch (b) {
                case '(': case ')': case ';': case '+': case '-': case '*': case '<': case '=': return b;
                default: return STRAY;
            }
        }

        private int numberToken() {
            if (pos - place > DIGITS_MOST) return STRAY;
            int v = 0;
            for (int i = place; i < pos; i++) v = 10 * v + bytes[i] - '0';
            return NUMBER + v;
        }

        private int wordToken() {
            if (spells("up")) return NAME + UP_NAME;
            if (spells("wait")) return NAME + WAIT_NAME;
            if (spells("left")) return NAME + LEFT_NAME;
            if (spells("price")) return NAME + PRICE_NAME;
            if (spells("heard")) return NAME + HEARD_NAME;
            if (spells("sun")) return NAME + SUN_NAME;
            if (spells("go")) return PART_KEYS + GO_PART;
            if (spells("rush")) return PART_KEYS + RUSH_PART;
            if (spells("harm")) return PART_KEYS + HARM_PART;
            if (spells("or")) return OR;
            if (spells("and")) return AND;
            return spells("not") ? NOT : STRAY;
        }

        private boolean spells(String word) {
            if (pos - place != word.length()) return false;
            for (int i = 0; i < word.length(); i++) {
                if (bytes[place + i] != word.charAt(i)) return false;
            }
            return true;
        }
    }

    /** A row of numbers of a sort, or missing. */
    private static final class Sheet {
        int sort = MISSING;
        int size = 0;
        final int[] cells = new int[SHEET_CELLS];

        void become(int itsSort, int n) {
            sort = itsSort;
            size = n;
            Arrays.fill(cells, 0);
        }

        boolean has(int i) {
            return between(i, 0, size - 1);
        }

        /** Neither side can wrap: i is no greater than the size when it is taken from it. */
        boolean hasRow(int i, int n) {
            return n >= 0 && between(i, 0, size) && n <= size - i;
        }

        void put(int i, int v) {
            if (sort == BYTES) cells[i] = (byte) v;
            else if (sort == SHORTS) cells[i] = (short) v;
            else cells[i] = v;
        }

        boolean allBetween(int least, int most) {
            for (int i = 0; i < size; i++) {
                if (!between(cells[i], least, most)) return false;
            }
            return true;
        }
    }

    /** A DAY: first it hears what is called and asked, then it runs, then it tells. */
    private static final class Day {
        private final int[] calls = new int[MINUTES];
        private final int[] asks = new int[MINUTES];
        private final int[] rank = new int[SORTS];
        private final int[] names = new int[NAMES];
        private final int[] up = new int[SORTS];
        /** How many of a sort came to the platform in a minute and have not ridden. */
        private final int[][] came = new int[SORTS][MINUTES];
        /** No one of a sort who waits came ahead of this minute. */
        private final int[] oldest = new int[SORTS];
        private final int[] rodeOf = new int[SORTS];
        private final int[][] downOf = new int[SORTS][MINUTES];
        private int waiting = 0;
        final int[] rodeBy = new int[CARS + CARS_MORE_MOST];
        int mostWaiting = 0;
        int mostWaitingIn = 0;

        void hearWay(Way way, int from, Hill hill) {
            for (int minute = 0; minute < hill.end; minute++) {
                calls[minute] = way.callsIn(minute, from);
                asks[minute] = way.asksIn(minute, from);
            }
            for (int sort = 0; sort < hill.sorts; sort++) rank[sort] = way.rankOf(sort, hill.far[sort]);
        }

        /** Told over what a WAY has called, so that this stands behind the sheet's end. */
        void hearSheet(Sheet sheet) {
            System.arraycopy(sheet.cells, 0, calls, 0, sheet.size);
        }

        void run(Hill hill, Cars cars, int carNumber, Text rule) {
            begin(hill);
            for (int minute = 0; minute < hill.end; minute++) {
                sendPeople(hill, rule, minute);
                if (!hill.isShutIn(minute)) sendCars(hill, cars, carNumber, rule, minute);
                endMinute(hill, minute);
            }
        }

        private void begin(Hill hill) {
            for (int sort = 0; sort < hill.sorts; sort++) {
                up[sort] = hill.up[sort];
                oldest[sort] = 0;
                rodeOf[sort] = 0;
                Arrays.fill(came[sort], 0);
            }
            Arrays.fill(rodeBy, 0);
            waiting = 0;
            mostWaiting = 0;
            mostWaitingIn = 0;
        }

        private void sendPeople(Hill hill, Text rule, int minute) {
            int waited = waiting;
            for (int sort = 0; sort < hill.sorts; sort++) {
                int going = up[sort] == 0 ? 0 : goingOf(hill, rule, sort, minute, waited);
                int there = minute + hill.far[sort];
                up[sort] -= going;
                if (there < MINUTES) came[sort][there] = going;
                waiting += came[sort][minute];
            }
        }

        private int goingOf(Hill hill, Text rule, int sort, int minute, int waited) {
            setNames(hill, sort, minute, waited);
            int more = bounded(rule.value(GO_PART, names), GO_LEAST, GO_MOST);
            int slow = Math.max(1, hill.slow[sort]);
            return bounded(up[sort] / slow + more, 0, up[sort]);
        }

        private void setNames(Hill hill, int sort, int minute, int waited) {
            names[UP_NAME] = up[sort];
            names[WAIT_NAME] = waited;
            names[LEFT_NAME] = hill.end - minute;
            names[PRICE_NAME] = asks[minute];
            names[HEARD_NAME] = hill.hears[sort] * calls[minute] / 10;
            names[SUN_NAME] = hill.sun[minute];
        }

        private void sendCars(Hill hill, Cars cars, int carNumber, Text rule, int minute) {
            for (int car = 0; car < carNumber && waiting > 0; car++) {
                int room = cars.roomOf(car, minute);
                if (room == 0) continue;
                setNames(hill, 0, minute, waiting);
                int rush = bounded(rule.value(RUSH_PART, names), 0, RUSH_MOST);
                board(car, Math.min(room - rush, waiting), hill.sorts, minute);
            }
        }

        private void board(int car, int places, int sorts, int minute) {
            int free = places;
            for (int k = 0; k < ROOM_MOST && free > 0; k++) {
                int sort = firstOnes(sorts, minute);
                if (sort == NONE) return;
                int riding = Math.min(free, came[sort][oldest[sort]]);
                came[sort][oldest[sort]] -= riding;
                rodeOf[sort] += riding;
                rodeBy[car] += riding;
                waiting -= riding;
                free -= riding;
            }
        }

        /** The sort of those who ride next: they came in its oldest minute. */
        private int firstOnes(int sorts, int minute) {
            int best = NONE;
            for (int sort = 0; sort < sorts; sort++) {
                while (oldest[sort] <= minute && came[sort][oldest[sort]] == 0) oldest[sort]++;
                if (oldest[sort] <= minute && (best == NONE || isAhead(sort, best))) best = sort;
            }
            return best;
        }

        private boolean isAhead(int sort, int other) {
            if (rank[sort] != rank[other]) return rank[sort] < rank[other];
            return oldest[sort] < oldest[other];
        }

        private void endMinute(Hill hill, int minute) {
            for (int sort = 0; sort < hill.sorts; sort++) downOf[sort][minute] = rodeOf[sort];
            if (waiting > mostWaiting) {
                mostWaiting = waiting;
                mostWaitingIn = minute;
            }
        }

        int rodeInAll(Hill hill) {
            int sum = 0;
            for (int sort = 0; sort < hill.sorts; sort++) sum += rodeOf[sort];
            return sum;
        }

        int leftOf(Hill hill, int sort) {
            return sort == NONE ? hill.allUp() - rodeInAll(hill) : hill.up[sort] - rodeOf[sort];
        }

        int downBehind(Hill hill, int sort, int minute) {
            if (sort != NONE) return downOf[sort][minute];
            int sum = 0;
            for (int s = 0; s < hill.sorts; s++) sum += downOf[s][minute];
            return sum;
        }

        long harmDone(Hill hill, Text rule) {
            long sum = 0;
            Arrays.fill(names, 0);
            names[WAIT_NAME] = waiting;
            for (int sort = 0; sort < hill.sorts; sort++) {
                names[UP_NAME] = up[sort];
                sum += (long) bounded(rule.value(HARM_PART, names), 0, HARM_MOST) * leftOf(hill, sort);
            }
            return sum;
        }
    }
}
