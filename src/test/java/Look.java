import java.util.ArrayList;
import java.util.List;

/** All that can be seen of an object, asked of others that stand as it does, since much is seen by changing it. */
final class Look {
    private static final int NONE = -1;
    private final Asked x;
    private final List<Long> seen;

    private Look(Asked x, List<Long> seen) {
        this.x = x;
        this.seen = seen;
    }

    static List<Long> through(Asked like) {
        List<Long> seen = new ArrayList<>();
        new Look(like.again(), seen).people();
        new Look(like.again(), seen).cars();
        new Look(like.again(), seen).days();
        new Look(like.again(), seen).tape(" ");
        new Look(like.again(), seen).tape(" 7; rush 1; harm up + 1;");
        for (int text = 0; text < 6; text++) new Look(like.again(), seen).rule(text);
        Look back = new Look(like.again(), seen);
        if (back.ask("back") >= 0) back.people();
        back = new Look(like.again(), seen);
        if (back.ask("back") >= 0) back.cars();
        for (int sheet = 0; sheet < 4; sheet++) sheet(like, seen, sheet);
        return seen;
    }

    private long ask(String name, long... of) {
        long answer = x.ask(name, of);
        seen.add(answer);
        return answer;
    }

    private void people() {
        for (int what = 0; what < 8; what++) ask("count", what);
        for (int way = 0; way < x.ask("count", 2); way++) {
            for (int what = 0; what < 3; what++) ask("told", way, 0, what);
        }
        for (int sort = 0; sort < x.ask("count", 0); sort++) {
            for (int what = 0; what < 4; what++) ask("set", what, sort, 1);
        }
        for (int minute = 0; minute < 120; minute++) ask("set", 4, minute, 1);
    }

    /** What a minute more at the END adds is the room of the cars that go in it. */
    private void cars() {
        ask("car", 1, 1, 0);
        for (int end = 1; end <= 120; end++) {
            x.ask("set", 5, 0, end);
            ask("must");
        }
    }

    private void days() {
        long half = x.ask("count", 7) / 2;
        for (int way = 0; way < x.ask("count", 2); way++) {
            ask("left", way, NONE);
            ask("harm", way);
            ask("waits", way, 0);
            ask("waits", way, 1);
            ask("behind", way, half);
        }
        for (int sort = NONE; sort < x.ask("count", 0); sort++) {
            ask("left", 0, sort);
            ask("down", 0, sort, x.ask("count", 3) / 2);
            ask("latestUp", sort);
        }
        for (int car = NONE; car < x.ask("count", 1); car++) ask("rode", 0, car);
        ask("choose", 1);
    }

    private void tape(String behind) {
        ask("count", 5);
        x.feed(behind);
        long text = ask("text");
        ask("count", 5);
        if (text > 0) rule(text);
    }

    private void rule(long text) {
        ask("force", text);
        ask("way", 1, 2, 8);
        ask("harm", 0);
        ask("left", 0, NONE);
        ask("waits", 0, 0);
    }

    private static void sheet(Asked like, List<Long> seen, int sheet) {
        Look look = new Look(like.again(), seen);
        int sort = NONE;
        int size = 0;
        for (int s = 0; s < 3; s++) if (look.ask("sorts", sheet, s, 0, 0) == 0) sort = s;
        for (int n = 1; n <= 40; n++) if (look.ask("copy", sheet, 0, sheet, 0, n) == n) size = n;
        look.ask("judge", sheet);
        for (int i = 0; i < size; i++) {
            new Look(like.again(), seen).cell(sheet, sort, i, 0);
            new Look(like.again(), seen).cell(sheet, sort, i, 1);
        }
    }

    /** What stands in a cell is seen by the people who come by it, as how many are up (place 0) or as their rest (1). */
    private void cell(int sheet, int sort, int i, int place) {
        int other = (sheet + 1) % 4;
        x.ask("sheet", other, sort, 2);
        x.ask("cell", other, 1 - place, place == 0 ? 10 : 1);
        x.ask("copy", sheet, i, other, place, 1);
        if (ask("sorts", other, sort, 0, 1) != 1) return;
        long came = x.ask("count", 0) - 1;
        for (int what = 0; what < 4; what++) ask("set", what, came, 1);
    }
}
