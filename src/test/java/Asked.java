import java.lang.reflect.InvocationTargetException;
import java.lang.reflect.Method;
import java.lang.reflect.Modifier;
import java.util.ArrayList;
import java.util.Arrays;
import java.util.HashMap;
import java.util.List;
import java.util.Map;

/** An object and all that it was asked, so that one that stands as it does can be made again and looked through. */
final class Asked {
    private static final int CALLS_MOST = 512;
    private static final Map<String, Method> FACE = face();

    private final LastCar object = new LastCar();
    private final List<String> names = new ArrayList<>();
    private final List<long[]> numbers = new ArrayList<>();
    private int calls = 0;
    private List<Long> seen = null;

    private static Map<String, Method> face() {
        Map<String, Method> face = new HashMap<>();
        for (Method m : LastCar.class.getDeclaredMethods()) if (Modifier.isPublic(m.getModifiers())) face.put(m.getName(), m);
        return face;
    }

    private static String called(String name, long... of) {
        String numbers = Arrays.toString(of);
        return name + "(" + numbers.substring(1, numbers.length() - 1) + ")";
    }

    private long answer(String name, long... of) {
        calls++;
        if (calls > CALLS_MOST) throw new IllegalStateException("an object is used for at most 512 calls: " + called(name, of));
        Method m = FACE.get(name);
        Object[] given = new Object[of.length];
        for (int i = 0; i < of.length; i++) {
            if (m.getParameterTypes()[i] == long.class) given[i] = of[i];
            else given[i] = Math.toIntExact(of[i]);
        }
        try {
            return ((Number) m.invoke(object, given)).longValue();
        } catch (IllegalAccessException | InvocationTargetException e) {
            throw new IllegalStateException(called(name, of) + " threw", e);
        }
    }

    long ask(String name, long... of) {
        names.add(name);
        numbers.add(of.clone());
        seen = null;
        return answer(name, of);
    }

    void due(long want, String name, long... of) {
        Sentences.be(called(name, of), ask(name, of), want);
    }

    /** The call answers so, and what can be seen is as ahead of it. */
    void refused(long want, String name, long... of) {
        List<Long> ahead = seen();
        Sentences.be(called(name, of), ask(name, of), want);
        sameAs(ahead, called(name, of));
        names.remove(names.size() - 1);
        numbers.remove(numbers.size() - 1);
    }

    void refusedEach(long want, String name, long[][] each) {
        for (long[] of : each) refused(want, name, of);
    }

    List<Long> seen() {
        if (seen == null) seen = Look.through(this);
        return seen;
    }

    void sameAs(List<Long> ahead, String by) {
        List<Long> now = seen();
        int i = 0;
        while (i < Math.min(ahead.size(), now.size()) && ahead.get(i).equals(now.get(i))) i++;
        boolean same = i == ahead.size() && i == now.size();
        Sentences.be("what has changed by " + by + " (what is seen there)", same ? -1 : i, -1);
    }

    Asked again() {
        Asked other = new Asked();
        for (int i = 0; i < names.size(); i++) other.ask(names.get(i), numbers.get(i));
        return other;
    }

    void feed(String signs) {
        for (int i = 0; i < signs.length(); i += 8) {
            int n = Math.min(8, signs.length() - i);
            ask("feed", n, Due.bytes(signs, i, n));
        }
    }

    /** A rule of these three parts is THE RULE from now on. */
    Asked rule(String go, String rush, String harm) {
        feed("go " + go + ";rush " + rush + ";harm " + harm + ";");
        long text = ask("text");
        Due.be("go " + go + " rush " + rush + " harm " + harm + " is a TEXT", ask("force", text) >= 0 ? 1 : 0, 1);
        return this;
    }
}
