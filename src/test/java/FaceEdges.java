import java.io.IOException;
import java.lang.reflect.Constructor;
import java.lang.reflect.Field;
import java.lang.reflect.Method;
import java.lang.reflect.Modifier;
import java.nio.charset.StandardCharsets;
import java.nio.file.Files;
import java.nio.file.Path;
import java.util.ArrayList;
import java.util.Arrays;
import java.util.List;
import java.util.regex.Matcher;
import java.util.regex.Pattern;

/** The public face as the document tells it, line by line, against the class; and what is said ahead of its calls. */
final class FaceEdges extends Edges {
    private static final String FACE = "Face", AHEAD = "Ahead";

    private FaceEdges() {
    }

    static void all() throws IOException {
        head();
        constants();
        constructor();
        calls();
        ahead();
    }

    private static boolean isPublic(int modifiers) {
        return Modifier.isPublic(modifiers);
    }

    private static void head() {
        says(FACE, "## The public face public final class LastCar {");
        int modifiers = LastCar.class.getModifiers();
        Sentences.be("is public and final", isPublic(modifiers) && Modifier.isFinal(modifiers) ? 1 : 0, 1);
        Sentences.be("has a class above it", LastCar.class.getSuperclass() == Object.class ? 0 : 1, 0);
        for (Class<?> inner : LastCar.class.getDeclaredClasses()) Sentences.be(inner + " is public", isPublic(inner.getModifiers()) ? 1 : 0, 0);
    }

    private static void constants() {
        says(FACE, "public static final int NONE = -1, BAD = -2, STATE = -3, FULL = -4;");
        Sentences.be("NONE", LastCar.NONE, -1);
        Sentences.be("BAD", LastCar.BAD, -2);
        Sentences.be("STATE", LastCar.STATE, -3);
        Sentences.be("FULL", LastCar.FULL, -4);
        says(FACE, "public static final long NO = -4611686018427387904L;");
        Sentences.be("NO", LastCar.NO, -4611686018427387904L);
        List<String> fields = new ArrayList<>();
        for (Field f : LastCar.class.getFields()) fields.add(Modifier.toString(f.getModifiers()) + " " + f.getType() + " " + f.getName());
        fields.removeAll(List.of("public static final int NONE", "public static final int BAD", "public static final int STATE",
            "public static final int FULL", "public static final long NO"));
        Sentences.be("public fields that are none of these: " + fields, fields.size(), 0);
    }

    private static void constructor() {
        says(FACE, "public LastCar();");
        Constructor<?>[] all = LastCar.class.getDeclaredConstructors();
        Sentences.be("constructors", all.length, 1);
        Sentences.be("is public", isPublic(all[0].getModifiers()) ? 1 : 0, 1);
        Sentences.be("its parameters", all[0].getParameterCount(), 0);
    }

    private static String told(Method m) {
        StringBuilder told = new StringBuilder(Modifier.toString(m.getModifiers()) + " " + m.getReturnType() + " " + m.getName() + "(");
        for (Class<?> type : m.getParameterTypes()) told.append(told.charAt(told.length() - 1) == '(' ? "" : ", ").append(type);
        return told + ")";
    }

    /** Each call's line, without its parameters' names, stands once among the class's own; no other public one does. */
    private static void calls() {
        List<String> own = new ArrayList<>();
        for (Method m : LastCar.class.getDeclaredMethods()) if (isPublic(m.getModifiers())) own.add(told(m));
        Matcher line = Pattern.compile("public (int|long) \\w+\\([^)]*\\);( \\})?").matcher(Sentences.wordsOf(FACE));
        while (line.find()) {
            says(FACE, line.group());
            String bare = line.group().replaceAll("(int|long) \\w+(?=[,)])", "$1").replaceAll(";.*", "");
            Sentences.be(bare + " is a call of the class", own.remove(bare) ? 1 : 0, 1);
        }
        Sentences.be("calls that no line tells: " + own, own.size(), 0);
    }

    /** The groups that the document tells are all calls in the face's order; the class says the same ahead of each. */
    private static void ahead() throws IOException {
        String source = Files.readString(Path.of("src/main/java/LastCar.java"), StandardCharsets.ISO_8859_1);
        Matcher face = Pattern.compile("(\\w+)\\([^)]*\\);").matcher(Sentences.wordsOf(FACE).replace("public LastCar();", ""));
        Matcher group = Pattern.compile("Ahead of the calls ([^-]*) the interface says: (---- [^.]*)\\.").matcher(Sentences.wordsOf(AHEAD));
        int at = 0;
        while (group.find()) {
            says(AHEAD, group.group());
            int said = source.indexOf("    // " + group.group(2) + "\n");
            Sentences.be(group.group(2) + " is said in the class, behind what is ahead of it", said > at ? 1 : 0, 1);
            at = Math.max(at, said);
            for (String call : Arrays.asList(group.group(1).replace("`", "").split(", "))) {
                Sentences.be(call + " is the face's next call", face.find() && face.group(1).equals(call) ? 1 : 0, 1);
                int stands = source.indexOf(" " + call + "(", at);
                Sentences.be(call + " stands behind it", stands > at ? 1 : 0, 1);
                at = Math.max(at, stands);
            }
        }
        Sentences.be("calls ahead of which nothing is said", face.find() ? 1 : 0, 0);
    }
}
