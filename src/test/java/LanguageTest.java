import java.io.IOException;
import java.lang.reflect.Field;
import java.lang.reflect.Method;
import java.lang.reflect.Modifier;
import java.nio.charset.StandardCharsets;
import java.nio.file.Files;
import java.nio.file.Path;
import java.util.ArrayList;
import java.util.List;
import java.util.TreeSet;
import java.util.regex.Matcher;
import java.util.regex.Pattern;

/** The rules of LANGUAGE.md that can be looked up in the file and in the class. Run from the project's folder. */
final class LanguageTest {
    private static final String FACE = "people car way set shut told feed text force left harm rode waits down behind latest more"
        + " choose must latestUp judge image back count sheet cell copy sorts taken";

    private LanguageTest() {
    }

    public static void main(String[] args) throws IOException {
        String source = Files.readString(Path.of("src/main/java/LastCar.java"), StandardCharsets.ISO_8859_1);
        String bare = source.replaceAll("(?s)/\\*.*?\\*/", "").replaceAll("//[^\n]*", "").replaceAll("\"[^\"\n]*\"", "\"\"");
        words(bare);
        library(bare);
        face();
        classes();
        methods(bare);
        made(bare);
        Due.end("LanguageTest");
    }

    private static void none(String what, String bare, String pattern) {
        Matcher m = Pattern.compile(pattern).matcher(bare);
        boolean found = m.find();
        Due.be(what + (found ? ": " + m.group() : ""), found ? 1 : 0, 0);
    }

    private static void words(String bare) {
        none("rule 6", bare, "\\b(throw|throws|try|catch|synchronized|assert|yield|volatile|goto)\\b");
        none("rule 2: a lambda or a method reference", bare, "->|::");
        none("rule 5: a static block", bare, "static\\s*\\{");
        none("rule 13", bare, "\\b(Thread|Random|System\\.(?!arraycopy)\\w+|Runtime|Process)\\b");
        none("rule 9: for ever", bare, "for\\s*\\(\\s*;\\s*;|while\\s*\\(true\\)");
        none("rule 3: signs above 127", bare, "[^\\x00-\\x7f]");
        none("a package line", bare, "(?m)^package\\b");
        none("rule 6: equals, hashCode, toString", bare, "\\b(equals|hashCode|toString|getClass)\\b");
        none("rule 4: Exact", bare, "Exact\\b");
    }

    private static void library(String bare) {
        TreeSet<String> used = new TreeSet<>();
        Matcher m = Pattern.compile("\\b(Math|Arrays|System|Integer|Long|String|List|ArrayList)\\.(\\w+)").matcher(bare);
        while (m.find()) used.add(m.group());
        used.removeAll(List.of("Math.max", "Math.min", "Arrays.fill", "System.arraycopy"));
        Due.be("library used: " + used, used.size(), 0);
        m = Pattern.compile("(?m)^import (.*);").matcher(bare);
        int imports = 0;
        while (m.find()) if (!m.group(1).equals("java.util.Arrays")) imports++;
        Due.be("imports", imports, 0);
    }

    private static void face() {
        List<String> found = new ArrayList<>();
        for (Method m : LastCar.class.getDeclaredMethods()) {
            if (Modifier.isPrivate(m.getModifiers())) Due.be("private " + m.getName(), (" " + FACE + " ").contains(" " + m.getName() + " ") ? 1 : 0, 0);
            else if (Modifier.isPublic(m.getModifiers())) found.add(m.getName());
            else Due.be("neither public nor private: " + m.getName(), 1, 0);
        }
        Due.be("public methods", found.size(), FACE.split(" ").length);
        for (String name : FACE.split(" ")) Due.be(name, found.contains(name) ? 1 : 0, 1);
        for (Field f : LastCar.class.getDeclaredFields()) {
            boolean named = List.of("NONE", "BAD", "STATE", "FULL", "NO").contains(f.getName());
            Due.be(f.getName(), Modifier.isPublic(f.getModifiers()) == named && (named || Modifier.isPrivate(f.getModifiers())) ? 1 : 0, 1);
        }
        Due.be("final", Modifier.isFinal(LastCar.class.getModifiers()) ? 1 : 0, 1);
        Due.be("constructors", LastCar.class.getConstructors().length, 1);
        Due.be("NONE", LastCar.NONE, -1);
        Due.be("BAD", LastCar.BAD, -2);
        Due.be("STATE", LastCar.STATE, -3);
        Due.be("FULL", LastCar.FULL, -4);
        Due.be("NO", LastCar.NO, -4611686018427387904L);
    }

    private static void classes() {
        List<Class<?>> all = new ArrayList<>(List.of(LastCar.class.getDeclaredClasses()));
        Due.be("some twelve classes at most", all.size() <= 12 ? 1 : 0, 1);
        for (Class<?> c : all) Due.be(c + " is static", Modifier.isStatic(c.getModifiers()) ? 1 : 0, 1);
        all.add(LastCar.class);
        for (Class<?> c : all) {
            int fields = 0;
            for (Field f : c.getDeclaredFields()) {
                if (!Modifier.isStatic(f.getModifiers())) fields++;
                else Due.be(f + " is final", Modifier.isFinal(f.getModifiers()) ? 1 : 0, 1);
            }
            Due.be(c + ": some twenty fields at most", fields <= 20 ? 1 : 0, 1);
            for (Method m : c.getDeclaredMethods()) Due.be(m + " has seven parameters at most", m.getParameterCount() <= 7 ? 1 : 0, 1);
            Due.be(c + " names no method as the face does", c == LastCar.class || !namesLikeFace(c) ? 1 : 0, 1);
        }
    }

    private static boolean namesLikeFace(Class<?> c) {
        for (Method m : c.getDeclaredMethods()) if ((" " + FACE + " ").contains(" " + m.getName() + " ")) return true;
        return false;
    }

    /** A method ends at a lone } as far in as its head. */
    private static void methods(String bare) {
        String[] lines = bare.split("\n");
        int most = 0;
        for (int i = 0; i < lines.length; i++) {
            if (!lines[i].matches(" {4,8}[a-zA-Z].*\\) \\{$")) continue;
            String end = lines[i].replaceAll("\\S.*", "") + "}";
            int n = i;
            while (n < lines.length && !lines[n].equals(end)) n++;
            most = Math.max(most, n - i + 1);
        }
        Due.be("the longest method has " + most + " lines", most > 5 && most <= 60 ? 1 : 0, 1);
    }

    /** Rule 12, and the one room of all calls: only way() makes anything once an object is made. */
    private static void made(String bare) {
        int ofFields = 0;
        int ofFirst = 0;
        List<String> ofCalls = new ArrayList<>();
        for (String line : bare.split("\n")) {
            if (!line.matches(".*\\bnew\\b.*")) continue;
            if (line.matches(" +(private )?final [\\w\\[\\]]+ \\w+ = new .*")) ofFields++;
            else if (line.matches(" +for \\(int i = [01]; i < [A-Z]+; i\\+\\+\\) \\w+\\[i\\] = new .*| +(Tape written|Text rule) = new .*")) ofFirst++;
            else ofCalls.add(line.trim());
        }
        Due.be("fields make their rows", ofFields > 0 ? 1 : 0, 1);
        Due.be("rows of the first rule, the texts and the sheets", ofFirst, 4);
        Due.be("made in calls: " + ofCalls, ofCalls.equals(List.of("ways[wayCount] = new Way(kind, from, number);")) ? 1 : 0, 1);
    }
}
