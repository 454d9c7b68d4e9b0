import java.lang.reflect.Constructor;
import java.lang.reflect.Field;
import java.lang.reflect.Member;
import java.lang.reflect.Method;
import java.lang.reflect.Modifier;
import java.nio.charset.StandardCharsets;
import java.nio.file.Files;
import java.nio.file.Path;
import java.util.Arrays;
import java.util.Set;
import java.util.TreeSet;
import java.util.regex.Matcher;
import java.util.regex.Pattern;

/** The public face of the document, and those rules of LANGUAGE.md that a look at the file can tell. */
public final class LanguageTest {
    private static final Path DOCUMENT = Path.of("../shared/DOC.md");
    private static final Pattern CALL = Pattern.compile("public (int|long) (\\w+)\\((.*?)\\);");
    private static final int CALLS = 34;
    private static final int CONSTANT = Modifier.PUBLIC | Modifier.STATIC | Modifier.FINAL;

    public static void main(String[] args) throws Exception {
        constants();
        face();
        classes();
        words();
        sizes();
        Due.end();
    }

    private static void constants() {
        Due.due("UNKNOWN", RateTree.UNKNOWN, -1);
        Due.due("OUTSIDE", RateTree.OUTSIDE, -2);
        Due.due("STATE", RateTree.STATE, -3);
        Due.due("FULL", RateTree.FULL, -4);
        Due.due("SPENT", RateTree.SPENT, -6);
        Due.due("NONE", RateTree.NONE, -9);
        Due.due("LOST", RateTree.LOST, Long.MIN_VALUE);
    }

    private static void face() throws Exception {
        Set<String> due = faceOfDocument();
        Set<String> is = new TreeSet<>();
        Set<String> constants = new TreeSet<>();
        for (Method m : RateTree.class.getDeclaredMethods()) {
            if (isOpen(m)) {
                String types = Arrays.toString(m.getParameterTypes());
                is.add(m.getReturnType() + " " + m.getName() + "(" + types.substring(1, types.length() - 1) + ")");
                Due.due(m.getName() + " is public and no more", m.getModifiers(), Modifier.PUBLIC);
            }
        }
        for (Field f : RateTree.class.getDeclaredFields()) {
            if (isOpen(f)) {
                constants.add(f.getName());
                Due.due(f.getName() + " is public, static and final", f.getModifiers(), CONSTANT);
                Class<?> type = f.getName().equals("LOST") ? long.class : int.class;
                Due.holds(f.getName() + " is of type " + type, f.getType() == type);
            }
        }
        Due.due("calls in the document", due.size(), CALLS);
        Due.holds("the methods are those of the document: " + is, is.equals(due));
        Due.holds("so are the constants", constants.equals(Set.of("UNKNOWN", "OUTSIDE", "STATE", "FULL", "SPENT", "NONE", "LOST")));
        Constructor<?>[] made = RateTree.class.getDeclaredConstructors();
        Due.holds("one public constructor", made.length == 1 && Modifier.isPublic(made[0].getModifiers())
            && made[0].getParameterCount() == 0);
        Due.holds("public and final", RateTree.class.getModifiers() == (Modifier.PUBLIC | Modifier.FINAL));
    }

    /** The calls as they stand in the document, without the names of what they take. */
    private static Set<String> faceOfDocument() throws Exception {
        Set<String> calls = new TreeSet<>();
        Matcher call = CALL.matcher(Files.readString(DOCUMENT));
        while (call.find()) {
            calls.add(call.group(1) + " " + call.group(2) + "(" + call.group(3).replaceAll("(int|boolean) \\w+", "$1") + ")");
        }
        return calls;
    }

    private static boolean isOpen(Member m) {
        return !Modifier.isPrivate(m.getModifiers()) && !m.isSynthetic();
    }

    private static void classes() throws Exception {
        Set<String> face = faceOfDocument();
        Class<?>[] inside = RateTree.class.getDeclaredClasses();
        Due.holds("some twelve classes", inside.length < 12);
        checkClass(RateTree.class, face);
        for (Class<?> c : inside) {
            Due.holds(c + " is static", Modifier.isStatic(c.getModifiers()));
            checkClass(c, face);
        }
    }

    private static void checkClass(Class<?> c, Set<String> face) {
        int fields = 0;
        for (Field f : c.getDeclaredFields()) {
            boolean isStatic = Modifier.isStatic(f.getModifiers());
            fields += isStatic ? 0 : 1;
            Due.holds("static fields are final: " + f, !isStatic || Modifier.isFinal(f.getModifiers()));
        }
        Due.holds("some twenty fields: " + c, fields <= 20);
        for (Method m : c.getDeclaredMethods()) {
            Due.holds("seven parameters at most: " + m, m.getParameterCount() <= 7);
            boolean isFace = face.stream().anyMatch(one -> one.contains(" " + m.getName() + "("));
            Due.holds("no other method bears a public name: " + m, !isFace || c == RateTree.class && isOpen(m));
        }
    }

    private static String source() throws Exception {
        String text = Files.readString(Path.of("src/main/java/RateTree.java"), StandardCharsets.US_ASCII);
        return text.replaceAll("(?s)/\\*.*?\\*/", "").replaceAll("//[^\n]*", "");
    }

    private static void words() throws Exception {
        String text = source();
        String[] barred = {"import", "package", "throw", "throws", "try", "catch", "finally", "synchronized", "assert",
            "volatile", "transient", "native", "->", "::", "var", "Object", "System\\.(?!arraycopy)", "Thread", "Random",
            "java\\.", "javax\\.", "protected", "\\w+Exact", "NaN", "hashCode", "equals", "toString"};
        for (String word : barred) {
            String pattern = Character.isLetter(word.charAt(0)) ? "\\b" + word : word;
            Matcher m = Pattern.compile(pattern + (word.matches("\\w+") ? "\\b" : "")).matcher(text);
            Due.holds("no '" + word + "'", !m.find());
        }
    }

    /** Methods of some sixty lines at most: the lines from a head at depth one or two to its closing brace. */
    private static void sizes() throws Exception {
        int depth = 0;
        int start = 0;
        int number = 0;
        for (String line : source().split("\n")) {
            number++;
            String bare = line.trim();
            boolean isHead = bare.endsWith("{") && bare.contains("(") && !bare.contains(" class ");
            if (isHead && start == 0 && depth <= 2) {
                start = number;
            }
            depth += bare.chars().map(c -> c == '{' ? 1 : c == '}' ? -1 : 0).sum();
            if (start > 0 && bare.equals("}") && line.indexOf('}') <= 8 && depth <= 2) {
                Due.holds("short method at line " + start, number - start < 60);
                start = 0;
            }
            Due.holds("short line " + number, line.length() <= 120);
        }
        Due.due("all braces are closed", depth, 0);
    }
}
