import java.lang.reflect.Method;
import java.nio.file.Files;
import java.nio.file.Path;
import java.util.BitSet;
import java.util.regex.Matcher;
import java.util.regex.Pattern;

/**
 * Holds the tests of edges against the document: each quotes words that stand there, and each number of the terms and
 * each refusal or fault that a promise names is quoted by one of them.
 */
public final class EdgesTest {
    private static final Class<?>[] TESTS = {NodeEdgesTest.class, WishEdgesTest.class, ChangeEdgesTest.class,
        SheetEdgesTest.class, PartEdgesTest.class};
    private static final Path DOCUMENT = Path.of("../shared/DOC.md");
    private static final Pattern NAMED =
        Pattern.compile("\\b(UNKNOWN|OUTSIDE|STATE|FULL|SPENT|LOST|NONE|NULL|CAST|INDEX|SIZE)\\b");
    /** The numbers of the parts ("==== 1 NODES") are no cases. */
    private static final Pattern NUMBER = Pattern.compile("(?<!==== )\\b\\d+");
    private static final int PROMISES = 35;

    public static void main(String[] args) throws Exception {
        String text = Files.readString(DOCUMENT).replaceAll("\\s+", " ");
        int[] starts = new int[PROMISES + 2];
        starts[0] = text.indexOf("## Terms");
        int termsEnd = text.indexOf("Ahead of the calls");
        for (int promise = 1; promise <= PROMISES; promise++) {
            starts[promise] = text.indexOf("## Promise " + promise + ":");
        }
        starts[PROMISES + 1] = text.indexOf("## Not promised");
        BitSet quoted = new BitSet();
        for (Class<?> tests : TESTS) {
            for (Method test : Edges.of(tests)) {
                quote(text, starts, test.getName(), test.getAnnotation(Edge.class), quoted);
            }
        }
        for (int part = 0; part <= PROMISES; part++) {
            Due.holds("promise " + part + " has an edge", quoted.get(starts[part], starts[part + 1]).cardinality() > 0);
            covered(NAMED.matcher(text).region(starts[part], starts[part + 1]), text, quoted);
        }
        covered(NUMBER.matcher(text).region(starts[0], termsEnd), text, quoted);
        Due.end();
    }

    /** The first quote stands in the promise itself, others may stand in the terms. */
    private static void quote(String text, int[] starts, String name, Edge edge, BitSet quoted) {
        for (int i = 0; i < edge.says().length; i++) {
            int part = i == 0 ? edge.of() : 0;
            int at = text.indexOf(edge.says()[i], starts[part]);
            boolean stands = at >= 0 && at < starts[part + 1];
            Due.holds(name + " quotes the document: " + edge.says()[i], stands);
            while (at >= 0 && at < starts[part + 1]) {
                quoted.set(at, at + edge.says()[i].length());
                at = text.indexOf(edge.says()[i], at + 1);
            }
        }
    }

    private static void covered(Matcher words, String text, BitSet quoted) {
        while (words.find()) {
            int from = Math.max(0, words.start() - 40);
            int to = Math.min(text.length(), words.end() + 40);
            Due.holds("has an edge: " + text.substring(from, to), quoted.get(words.start()));
        }
    }
}
