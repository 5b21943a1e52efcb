import java.io.IOException;
import java.lang.reflect.Field;
import java.lang.reflect.Modifier;
import java.nio.file.Files;
import java.nio.file.Path;
import java.util.ArrayList;
import java.util.List;
import java.util.Set;
import java.util.TreeSet;
import java.util.regex.Matcher;
import java.util.regex.Pattern;
import java.util.stream.Stream;

/** What README.md says is true of the class, and of the tests, as they stand. */
public final class ReadmeTest {
    private static final Pattern CALL = Pattern.compile("x\\.(\\w+)\\((.*)\\); +// (-?\\d+): \\S.*");
    private static final Pattern FACE = Pattern.compile("    public int (.*);");
    private static final Pattern PROMISE = Pattern.compile("## Promise (\\d+): (\\w+)");
    private static final Due due = new Due();

    public static void main(String[] args) throws IOException, ReflectiveOperationException {
        Path root = Path.of(args[0]);
        List<String> readme = Files.readAllLines(root.resolve("README.md"));
        List<String> document = Files.readAllLines(root.resolve("../shared/DOC.md"));
        examples(readme);
        calls(readme, document);
        promises(readme, document);
        constants(readme);
        states(readme);
        tests(readme, root.resolve("src/test/java"));
        due.end();
    }

    /** The lines of Java are run in their order, and each answers what stands behind it. */
    private static void examples(List<String> readme) {
        due.part("README.md's example");
        Set<String> called = new TreeSet<>();
        WoundMedals x = new WoundMedals();
        boolean inside = false;
        for (String line : readme) {
            if (line.startsWith("```")) {
                inside = line.equals("```java");
            } else if (inside && line.equals("WoundMedals x = new WoundMedals();")) {
                x = new WoundMedals();
            } else if (inside) {
                Matcher call = CALL.matcher(line);
                due.isTrue("a call and its answer: " + line, call.matches());
                if (call.matches()) {
                    called.add(call.group(1));
                    due.is(line, example(x, call.group(1), call.group(2)), Integer.parseInt(call.group(3)));
                }
            }
        }
        due.is("calls of the face in the example", called.size(), 31);
    }

    private static int example(WoundMedals x, String name, String inside) {
        if (inside.startsWith("'")) {
            return Run.call(x, name, inside.charAt(1));
        }
        return Run.on(x, name + "(" + inside.replace("WoundMedals.", "") + ")");
    }

    /** The table of calls has the document's face, in its order. */
    private static void calls(List<String> readme, List<String> document) {
        due.part("README.md's calls");
        List<String> face = new ArrayList<>();
        for (String line : document) {
            Matcher method = FACE.matcher(line);
            if (method.matches()) {
                face.add(method.group(1));
            }
        }
        List<String> told = new ArrayList<>();
        for (String[] cells : rows(readme, "| promise | call | answers |")) {
            told.add(unquoted(cells[1]));
        }
        due.is("calls of the document", face.size(), 31);
        due.isTrue("the face is " + face + ", told is " + told, face.equals(told));
    }

    private static void promises(List<String> readme, List<String> document) {
        due.part("README.md's promises");
        List<String> want = new ArrayList<>();
        for (String line : document) {
            Matcher promise = PROMISE.matcher(line);
            if (promise.matches() && !promise.group(1).equals("1")) {
                want.add(promise.group(1) + " " + promise.group(2));
            }
        }
        List<String> told = new ArrayList<>();
        for (String[] cells : rows(readme, "| promise | call | answers |")) {
            told.add(cells[0] + " " + unquoted(cells[1]).replaceAll("\\(.*", ""));
        }
        due.isTrue("due is " + want + ", told is " + told, want.equals(told));
    }

    private static void constants(List<String> readme) throws ReflectiveOperationException {
        due.part("README.md's answers below 0");
        Set<String> want = new TreeSet<>();
        for (Field field : WoundMedals.class.getDeclaredFields()) {
            if (Modifier.isPublic(field.getModifiers())) {
                want.add("`" + field.getName() + "` " + field.getInt(null));
            }
        }
        Set<String> told = new TreeSet<>();
        for (String[] cells : rows(readme, "| answer | why |")) {
            if (cells[0].startsWith("`")) {
                told.add(cells[0]);
            }
        }
        due.isTrue("due is " + want + ", told is " + told, want.equals(told));
    }

    private static void states(List<String> readme) {
        due.part("README.md's states");
        List<String[]> rows = rows(readme, "| the tape | `state()` |");
        due.isTrue("some states", rows.size() > 1);
        for (String[] cells : rows) {
            due.is(cells[0], Due.tell(new WoundMedals(), unquoted(cells[0])), Integer.parseInt(cells[1]));
        }
    }

    private static void tests(List<String> readme, Path folder) throws IOException {
        due.part("README.md's tests");
        Set<String> want = new TreeSet<>();
        want.add("../shared/tests/*.java");
        try (Stream<Path> files = Files.list(folder)) {
            files.map(file -> file.getFileName().toString()).filter(name -> name.endsWith("Test.java"))
                .forEach(name -> want.add(name.substring(0, name.length() - ".java".length())));
        }
        Set<String> told = new TreeSet<>();
        for (String[] cells : rows(readme, "| test | what it looks at |")) {
            told.add(unquoted(cells[0]));
        }
        due.isTrue("due is " + want + ", told is " + told, want.equals(told));
    }

    /** The cells of the table that has this head. */
    private static List<String[]> rows(List<String> readme, String head) {
        List<String[]> rows = new ArrayList<>();
        for (int i = readme.indexOf(head) + 2; i > 1 && i < readme.size() && readme.get(i).startsWith("| "); i++) {
            String line = readme.get(i);
            rows.add(line.substring(2, line.length() - 2).split(" \\| "));
        }
        return rows;
    }

    private static String unquoted(String cell) {
        return cell.replace("`", "");
    }
}
