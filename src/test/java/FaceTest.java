import java.io.IOException;
import java.lang.reflect.Constructor;
import java.lang.reflect.Field;
import java.lang.reflect.Method;
import java.lang.reflect.Modifier;
import java.nio.file.Files;
import java.nio.file.Path;
import java.util.Arrays;
import java.util.Set;
import java.util.TreeMap;
import java.util.TreeSet;

/** The face of the document and no more, and what LANGUAGE.md forbids that a look can find. */
public final class FaceTest {
    private static final String METHODS = "ahead(int,int,int) at(int,int) copy(int,int,int,int,int) count(int) days(int) done(int)"
        + " drift(int) drop(int) error(int,int) even(int) ever() felt(int,int,int,int,int,int,int) few(int)"
        + " film(int,int,int,int,int) hang(int,int) image() item(int,int,int,long) man(int) medal(int,int,int) needs(int,int)"
        + " of(int,int) off(int,int) polish(int,int) restore() seed(int) sheet(int,int,int) state() then(int) two(int)"
        + " type(int) undo()";
    private static final String CONSTANTS = "{BAD=-1, CAST=-12, FULL=-3, INDEX=-13, NONE=-4, NOT=-2, NULL=-11, SIZE=-14}";
    private static final String[] FORBIDDEN = {"import ", "package ", "->", "::", "catch", "finally", "synchronized", "assert ",
        "System.out", "Random", "Exact(", "var ", "null"};
    private static final Due due = new Due();

    public static void main(String[] args) throws IOException, ReflectiveOperationException {
        due.part("the face");
        face();
        inside();
        source(Path.of(args[0], "src", "main", "java", "WoundMedals.java"));
        due.end();
    }

    private static boolean isPrivate(int modifiers) {
        return Modifier.isPrivate(modifiers);
    }

    private static void face() throws ReflectiveOperationException {
        Class<?> c = WoundMedals.class;
        due.isTrue("public and final", Modifier.isPublic(c.getModifiers()) && Modifier.isFinal(c.getModifiers()));
        Set<String> names = new TreeSet<>();
        Set<String> signatures = new TreeSet<>();
        for (Method m : c.getDeclaredMethods()) {
            if (!isPrivate(m.getModifiers())) {
                String of = Arrays.toString(m.getParameterTypes());
                signatures.add(m.getName() + "(" + of.substring(1, of.length() - 1).replace(" ", "") + ")");
                names.add(m.getName());
                due.isTrue(m + " is public and answers an int", Modifier.isPublic(m.getModifiers())
                    && !Modifier.isStatic(m.getModifiers()) && m.getReturnType() == int.class);
            }
        }
        due.isTrue("the methods are " + signatures, String.join(" ", signatures).equals(METHODS));
        for (Method m : c.getDeclaredMethods()) {
            due.isTrue("no private " + m.getName(), !isPrivate(m.getModifiers()) || !names.contains(m.getName()));
        }
        TreeMap<String, Integer> constants = new TreeMap<>();
        for (Field f : c.getDeclaredFields()) {
            if (!isPrivate(f.getModifiers())) {
                constants.put(f.getName(), f.getInt(null));
            }
        }
        due.isTrue("the constants are " + constants, constants.toString().equals(CONSTANTS));
        Constructor<?>[] made = c.getDeclaredConstructors();
        due.isTrue("one constructor", made.length == 1 && Modifier.isPublic(made[0].getModifiers()) && made[0].getParameterCount() == 0);
    }

    private static void inside() {
        int classes = 1;
        for (Class<?> c : WoundMedals.class.getDeclaredClasses()) {
            classes++;
            int is = c.getModifiers();
            due.isTrue(c + " is static and not to be seen", Modifier.isStatic(is) && !Modifier.isPublic(is) && !Modifier.isProtected(is));
            int fields = 0;
            for (Field f : c.getDeclaredFields()) {
                due.isTrue(f + " is no static state", !Modifier.isStatic(f.getModifiers()) || Modifier.isFinal(f.getModifiers()));
                fields += Modifier.isStatic(f.getModifiers()) ? 0 : 1;
            }
            due.isTrue(c + " has few fields", fields <= 20);
            for (Method m : c.getDeclaredMethods()) {
                due.isTrue(m + " has few parameters", m.getParameterCount() <= 7);
            }
        }
        due.isTrue("few classes", classes <= 12);
    }

    private static void source(Path path) throws IOException {
        String text = Files.readString(path);
        String code = text.replaceAll("(?s)/\\*.*?\\*/", "").replaceAll("//[^\n]*", "");
        for (String word : FORBIDDEN) {
            due.isTrue("no '" + word + "'", !code.contains(word));
        }
        due.isTrue("signs 1 to 127 alone", text.chars().allMatch(c -> c > 0 && c < 128));
    }
}
