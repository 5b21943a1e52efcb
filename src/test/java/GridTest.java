import java.util.ArrayList;
import java.util.List;

/**
 * Every call with every two of its arguments at, below and beyond each end that the document names, the others as
 * told: answered as by the plain model. What is refused, and what is only foretold, leaves all as it was.
 */
public final class GridTest {
    private static final long[] ENDS = {Integer.MIN_VALUE, -5, -4, -3, -2, -1, 0, 1, 2, 3, 4, 5, 6, 7, 8, 9, 19, 20, 21, 23, 24, 25,
        31, 32, 40, 41, 60, 61, 126, 127, Integer.MAX_VALUE};
    private static final String[] CALLS = {"man(9)", "medal(1, 7, 0)", "of(0, 2)", "at(0, 4)", "type(57)", "count(3)", "days(3)", "hang(0, 0)",
        "polish(0, 3)", "drift(3)", "seed(9)", "ahead(0, 4, 0)", "then(4)", "done(0)", "even(0)", "few(0)", "off(3, 0)", "needs(0, 3)",
        "two(0)", "error(0, 0)", "felt(2, 0, 0, 2, 3, 1, 0)", "film(2, 3, 0, 2, 3)", "sheet(0, 1, 5)", "drop(0)", "item(0, 2, 3, 14)",
        "copy(0, 0, 0, 4, 3)"};
    /** Those that change something when they are not refused. */
    private static final String CHANGES = " man medal type days hang polish drift seed film sheet drop item copy ";
    private static final String[] SCENES = {"man(9)", Scenes.RICH, Scenes.FULL,
        "'9,9,9-9;b20:0,b20:1,p20:2,m20:0' | state() | sheet(0, 2, 5) | 60*type(32)"};
    /** So many refused calls come to one object, which has been made by a hundred and is asked by hundreds then. */
    private static final int AT_ONCE = 60;
    private static final Due due = new Due();

    public static void main(String[] args) {
        for (String scene : SCENES) {
            for (String call : CALLS) {
                due.part("the grid of " + call + " behind " + scene);
                grid(scene, call);
            }
        }
        due.end();
    }

    private static PlainModel model(String scene) {
        PlainModel model = new PlainModel();
        Run.on(model, scene);
        return model;
    }

    private static void grid(String scene, String call) {
        String name = call.substring(0, call.indexOf('('));
        boolean changes = CHANGES.contains(" " + name + " ");
        List<String> quiet = new ArrayList<>();
        for (String asked : calls(name, call)) {
            int want = Run.on(model(scene), asked);
            if (!changes || isRefused(name, want)) {
                quiet.add(asked);
            } else {
                takes(scene, asked, want);
            }
        }
        for (int from = 0; from < quiet.size(); from += AT_ONCE) {
            leaves(scene, quiet.subList(from, Math.min(quiet.size(), from + AT_ONCE)));
        }
    }

    /** A MEDAL that is hung from a DRAWER answers NONE, too, and is not refused. */
    private static boolean isRefused(String name, int answer) {
        return answer < 0 && !(name.equals("hang") && answer == WoundMedals.NONE);
    }

    private static void takes(String scene, String call, int want) {
        WoundMedals x = Run.anew(scene);
        PlainModel y = model(scene);
        Run.on(y, call);
        due.is(call, Run.on(x, call), want);
        due.isTrue(call + ", all behind it", Whole.of(x).equals(Whole.of(y)));
    }

    private static void leaves(String scene, List<String> calls) {
        WoundMedals x = Run.anew(scene);
        PlainModel y = model(scene);
        for (String call : calls) {
            due.is(call, Run.on(x, call), Run.on(y, call));
        }
        due.isTrue(calls.get(0) + " and those behind it leave all as it was", Whole.of(x).equals(Whole.of(Run.anew(scene))));
    }

    /** The call with each two of its arguments, or its one, at each of the ends. */
    private static List<String> calls(String name, String call) {
        String[] words = call.substring(name.length() + 1, call.length() - 1).split(", ");
        List<String> all = new ArrayList<>();
        for (int a = 0; a < words.length; a++) {
            for (int b = a + 1; b < Math.max(words.length, a + 2); b++) {
                for (long first : ENDS) {
                    if (b >= words.length) {
                        if (words.length == 1) {
                            all.add(name + "(" + first + ")");
                        }
                        continue;
                    }
                    for (long second : ENDS) {
                        String[] with = words.clone();
                        with[a] = "" + first;
                        with[b] = "" + second;
                        all.add(name + "(" + String.join(", ", with) + ")");
                    }
                }
            }
        }
        return all;
    }
}
