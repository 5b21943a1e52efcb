/**
 * All that can be learned of an object by asking it, as a text: what is now, what may be undone step by step, the
 * image, the tape, the sheets. Asking spends the object, so whoever compares makes another one by the same run.
 */
final class Whole {
    /** He has 11, 12, 13 .. behind the next days; sheets are filled with these to be told again. */
    static final String READER = "60-50;b1:0";

    private final Object x;
    private final StringBuilder told = new StringBuilder();

    private Whole(Object x) {
        this.x = x;
    }

    static String of(Object x) {
        Whole whole = new Whole(x);
        whole.past("now");
        whole.ask("restore");
        whole.past("image");
        whole.tape();
        whole.sheets();
        return whole.told.toString();
    }

    private int ask(String name, long... values) {
        int answer = Run.call(x, name, values);
        told.append(' ').append(answer);
        return answer;
    }

    private void line(String name) {
        told.append('\n').append(name).append(':');
    }

    /** To ask for the draw is to change it, so it is put back. */
    private void all() {
        int draw = ask("seed", 1);
        Run.call(x, "seed", draw);
        int men = ask("count", 0);
        int medals = ask("count", 1);
        for (int what = 2; what < 8; what++) {
            ask("count", what);
        }
        for (int man = 0; man < men; man++) {
            for (int what = 0; what < 6; what++) {
                ask("of", man, what);
            }
        }
        for (int medal = 0; medal < medals; medal++) {
            for (int what = 0; what < 5; what++) {
                ask("at", medal, what);
            }
        }
    }

    private void past(String name) {
        line(name);
        all();
        for (int i = 0; i < 10; i++) {
            line("undone " + i);
            if (ask("undo") < 0) {
                break;
            }
            for (int what = 2; what < 7; what++) {
                ask("count", what);
            }
            ask("seed", 1);
        }
    }

    private void tape() {
        line("tape");
        ask("state");
        for (int what = 0; what < 3; what++) {
            ask("count", what);
        }
        for (int what = 0; what < 2; what++) {
            ask("of", 0, what);
        }
    }

    /** Of each sheet: by which lanes it can be read, which of its items are as filled, how many there are. */
    private void sheets() {
        Run.on(x, "'" + READER + "' | state()");
        for (int from = 0; from < 24; from += 8) {
            line("sheets from " + from);
            for (int sheet = 0; sheet < 4; sheet++) {
                sheet(sheet, from);
            }
            Run.call(x, "days", 8);
        }
        line("items");
        for (int sheet = 0; sheet < 4; sheet++) {
            ask("drop", sheet);
        }
    }

    private void sheet(int sheet, int from) {
        for (int lane = 0; lane < 4; lane++) {
            int read = ask("felt", 0, 0, sheet, lane, from, 1, 0);
            for (int n = 8; n > 1 && read >= 0; n--) {
                int more = ask("felt", 0, 0, sheet, lane, from, n, 0);
                if (more >= 0) {
                    break;
                }
            }
        }
    }
}
