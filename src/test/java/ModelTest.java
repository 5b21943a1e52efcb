import java.util.Random;

/** Long runs of calls, by draws from a fixed seed, answered by the class as by the plain model. */
public final class ModelTest {
    private static final int RUNS = 1200;
    private static final int CALLS = 512;
    /** Every other run ends so early that all may be asked for behind it. */
    private static final int CALLS_AHEAD_OF_ALL = 110;
    private static final int[] EDGES = {Integer.MIN_VALUE, -20, -5, -4, -3, -2, -1, 41, 61, 1000, Integer.MAX_VALUE};
    private static final String LETTERS = "0123456789-,;:@brfpm x";
    private static final Due due = new Due();

    private final Random draw;
    private final WoundMedals x = new WoundMedals();
    private final PlainModel y = new PlainModel();

    private ModelTest(int run) {
        draw = new Random(run);
    }

    public static void main(String[] args) {
        for (int run = 0; run < RUNS; run++) {
            due.part("run " + run);
            ModelTest test = new ModelTest(run);
            if (run % 2 == 0) {
                test.calls(CALLS);
            } else {
                test.calls(CALLS_AHEAD_OF_ALL);
                due.isTrue("all is alike behind it", Whole.of(test.x).equals(Whole.of(test.y)));
            }
        }
        due.end();
    }

    private void calls(int calls) {
        int done = 0;
        if (draw.nextInt(4) > 0) {
            done += tell(text());
        }
        while (done < calls) {
            done += call();
        }
    }

    /** A number from low to high, at times one beside them. */
    private int n(int low, int high) {
        int way = draw.nextInt(60);
        if (way == 0) return EDGES[draw.nextInt(EDGES.length)];
        if (way == 1) return high + 1;
        if (way == 2) return low - 1;
        return low + draw.nextInt(high - low + 1);
    }

    private int aMan() {
        return n(0, Math.max(0, y.now.men.size() - 1));
    }

    private int aMedal() {
        return n(0, Math.max(0, y.now.medals.size() - 1));
    }

    private int aLane(int sheet) {
        return sheet >= 0 && sheet < 4 && draw.nextInt(8) > 0 ? y.lanes[sheet] : n(0, 3);
    }

    private String text() {
        StringBuilder s = new StringBuilder();
        int men = 1 + draw.nextInt(5);
        for (int i = 0; i < men; i++) {
            int build = 1 + draw.nextInt(draw.nextBoolean() ? 60 : 20);
            s.append(i == 0 ? "" : ",").append(build);
            if (draw.nextInt(3) == 0) s.append('-').append(draw.nextInt(build + 1));
        }
        int medals = draw.nextInt(7);
        for (int i = 0; i < medals; i++) {
            s.append(i == 0 ? ";" : ",").append("brfpm".charAt(draw.nextInt(5))).append(1 + draw.nextInt(20));
            s.append(':').append(draw.nextInt(men));
            if (draw.nextInt(5) > 0) s.append('@').append(draw.nextInt(men));
        }
        return s.toString();
    }

    private String spoilt(String text) {
        StringBuilder s = new StringBuilder(text);
        for (int times = draw.nextInt(3); times >= 0; times--) {
            int place = draw.nextInt(s.length() + 1);
            char letter = LETTERS.charAt(draw.nextInt(LETTERS.length()));
            int way = draw.nextInt(4);
            if (way == 0) {
                s.insert(place, letter);
            } else if (way == 1) {
                s.insert(place, ' ');
            } else if (way == 2 && place < s.length()) {
                s.setCharAt(place, letter);
            } else if (place < s.length()) {
                s.deleteCharAt(place);
            }
        }
        return s.toString();
    }

    private int tell(String text) {
        for (int i = 0; i < text.length(); i++) {
            due.is("type", x.type(text.charAt(i)), y.type(text.charAt(i)));
        }
        due.is("state() of " + text, x.state(), y.state());
        return text.length() + 1;
    }

    private int call() {
        int which = draw.nextInt(64);
        if (which < 16) {
            done(which);
        } else if (which < 32) {
            foretold(which - 16);
        } else if (which < 48) {
            sheets(which - 32);
        } else if (which < 50) {
            return draw.nextInt(4) == 0 ? tell(draw.nextBoolean() ? text() : spoilt(text())) : lookAtAll();
        } else {
            looks(which - 50);
        }
        return 1;
    }

    private void done(int which) {
        int a, b, c;
        switch (which) {
            case 0: case 1: a = n(1, draw.nextBoolean() ? 4 : 40); due.is("days(" + a + ")", x.days(a), y.days(a)); break;
            case 2: case 3: case 4: case 5: case 6:
                a = aMedal(); b = draw.nextInt(6) == 0 ? -4 : aMan();
                due.is("hang(" + a + ", " + b + ")", x.hang(a, b), y.hang(a, b)); break;
            case 7: a = aMedal(); b = n(1, 20); due.is("polish(" + a + ", " + b + ")", x.polish(a, b), y.polish(a, b)); break;
            case 8: a = n(1, draw.nextBoolean() ? 4 : 40); due.is("drift(" + a + ")", x.drift(a), y.drift(a)); break;
            case 9: case 10: case 11: due.is("undo()", x.undo(), y.undo()); break;
            case 12: a = n(0, 1 << 30); due.is("seed(" + a + ")", x.seed(a), y.seed(a)); break;
            case 13: a = n(1, 60); if (draw.nextInt(3) == 0) due.is("man(" + a + ")", x.man(a), y.man(a)); break;
            case 14: a = n(0, 4); b = n(1, 20); c = aMan();
                if (draw.nextInt(3) == 0) due.is("medal(" + a + ", " + b + ", " + c + ")", x.medal(a, b, c), y.medal(a, b, c)); break;
            default: if (draw.nextBoolean()) due.is("image()", x.image(), y.image()); else due.is("restore()", x.restore(), y.restore());
        }
    }

    private void foretold(int which) {
        int a, b, c;
        switch (which) {
            case 0: case 1: a = aMan(); b = n(0, 60); c = n(0, 1);
                due.is("ahead(" + a + ", " + b + ", " + c + ")", x.ahead(a, b, c), y.ahead(a, b, c)); break;
            case 2: a = n(0, 60); due.is("then(" + a + ")", x.then(a), y.then(a)); break;
            case 3: a = aMan(); due.is("done(" + a + ")", x.done(a), y.done(a)); break;
            case 4: due.is("ever()", x.ever(), y.ever()); break;
            case 5: case 6: case 7: case 8: case 9: case 10: costly(which); break;
            case 11: case 12: a = n(1, 40); b = n(0, 1); due.is("off(" + a + ", " + b + ")", x.off(a, b), y.off(a, b)); break;
            case 13: a = aMan(); b = n(1, 40); due.is("needs(" + a + ", " + b + ")", x.needs(a, b), y.needs(a, b)); break;
            default: a = n(0, 1); due.is("two(" + a + ")", x.two(a), y.two(a));
        }
    }

    /** The model tries every way, so these come rarely. */
    private void costly(int which) {
        if (draw.nextInt(8) > 0) return;
        int a, b;
        if (which < 7) {
            a = n(-1, 6);
            due.is("even(" + a + ")", x.even(a), y.even(a));
        } else if (which < 9) {
            a = n(-2, 6);
            due.is("few(" + a + ")", x.few(a), y.few(a));
        } else {
            a = draw.nextBoolean() ? -1 : aMan();
            b = n(0, 1);
            due.is("error(" + a + ", " + b + ")", x.error(a, b), y.error(a, b));
        }
    }

    private void sheets(int which) {
        int s = n(0, 3), lane = aLane(s), i = n(0, 6), n, a, b;
        switch (which) {
            case 0: a = n(0, 3); n = n(0, 24); due.is("sheet(" + s + ", " + a + ", " + n + ")", x.sheet(s, a, n), y.sheet(s, a, n)); break;
            case 1: if (draw.nextInt(4) == 0) due.is("drop(" + s + ")", x.drop(s), y.drop(s)); break;
            case 2: case 3: long v = draw.nextInt(3) == 0 ? draw.nextLong() : draw.nextInt(400) - 100;
                due.is("item(" + s + ", " + lane + ", " + i + ", " + v + ")", x.item(s, lane, i, v), y.item(s, lane, i, v)); break;
            case 4: case 5: a = n(0, 3); b = n(0, 6); n = n(0, 6);
                due.is("copy(" + s + ", " + i + ", " + a + ", " + b + ", " + n + ")", x.copy(s, i, a, b, n), y.copy(s, i, a, b, n)); break;
            case 6: case 7: case 8: case 9: a = aMan(); n = n(1, draw.nextBoolean() ? 8 : 24); i = draw.nextInt(2) * i;
                due.is("film(" + a + ", " + n + ", " + s + ", " + lane + ", " + i + ")", x.film(a, n, s, lane, i), y.film(a, n, s, lane, i)); break;
            default: a = aMan(); b = aMedal(); n = n(1, 8); int what = n(0, 2); i = draw.nextInt(2) * i;
                due.is("felt(" + a + ", " + b + ", " + s + ", " + lane + ", " + i + ", " + n + ", " + what + ")",
                    x.felt(a, b, s, lane, i, n, what), y.felt(a, b, s, lane, i, n, what));
        }
    }

    private void looks(int which) {
        int a = which < 6 ? aMan() : aMedal(), b;
        if (which < 6) {
            b = n(0, 5);
            due.is("of(" + a + ", " + b + ")", x.of(a, b), y.of(a, b));
        } else if (which < 11) {
            b = n(0, 4);
            due.is("at(" + a + ", " + b + ")", x.at(a, b), y.at(a, b));
        } else {
            b = n(0, 7);
            due.is("count(" + b + ")", x.count(b), y.count(b));
        }
    }

    private int lookAtAll() {
        int calls = 0;
        for (int what = 0; what < 8; what++, calls++) {
            due.is("count(" + what + ")", x.count(what), y.count(what));
        }
        for (int m = 0; m < y.now.medals.size(); m++) {
            for (int what = 0; what < 5; what++, calls++) {
                due.is("at(" + m + ", " + what + ")", x.at(m, what), y.at(m, what));
            }
        }
        return calls;
    }
}
