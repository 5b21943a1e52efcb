/** What the tests share: answers that are due, counted when they are not given. */
final class Due {
    private int wrong = 0;
    private int asked = 0;
    private String part = "";

    void part(String name) {
        part = name;
    }

    void is(String call, long got, long want) {
        asked++;
        if (got != want) {
            wrong++;
            System.out.println(part + ": " + call + " answered " + got + ", due is " + want);
        }
    }

    void isTrue(String what, boolean holds) {
        is(what, holds ? 1 : 0, 1);
    }

    /** The last call of a run on a new object answers this. */
    void run(String run, long want) {
        is(run, Run.on(new WoundMedals(), run), want);
    }

    /** The last call of a run answers this and leaves all as it was: it is refused, or it only foretells. */
    void leaves(String run, long want) {
        run(run, want);
        alike(run, Run.ahead(run));
    }

    /** Behind both runs all is the same. */
    void alike(String run, String other) {
        String is = Whole.of(Run.anew(run));
        String as = Whole.of(Run.anew(other));
        asked++;
        if (!is.equals(as)) {
            wrong++;
            System.out.println(part + ": behind " + run + " all is" + is + "\nbut due is" + as);
        }
    }

    void end() {
        System.out.println(asked + " answers asked, " + wrong + " wrong");
        if (wrong != 0) {
            System.exit(1);
        }
    }

    static void type(WoundMedals x, String text) {
        for (int i = 0; i < text.length(); i++) {
            x.type(text.charAt(i));
        }
    }

    static int tell(WoundMedals x, String text) {
        type(x, text);
        return x.state();
    }

    /** A new object that has been told a state. */
    static WoundMedals of(String text) {
        WoundMedals x = new WoundMedals();
        int men = tell(x, text);
        if (men < 1) {
            throw new IllegalStateException(text + " is no state: " + men);
        }
        return x;
    }
}
