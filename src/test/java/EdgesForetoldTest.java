/** The boundary cases of promises 15 to 26 and of part 2, a sentence each. */
public final class EdgesForetoldTest {
    /**
     * On the DAY 3 man 0 has 2 and bears 6, man 1 has 9 and bears 26, man 2 has 13 of 60 and bears 11 on odd days,
     * 8 on even ones.
     */
    private static final String RICH = Scenes.RICH + " | ";
    private static final String FULL = Scenes.FULL + " | ";
    private static final String[] FAR = {"MIN", "-1000", "1000", "MAX"};
    private static final Due due = new Due();

    public static void main(String[] args) {
        aheadAsTold();
        aheadToEitherEnd();
        thenAsTold();
        doneAsTold();
        ever();
        evenAsTold();
        evenOfNothing();
        evenOfLikeOnes();
        fewAsTold();
        fewOfNothing();
        fewOfLikeOnes();
        offAsTold();
        offNone();
        offBehindThem();
        needsAsTold();
        needsFromNoneToNone();
        twoAsTold();
        twoNone();
        twoOfLikeOnes();
        errorAsTold();
        errorOfNothing();
        errorInLowestTerms();
        image();
        imageKeepsAllBut();
        oneBehindAnother();
        due.end();
    }

    private static void told(String text, String call, int want) {
        due.leaves("'" + text + "' | state() | " + call, want);
    }

    private static void aheadAsTold() {
        due.part("promise 15: BAD, no such man");
        due.leaves(RICH + "ahead(-1, 0, 0)", -1);
        due.leaves(RICH + "ahead(NONE, 0, 0)", -1);
        due.leaves(RICH + "ahead(3, 0, 0)", -1);
        due.leaves(RICH + "ahead(0, 0, 0)", 2);
        due.leaves(RICH + "ahead(2, 0, 0)", 13);
        due.leaves(FULL + "ahead(4, 0, 0)", 5);
        due.leaves(FULL + "ahead(5, 0, 0)", -1);
        due.part("promise 15: BAD, n is 0 .. 60");
        due.leaves(RICH + "ahead(2, -1, 0)", -1);
        due.leaves(RICH + "ahead(2, -1, 1)", -1);
        due.leaves(RICH + "ahead(2, 61, 0)", -1);
        due.leaves(RICH + "ahead(2, 61, 1)", -1);
        due.leaves(RICH + "ahead(2, 60, 0)", 60);
        due.leaves(RICH + "ahead(2, 60, 1)", 11);
        due.part("promise 15: BAD, what is 0, 1");
        due.leaves(RICH + "ahead(2, 0, -1)", -1);
        due.leaves(RICH + "ahead(2, 0, 2)", -1);
        due.leaves(RICH + "ahead(2, 0, 1)", 11);
        for (String far : FAR) {
            due.leaves(RICH + "ahead(" + far + ", 0, 0)", -1);
            due.leaves(RICH + "ahead(0, " + far + ", 0)", -1);
            due.leaves(RICH + "ahead(0, 0, " + far + ")", -1);
        }
    }

    private static void aheadToEitherEnd() {
        due.part("part 2: STRENGTH behind n DAYS, BUILD at most");
        due.run(RICH + "ahead(2, 1, 0)", 14);
        due.run(RICH + "ahead(2, 46, 0)", 59);
        due.run(RICH + "ahead(2, 47, 0)", 60);
        due.run(RICH + "ahead(2, 48, 0)", 60);
        due.part("part 2: STRENGTH behind n DAYS, 0 at least");
        due.run(RICH + "ahead(1, 8, 0)", 1);
        due.run(RICH + "ahead(1, 9, 0)", 0);
        due.run(RICH + "ahead(1, 10, 0)", 0);
        due.run(RICH + "ahead(1, 60, 0)", 0);
        due.part("part 2: LOAD behind n DAYS is that of the DAY then");
        due.run(RICH + "ahead(2, 1, 1)", 8);
        due.run(RICH + "ahead(2, 2, 1)", 11);
        due.run(RICH + "ahead(2, 59, 1)", 8);
        due.part("part 2: of who wears nothing");
        due.run("man(9) | ahead(0, 60, 1)", 0);
        due.run("'9-9' | state() | ahead(0, 8, 0)", 8);
        due.part("part 2: as so many DAYS make it");
        for (int n = 1; n < 41; n++) {
            for (int man = 0; man < 3; man++) {
                WoundMedals x = Run.anew(Scenes.RICH);
                int strength = x.ahead(man, n, 0);
                int load = x.ahead(man, n, 1);
                int bent = x.then(n);
                due.is("days(" + n + ")", x.days(n), bent);
                due.is("STRENGTH of " + man + " behind " + n, x.of(man, 1), strength);
                due.is("LOAD of " + man + " behind " + n, x.of(man, 2), load);
            }
        }
        due.part("part 2: what is foretold goes farther than the DAY 9999");
        String last = "249*days(40) | days(39) | man(9) | man(9) | medal(2, 5, 1) | hang(0, 0) | ";
        due.run(last + "ahead(0, 0, 1)", 8);
        due.run(last + "ahead(0, 1, 1)", 5);
        due.run(last + "ahead(0, 60, 1)", 8);
        due.run(last + "then(60)", 0);
    }

    private static void thenAsTold() {
        due.part("promise 16: BAD, n is 0 .. 60");
        due.leaves(RICH + "then(-1)", -1);
        due.leaves(RICH + "then(61)", -1);
        due.leaves(RICH + "then(0)", 3);
        due.leaves(RICH + "then(60)", 3);
        for (String far : FAR) {
            due.leaves(RICH + "then(" + far + ")", -1);
        }
        due.part("promise 16: who is BENT behind n DAYS (a set)");
        due.leaves("then(60)", 0);
        told("9,9", "then(0)", 0);
        told("9-4,9;f5:1@0", "then(0)", 0);
        told("9-4,9;f5:1@0", "then(1)", 1);
        told("9-4,9;f5:1@0", "then(59)", 1);
        told("9-4,9;f5:1@0", "then(60)", 0);
        told("9-4,9;f3:1@0", "then(1)", 0);
        told("9-4,9;f4:1@0", "then(1)", 1);
        told("1,1,1,1,1;r20:0@1,r20:0@2,r20:0@3,r20:0@4,r20:1@0", "then(60)", 31);
    }

    private static void doneAsTold() {
        due.part("promise 17: BAD, no such man");
        due.leaves(RICH + "done(-1)", -1);
        due.leaves(RICH + "done(NONE)", -1);
        due.leaves(RICH + "done(3)", -1);
        for (String far : FAR) {
            due.leaves(RICH + "done(" + far + ")", -1);
        }
        due.part("part 2: the first of 0 to 60 DAYS behind which his STRENGTH is 0");
        due.leaves(RICH + "done(0)", 2);
        due.leaves(RICH + "done(1)", 9);
        told("5-5", "done(0)", 0);
        told("5-5,9;b9:1@0", "done(0)", 0);
        told("1,9;b2:1@0", "done(0)", 1);
        told("60-1,9;r20:1@0,r20:1@0", "done(0)", 59);
        told("60,9;r20:1@0,r20:1@0", "done(0)", 60);
        told("9,9;b10:1@0", "done(0)", 9);
        due.part("promise 17: NONE");
        due.leaves(RICH + "done(2)", -4);
        told("5-4", "done(0)", -4);
        told("9,9;b9:1@0", "done(0)", -4);
        // He goes between 1 and 2.
        told("9-8,9;f1:1@0", "done(0)", -4);
    }

    private static void ever() {
        due.part("part 2: EVER, who is BENT behind any of 0 to 60 DAYS (a set)");
        due.leaves("ever()", 0);
        due.leaves("man(9) | ever()", 0);
        due.leaves(RICH + "ever()", 3);
        told("9-4,9;f3:1@0", "ever()", 0);
        told("9-4,9;f4:1@0", "ever()", 1);
        told("9,9-4;f4:0@1", "ever()", 2);
        told("9,9;b9:1@0", "ever()", 0);
        told("9,9;b10:1@0", "ever()", 1);
        told("1,1,1,1,1;r20:0@1,r20:0@2,r20:0@3,r20:0@4,r20:1@0", "ever()", 31);
        due.part("part 2: behind 0 DAYS, too");
        due.run("'9,9;f7:1@0' | state() | days(1) | then(0)", 1);
        due.run("'9,9;f7:1@0' | state() | days(1) | then(1)", 0);
        due.run("'9,9;f7:1@0' | state() | days(1) | ever()", 1);
        due.run("'9,9;f6:1@0' | state() | days(1) | ever()", 0);
    }

    private static void evenAsTold() {
        due.part("promise 19: BAD, k below -1");
        due.leaves(RICH + "even(-2)", -1);
        due.leaves(RICH + "even(NONE)", -1);
        due.leaves(RICH + "even(MIN)", -1);
        due.leaves("even(-2)", -1);
        due.part("promise 19: how much (k -1)");
        due.leaves("'9,9;b9:0@0,b9:0@0' | state() | even(-1)", 8);
        due.part("promise 19: NONE, there is none");
        due.leaves(RICH + "even(5)", -4);
        due.leaves(RICH + "even(6)", -4);
        due.leaves(RICH + "even(1000)", -4);
        due.leaves(RICH + "even(MAX)", -4);
        due.part("promise 19: NONE, it is in a DRAWER");
        told("9,9;b9:0,b3:1@0", "even(0)", -4);
        told("9,9;b9:0,b3:1@0", "even(1)", 1);
        told("9,9;b9:0,b3:1@0", "even(-1)", 1);
    }

    private static void evenOfNothing() {
        due.part("promise 19: 0 without MEN");
        due.leaves("even(-1)", 0);
        due.leaves("even(0)", -4);
        due.part("part 2: EVEN without MEDALS, with all in DRAWERS");
        told("9,9", "even(-1)", 0);
        told("9,9", "even(0)", -4);
        told("9;r20:0,r20:0", "even(-1)", 0);
        told("9;r20:0,r20:0", "even(1)", -4);
        due.part("part 2: EVEN of one man");
        told("9;b5:0@0,b5:0@0", "even(-1)", 4);
        told("9;b5:0@0,b5:0@0", "even(1)", 0);
    }

    private static void evenOfLikeOnes() {
        due.part("part 2: the greatest LOAD is least");
        told("1,60;b9:0@1,b9:0@1", "even(-1)", 8);
        told("1,60;b9:0@1,b9:0@1", "even(0)", 0);
        told("1,60;b9:0@1,b9:0@1", "even(1)", 0);
        told("1,60;b9:0@1,b8:0@1", "even(-1)", 8);
        told("1,60;b9:0@1,b8:0@1", "even(0)", 0);
        told("1,60;b9:0@1,b8:0@1", "even(1)", 0);
        told("1,60;b9:0@1,b7:0@1", "even(1)", 0);
        told("9,9,9;p3:2@0,p3:2@0,b1:2@0", "even(-1)", 6);
        due.part("part 2: of like ones the first (who wears MEDAL 0, then 1, rising)");
        told("9,9,9;b6:2@2,b6:2@1", "even(-1)", 6);
        told("9,9,9;b6:2@2,b6:2@1", "even(0)", 0);
        told("9,9,9;b6:2@2,b6:2@1", "even(1)", 1);
        told("9,9,9;b1:2@2", "even(0)", 2);
        told("9,9,9;b1:0@2,b1:0@2", "even(1)", 0);
        told("9,9,9;m1:2@2,m1:2@1,b2:1@0", "even(-1)", 1);
        told("9,9,9;m1:2@2,m1:2@1,b2:1@0", "even(0)", 0);
        told("9,9,9;m1:2@2,m1:2@1,b2:1@0", "even(1)", 0);
        told("9,9,9;m1:2@2,m1:2@1,b2:1@0", "even(2)", 1);
        due.part("part 2: six MEDALS among five MEN");
        String most = "9,9,9,9,9;b20:0@4,b20:0@4,b20:0@4,b20:0@4,b20:0@4,b20:0@4";
        int[] wear = {0, 0, 1, 2, 3, 4};
        told(most, "even(-1)", 20);
        for (int medal = 0; medal < 6; medal++) {
            told(most, "even(" + medal + ")", wear[medal]);
        }
        due.part("part 2: now, on an odd DAY");
        due.leaves("'9,9;f5:0@0,b7:0@0' | state() | even(-1)", 5);
        due.leaves("'9,9;f5:0@0,b7:0@0' | state() | days(1) | even(-1)", 7);
    }

    private static void fewAsTold() {
        due.part("promise 20: BAD, k below -2");
        due.leaves(RICH + "few(-3)", -1);
        due.leaves(RICH + "few(NONE)", -1);
        due.leaves(RICH + "few(MIN)", -1);
        due.leaves("few(-3)", -1);
        due.part("promise 20: how many are BENT (k -1), how many change (k -2)");
        told("1,1,9-5;r20:0@1,r20:1@0", "few(-1)", 1);
        told("1,1,9-5;r20:0@1,r20:1@0", "few(-2)", 1);
        due.part("promise 20: NONE, likewise");
        due.leaves(RICH + "few(5)", -4);
        due.leaves(RICH + "few(6)", -4);
        due.leaves(RICH + "few(MAX)", -4);
        told("9,9;b9:0,b3:1@0", "few(0)", -4);
        told("9,9;b9:0,b3:1@0", "few(1)", 0);
    }

    private static void fewOfNothing() {
        due.part("part 2: FEW without MEN, without MEDALS, with all in DRAWERS");
        for (String run : new String[] {"", "man(9) | ", "'9-9,9;r20:0,r20:1' | state() | "}) {
            due.leaves(run + "few(-1)", 0);
            due.leaves(run + "few(-2)", 0);
            due.leaves(run + "few(0)", -4);
        }
        due.part("part 2: FEW of one man");
        told("9;r20:0@0", "few(-1)", 1);
        told("9;r20:0@0", "few(-2)", 0);
        told("9;r20:0@0", "few(0)", 0);
        told("20;r20:0@0", "few(-1)", 0);
    }

    private static void fewOfLikeOnes() {
        due.part("part 2: BENT now, if LOAD is above STRENGTH");
        told("6,1;b6:1@1", "few(-1)", 0);
        told("6,1;b6:1@1", "few(-2)", 1);
        told("6,1;b6:1@1", "few(0)", 0);
        told("5,1;b6:1@1", "few(-1)", 1);
        told("5,1;b6:1@1", "few(-2)", 0);
        told("5,1;b6:1@1", "few(0)", 1);
        told("9-4,1;b6:1@1", "few(-1)", 1);
        told("9-3,1;b6:1@1", "few(-1)", 0);
        due.part("part 2: of like ones fewest MEDALS change hands");
        told("9,9;b1:0@1,b1:0@1,b1:1@0", "few(-2)", 0);
        told("9,9;b1:0@1,b1:0@1,b1:1@0", "few(0)", 1);
        told("9,9;b6:0@1,b6:0@1", "few(-2)", 1);
        told("9,9,9;b6:0@1,b6:0@1,b6:0@1", "few(-2)", 2);
        told("9,9,9;b6:0@1,b6:0@1,b6:0@1", "few(-1)", 0);
        due.part("part 2: of like ones the first");
        told("9,9;b6:0@1,b6:0@1", "few(0)", 0);
        told("9,9;b6:0@1,b6:0@1", "few(1)", 1);
        told("9,9,9;b6:1@2,b6:1@2", "few(0)", 0);
        told("9,9,9;b6:1@2,b6:1@2", "few(1)", 2);
        due.part("part 2: fewest BENT ahead of fewest changes");
        told("5,6,9;b6:2@0,b5:2@0,b2:2@0,b3:0", "few(-1)", 0);
        told("5,6,9;b6:2@0,b5:2@0,b2:2@0,b3:0", "few(-2)", 2);
        told("5,6,9;b6:2@0,b5:2@0,b2:2@0,b3:0", "few(3)", -4);
        due.part("part 2: as many change as there are, up to six");
        String text = "9-9,9;b1:1@0";
        for (int n = 1; n < 7; n++) {
            told(text, "few(-1)", 0);
            told(text, "few(-2)", n);
            told(text, "few(0)", 1);
            told(text, "few(" + (n - 1) + ")", 1);
            text = text + ",b1:1@0";
        }
    }

    private static void offAsTold() {
        due.part("promise 21: BAD, n is 1 .. 40");
        due.leaves(RICH + "off(0, 0)", -1);
        due.leaves(RICH + "off(-1, 0)", -1);
        due.leaves(RICH + "off(41, 0)", -1);
        due.leaves(RICH + "off(0, 1)", -1);
        due.leaves(RICH + "off(41, 1)", -1);
        due.leaves(RICH + "off(1, 0)", 1);
        due.leaves(RICH + "off(40, 0)", 1);
        due.leaves(RICH + "off(40, 1)", 1);
        due.part("promise 21: BAD, what is 0, 1");
        due.leaves(RICH + "off(1, -1)", -1);
        due.leaves(RICH + "off(1, 2)", -1);
        for (String far : FAR) {
            due.leaves(RICH + "off(" + far + ", 0)", -1);
            due.leaves(RICH + "off(1, " + far + ")", -1);
        }
        due.part("Terms: BAD ahead of NONE");
        due.leaves("off(0, 0)", -1);
        due.leaves("off(41, 1)", -1);
        due.leaves("off(1, 2)", -1);
    }

    private static void offNone() {
        due.part("promise 21: NONE");
        due.leaves("off(1, 0)", -4);
        due.leaves("off(40, 1)", -4);
        told("9,9", "off(1, 0)", -4);
        told("9,9", "off(1, 1)", -4);
        told("9,9;r20:0,r20:1", "off(1, 0)", -4);
        told("9,9;r20:0,r20:1", "off(1, 1)", -4);
        told("9,9;r20:0,r20:1@1", "off(1, 0)", 1);
        told("9,9;r20:0,r20:1@1", "off(1, 1)", 0);
    }

    private static void offBehindThem() {
        due.part("part 2: of like ones the first");
        told("9,9;b1:0,b1:0@0,b1:0@1", "off(1, 0)", 1);
        told("9,9;b1:0,b1:0@0,b1:0@1", "off(1, 1)", 0);
        told("1,1,1,1,1;r20:0@1,r20:0@2,r20:0@3,r20:0@4,r20:1@0", "off(40, 0)", 0);
        told("1,1,1,1,1;r20:0@1,r20:0@2,r20:0@3,r20:0@4,r20:1@0", "off(40, 1)", 4);
        due.part("part 2: fewest BENT behind them, not now");
        // Without MEDAL 0: 4 to bear on even DAYS, 7 on odd ones, when he has 5. Without MEDAL 1: 1.
        told("9-5,9;b1:1@0,f4:1@0", "off(1, 0)", 1);
        told("9-5,9;b1:1@0,f4:1@0", "off(2, 0)", 0);
        told("9-5,9;b1:1@0,f4:1@0", "off(39, 0)", 1);
        told("9-5,9;b1:1@0,f4:1@0", "off(40, 0)", 0);
        told("9-5,9;b1:1@0,f4:1@0", "off(39, 1)", 0);
        due.part("part 2: STRENGTH till then is as without it");
        // Bent now by one of 9 with 8 left; without MEDAL 0 he has 9 behind a DAY, and bears 8.
        told("9-1,9;b1:1@0,b8:1@0", "off(1, 1)", 0);
        told("9-2,9;b1:1@0,b8:1@0", "off(1, 0)", 1);
        // Without MEDAL 0 he has 2, 3, 4 and bears 2; MEDAL 1 weighs too much.
        told("9-7,9;b3:1@0,b2:1@0", "off(2, 0)", 0);
        told("9-7,9;b2:1@0,b3:1@0", "off(2, 0)", 1);
    }

    private static void needsAsTold() {
        due.part("promise 22: BAD, no such man");
        due.leaves(RICH + "needs(-1, 1)", -1);
        due.leaves(RICH + "needs(NONE, 1)", -1);
        due.leaves(RICH + "needs(3, 1)", -1);
        due.leaves(RICH + "needs(0, 1)", 6);
        due.leaves(RICH + "needs(2, 1)", 11);
        due.part("promise 22: BAD, n is 1 .. 40");
        due.leaves(RICH + "needs(0, 0)", -1);
        due.leaves(RICH + "needs(0, -1)", -1);
        due.leaves(RICH + "needs(0, 41)", -1);
        due.leaves(RICH + "needs(0, 40)", 6);
        for (String far : FAR) {
            due.leaves(RICH + "needs(" + far + ", 1)", -1);
            due.leaves(RICH + "needs(0, " + far + ")", -1);
        }
        due.part("Terms: BAD ahead of NONE");
        due.leaves("'60,1;p20:1@0,p20:1@0,p20:1@0,p20:1@0,p20:1@0' | state() | needs(0, 41)", -1);
    }

    private static void needsFromNoneToNone() {
        due.part("part 2: 0 .. 200, none");
        told("5-5", "needs(0, 40)", 0);
        told("5;b1:0@0", "needs(0, 40)", 0);
        told("5,5;b1:1@0", "needs(0, 1)", 1);
        String five = "r20:1@0,r20:1@0,r20:1@0,r20:1@0,r20:1@0";
        told("60,1;" + five, "needs(0, 1)", 200);
        told("1,1;" + five, "needs(0, 40)", 200);
        told("60,1;" + five + ",b1:0@0", "needs(0, 1)", 200);
        told("60,1;" + five + ",b1:1@0", "needs(0, 1)", -4);
        told("60,1;" + five + ",b2:0@0", "needs(0, 40)", -4);
        told("60,1;" + five + ",m1:1@0", "needs(0, 1)", -4);
        told("60,1;r20:1@0,r20:1@0,r20:1@0,r20:1@0,r19:1@0,f1:1@0", "needs(0, 1)", -4);
        due.part("part 2: the least by which he is not BENT, whatever he has");
        told("60-60,1;b7:1@0", "needs(0, 1)", 7);
        told("60,1;b7:1@0", "needs(0, 1)", 7);
        told("1,1;b7:1@0", "needs(0, 1)", 7);
        due.part("part 2: behind any of 0 to n of them");
        // FOREIGN of 8 bears 8, then 11.
        told("30,9;f8:1@0", "needs(0, 1)", 10);
        told("30,9;f8:1@0", "needs(0, 2)", 10);
        told("30,9;f8:1@0", "needs(0, 40)", 10);
        due.run("'30,9;f8:1@0' | state() | days(1) | needs(0, 1)", 11);
        due.part("part 2: BUILD as much, if that is less");
        told("11,9;f8:1@0", "needs(0, 1)", 10);
        told("10,9;f8:1@0", "needs(0, 1)", 11);
        told("9,9;f8:1@0", "needs(0, 1)", 11);
        told("1,9;f8:1@0", "needs(0, 40)", 11);
    }

    private static void twoAsTold() {
        due.part("promise 23: BAD, what is 0, 1");
        due.leaves(RICH + "two(-1)", -1);
        due.leaves(RICH + "two(2)", -1);
        due.leaves("two(2)", -1);
        due.leaves("two(-1)", -1);
        for (String far : FAR) {
            due.leaves(RICH + "two(" + far + ")", -1);
        }
        due.part("part 2: told as 10 times i, and j");
        told("9,9;b1:0,b1:0,b1:0,b1:0,b1:0@0,b1:0@1", "two(0)", 45);
        told("9,9;b1:0@1,b1:0,b1:0,b1:0,b1:0,b1:0@0", "two(0)", 5);
        told("9,9;b1:0@0,b1:0@1", "two(0)", 1);
        told("9,9;b1:0,b1:0@0,b1:0@1", "two(0)", 12);
    }

    private static void twoNone() {
        due.part("promise 23: NONE");
        due.leaves("two(0)", -4);
        due.leaves("two(1)", -4);
        String[] none = {"9,9", "9,9;b9:0", "9,9;b9:0@0", "9,9;b9:0,b9:1@1", "9,9;b9:0@1,b9:1@1", "9;b9:0@0,b9:0@0",
            "9,9,9;b9:0@1,b9:1@1,b9:0@1,b9:1"};
        for (String text : none) {
            told(text, "two(0)", -4);
            told(text, "two(1)", -4);
        }
        told("9,9,9;b9:0@1,b9:1@1,b9:0@1,b9:1@2", "two(1)", 26);
    }

    private static void twoOfLikeOnes() {
        due.part("part 2: LOADS of these two together are least then");
        told("9,9,9;b5:2@0,b5:2@1,b9:0@2", "two(0)", 2);
        told("9,9,9;b5:2@0,b5:2@1,b9:0@2", "two(1)", 6);
        told("9,9;b9:0@0,b9:1@1", "two(0)", 1);
        told("9,9;b9:0@0,b9:1@1", "two(1)", 18);
        told("9,9;b9:0@1,b9:1@0", "two(1)", 8);
        due.part("part 2: of like ones the first (the lesser number i, then the greater one j)");
        told("9,9,9;b5:2@0,b5:2@1,b5:2@0,b5:2@1", "two(0)", 1);
        told("9,9,9;b5:2@0,b5:2@0,b5:2@1,b5:2@1", "two(0)", 2);
        told("9,9,9;b7:2@0,b5:2@0,b5:2@1,b5:0@1", "two(0)", 3);
        due.part("part 2: now, on an odd DAY");
        told("9,9;f5:0@0,b4:1@1", "two(1)", 9);
        due.run("'9,9;f5:0@0,b4:1@1' | state() | days(1) | two(1)", 12);
    }

    private static void errorAsTold() {
        due.part("promise 24: BAD, no such man, below -1, too");
        due.leaves(RICH + "error(-2, 0)", -1);
        due.leaves(RICH + "error(NONE, 1)", -1);
        due.leaves(RICH + "error(3, 0)", -1);
        due.leaves(RICH + "error(3, 1)", -1);
        due.leaves("error(0, 0)", -1);
        due.leaves("error(-2, 0)", -1);
        due.part("promise 24: BAD, what is 0, 1");
        due.leaves(RICH + "error(-1, -1)", -1);
        due.leaves(RICH + "error(-1, 2)", -1);
        due.leaves(RICH + "error(0, 2)", -1);
        due.leaves("error(-1, 2)", -1);
        for (String far : FAR) {
            due.leaves(RICH + "error(" + far + ", 0)", -1);
            due.leaves(RICH + "error(-1, " + far + ")", -1);
        }
    }

    private static void odds(String text, int man, int above, int below) {
        told(text, "error(" + man + ", 0)", above);
        told(text, "error(" + man + ", 1)", below);
    }

    private static void errorOfNothing() {
        due.part("part 2: ERROR without MEN, without MEDALS, with all in DRAWERS");
        due.leaves("error(-1, 0)", 1);
        due.leaves("error(-1, 1)", 1);
        odds("9-9", -1, 1, 1);
        odds("9-9", 0, 0, 1);
        odds("9-9,9;r20:1,r20:0", -1, 1, 1);
        odds("9-9,9;r20:1,r20:0", 0, 0, 1);
        odds("9-9,9;r20:1,r20:0", 1, 0, 1);
    }

    private static void errorInLowestTerms() {
        due.part("part 2: how likely nobody is BENT, a told one is BENT");
        odds("6,9;b6:1@1", 0, 0, 1);
        odds("6,9;b6:1@1", -1, 1, 1);
        odds("5,9;b6:1@1", 0, 1, 2);
        odds("5,9;b6:1@1", -1, 1, 2);
        odds("5,9;b6:1@1,r20:0", 0, 1, 2);
        odds("1;r20:0@0", 0, 1, 1);
        odds("1;r20:0@0", -1, 0, 1);
        odds("20;r20:0@0", 0, 0, 1);
        odds("20;r20:0@0", -1, 1, 1);
        due.part("part 2: a fraction in lowest terms");
        odds("5,6,9;b6:2@0,b6:2@0,b3:0", -1, 1, 3);
        odds("5,6,9;b6:2@0,b6:2@0,b3:0", 0, 5, 9);
        odds("9,9;b6:0@0,b6:0@1", 1, 1, 4);
        odds("9,9;b6:0@0,b6:0@1", -1, 3, 4);
        String all = "1,1,1,1,1;r20:0@1,r20:0@2,r20:0@3,r20:0@4,r20:1@0,r20:4@0";
        odds(all, 0, 11529, 15625);
        odds(all, 4, 11529, 15625);
        odds(all, -1, 0, 1);
        due.part("part 2: now, on an odd DAY");
        due.run("'9,9;f7:1@0' | state() | error(0, 0)", 0);
        due.run("'9,9;f7:1@0' | state() | days(1) | error(0, 0)", 1);
        due.run("'9,9;f7:1@0' | state() | days(1) | error(0, 1)", 2);
    }

    private static void image() {
        due.part("promise 26: NONE, there is none");
        due.leaves("restore()", -4);
        due.leaves("'9-4,20;b9:0@1' | state() | days(3) | '33' | sheet(0, 0, 3) | restore()", -4);
        due.part("promise 25: 1");
        due.run("image()", 1);
        due.run(RICH + "image()", 1);
        due.part("promise 26: all is as it was then, 1");
        due.run("image() | restore()", 1);
        due.run("image() | man(5) | restore()", 1);
        due.run("image() | man(5) | restore() | count(0)", 0);
        due.alike("image() | man(5) | medal(0, 1, 0) | hang(0, 0) | drift(3) | restore()", "image()");
        due.part("promise 26: as often as it is asked for");
        due.run(RICH + "restore() | days(3) | restore()", 1);
        due.alike(RICH + "restore() | days(3) | restore()", RICH + "restore()");
        due.alike(RICH + "restore() | restore()", RICH + "restore()");
        due.part("promise 25: a later IMAGE is in place of it");
        due.run(RICH + "image() | days(3) | restore() | count(2)", 3);
        due.run(RICH + "days(5) | image() | days(3) | restore() | count(2)", 8);
    }

    private static void imageKeepsAllBut() {
        due.part("promise 26: all that may be changed");
        for (String deed : new String[] {"days(9)", "drift(9)", "hang(0, 0)", "hang(0, NONE)", "polish(0, 3)", "undo()", "5*undo()", "seed(9)",
            "man(9)", "medal(4, 1, 2)", "hang(0, 0) | man(9) | medal(0, 1, 3) | hang(5, 3) | drift(2)"}) {
            due.alike(RICH + "image() | " + deed + " | restore()", RICH + "image()");
        }
        due.alike(Scenes.SOME + " | image() | '9' | state() | restore()", Scenes.SOME + " | image()");
        due.part("promise 26: what may be UNDONE is as it was");
        due.run(RICH + "restore() | count(7)", 2);
        due.run(RICH + "restore() | 2*undo() | count(2)", 0);
        due.run(RICH + "restore() | 3*undo()", -4);
        due.run("days(12) | image() | days(12) | restore() | 8*undo() | count(2)", 4);
        due.run("days(12) | image() | man(5) | restore() | count(7)", 8);
        due.part("promise 26: THE DRAW is as it was");
        due.run(RICH + "restore() | seed(0)", 77);
        due.part("promise 25: all but SHEETS, THE TAPE");
        due.run(RICH + "image() | drop(0) | restore() | drop(0)", -11);
        due.run(RICH + "image() | sheet(3, 1, 4) | restore() | drop(3)", 4);
        due.run(RICH + "image() | type(48) | restore() | type(48)", 4);
        due.run(RICH + "image() | state() | restore() | type(48)", 1);
    }

    /** What was asked for ahead of it makes no difference to what is asked for. */
    private static void oneBehindAnother() {
        due.part("part 2: nothing is changed, whatever was asked for ahead");
        String[] asked = {"ahead(2, 60, 0)", "ahead(1, 3, 1)", "then(7)", "done(1)", "ever()", "even(-1)", "even(0)", "few(-1)", "few(-2)",
            "few(2)", "off(1, 0)", "off(40, 1)", "needs(2, 9)", "two(0)", "two(1)", "error(-1, 0)", "error(0, 1)", "error(2, 0)",
            "felt(2, 2, 0, 2, 3, 4, 0)", "felt(2, 2, 0, 2, 3, 4, 1)", "felt(0, 1, 0, 2, 3, 1, 2)", "then(61)", "even(-2)", "few(-3)"};
        for (String scene : new String[] {Scenes.RICH, Scenes.FULL, Scenes.SOME + " | hang(1, NONE)"}) {
            for (String ahead : asked) {
                for (String call : asked) {
                    due.is(scene + " | " + ahead + " | " + call, Run.on(Run.anew(scene), ahead + " | " + call), Run.on(Run.anew(scene), call));
                }
            }
        }
        due.part("part 2: a text that is no STATE makes no difference either");
        for (String call : asked) {
            due.is("behind a FAULT " + call, Run.on(Run.anew(Scenes.SOME), "'1,1;r20:0@1,p9:1@0,' | state() | " + call), Run.on(Run.anew(Scenes.SOME), call));
        }
    }
}
