/** The boundary cases of 'Terms', part 1 and promises 1 to 6 and 8, a sentence each. */
public final class EdgesOfMenTest {
    private static final String RICH = Scenes.RICH + " | ";
    private static final String FULL = Scenes.FULL + " | ";
    private static final String[] FAR = {"MIN", "-1000", "1000", "MAX"};
    private static final Due due = new Due();

    public static void main(String[] args) {
        aNewObject();
        manOfABuild();
        manFull();
        manLeavesNothingToBeUndone();
        medalAsTold();
        medalFull();
        medalInADrawer();
        ofAsTold();
        ofNothing();
        bent();
        atAsTold();
        atADrawer();
        bearsByKind();
        plateByOthers();
        typeAsTold();
        typeFull();
        countAsTold();
        countOfNothing();
        countOfAll();
        due.end();
    }

    private static void aNewObject() {
        due.part("promise 1: a state without men");
        for (int what = 0; what < 8; what++) {
            due.leaves("count(" + what + ")", 0);
        }
        for (String bad : new String[] {"of(0, 0)", "at(0, 0)", "medal(0, 1, 0)", "hang(0, NONE)", "hang(0, 0)", "polish(0, 1)",
            "ahead(0, 0, 0)", "done(0)", "needs(0, 1)", "error(0, 0)", "felt(0, 0, 0, 0, 0, 1, 0)", "film(0, 1, 0, 0, 0)"}) {
            due.leaves(bad, -1);
        }
        for (String none : new String[] {"undo()", "restore()", "even(0)", "few(0)", "off(1, 0)", "off(40, 1)", "two(0)", "two(1)"}) {
            due.leaves(none, -4);
        }
        for (String nothing : new String[] {"then(0)", "then(60)", "ever()", "even(-1)", "few(-1)", "few(-2)"}) {
            due.leaves(nothing, 0);
        }
        due.leaves("error(-1, 0)", 1);
        due.leaves("error(-1, 1)", 1);
        due.leaves("state()", -20);
        due.part("part 3: sheets hold nothing at first");
        for (int sheet = 0; sheet < 4; sheet++) {
            due.leaves("drop(" + sheet + ")", -11);
            due.leaves("item(" + sheet + ", 0, 0, 0)", -11);
            due.leaves("copy(" + sheet + ", 0, " + sheet + ", 0, 0)", -11);
        }
        due.part("part 3: THE DRAW is 1 at first");
        due.run("seed(0)", 1);
        due.part("part 1: it is DAY 0 at first");
        due.run("count(2)", 0);
        due.run("man(5) | days(1) | count(2)", 1);
        due.part("promise 1: days go by without men");
        due.run("days(1)", 0);
        due.run("drift(1)", 0);
        due.run("drift(40) | count(2)", 40);
    }

    private static void manOfABuild() {
        due.part("promise 2: BAD, a BUILD is 1 .. 60");
        due.leaves(RICH + "man(0)", -1);
        due.leaves(RICH + "man(-1)", -1);
        due.leaves(RICH + "man(61)", -1);
        for (String far : FAR) {
            due.leaves(RICH + "man(" + far + ")", -1);
        }
        due.run(RICH + "man(1)", 3);
        due.run(RICH + "man(60)", 3);
        due.run("man(1) | of(0, 0)", 1);
        due.run("man(60) | of(0, 0)", 60);
        due.part("part 1: STRENGTH is as much as BUILD at first");
        due.run("man(1) | of(0, 1)", 1);
        due.run("man(60) | of(0, 1)", 60);
        due.run(RICH + "man(17) | of(3, 1)", 17);
        due.run("'9-9' | state() | man(8) | of(1, 1)", 8);
        due.run("'9-9' | state() | man(8) | of(0, 1)", 0);
    }

    private static void manFull() {
        due.part("part 1: MEN 0 .. 4, as they come");
        for (int i = 0; i < 5; i++) {
            due.run((i + 1) + "*man(9)", i);
        }
        due.part("promise 2: FULL, 5");
        due.run("5*man(9) | count(0)", 5);
        due.leaves("5*man(9) | man(9)", -3);
        due.leaves(FULL + "man(1)", -3);
        due.leaves(FULL + "man(60)", -3);
        due.run("'1,1,1,1' | state() | man(1)", 4);
        due.leaves("'1,1,1,1,1' | state() | man(1)", -3);
        due.part("Terms: BAD ahead of FULL");
        due.leaves(FULL + "man(0)", -1);
        due.leaves(FULL + "man(61)", -1);
    }

    private static void manLeavesNothingToBeUndone() {
        due.part("part 3: a new man leaves nothing to be UNDONE");
        due.run(RICH + "count(7)", 5);
        due.run(RICH + "man(5) | count(7)", 0);
        due.leaves(RICH + "man(5) | undo()", -4);
        due.run(RICH + "man(5) | days(1) | count(7)", 1);
        due.run(RICH + "man(5) | days(1) | undo()", 0);
        due.part("promise 2: all else stays");
        due.run(RICH + "man(5) | count(2)", 3);
        due.run(RICH + "man(5) | seed(0)", 1218823938);
        due.run(RICH + "man(5) | type(51)", 3);
        due.run(RICH + "man(5) | drop(0)", 24);
        due.run(RICH + "man(5) | restore() | count(0)", 3);
        due.run(RICH + "man(5) | of(3, 2)", 0);
        due.run(RICH + "man(5) | of(3, 4)", 0);
        due.run(RICH + "man(5) | of(3, 5)", 0);
    }

    private static void medalAsTold() {
        due.part("promise 3: BAD, a KIND is 0 .. 4");
        due.leaves(RICH + "medal(-1, 1, 0)", -1);
        due.leaves(RICH + "medal(5, 1, 0)", -1);
        for (int kind = 0; kind < 5; kind++) {
            due.run(RICH + "medal(" + kind + ", 1, 0)", 5);
            due.run(RICH + "medal(" + kind + ", 1, 0) | at(5, 0)", kind);
        }
        due.part("promise 3: BAD, a WEIGHT is 1 .. 20");
        due.leaves(RICH + "medal(0, 0, 0)", -1);
        due.leaves(RICH + "medal(0, -1, 0)", -1);
        due.leaves(RICH + "medal(0, 21, 0)", -1);
        due.run(RICH + "medal(0, 1, 0) | at(5, 1)", 1);
        due.run(RICH + "medal(0, 20, 0) | at(5, 1)", 20);
        due.part("promise 3: BAD, no such man, too");
        due.leaves(RICH + "medal(0, 1, -1)", -1);
        due.leaves(RICH + "medal(0, 1, NONE)", -1);
        for (int men = 0; men < 5; men++) {
            due.leaves(men + "*man(9) | medal(0, 1, " + men + ")", -1);
            due.run((men + 1) + "*man(9) | medal(0, 1, " + men + ")", 0);
            due.run((men + 1) + "*man(9) | medal(0, 1, " + men + ") | at(0, 2)", men);
        }
        due.leaves(FULL + "medal(0, 1, 5)", -1);
        for (String far : FAR) {
            due.leaves(RICH + "medal(" + far + ", 1, 0)", -1);
            due.leaves(RICH + "medal(0, " + far + ", 0)", -1);
            due.leaves(RICH + "medal(0, 1, " + far + ")", -1);
        }
    }

    private static void medalFull() {
        due.part("part 1: MEDALS 0 .. 5, as they come");
        for (int i = 0; i < 6; i++) {
            due.run("man(9) | " + (i + 1) + "*medal(0, 1, 0)", i);
        }
        due.part("promise 3: FULL, 6");
        due.run("man(9) | 6*medal(0, 1, 0) | count(1)", 6);
        due.leaves("man(9) | 6*medal(0, 1, 0) | medal(0, 1, 0)", -3);
        due.leaves(FULL + "medal(4, 20, 4)", -3);
        due.run("'1;b1:0,b1:0,b1:0,b1:0,b1:0' | state() | medal(0, 1, 0)", 5);
        due.leaves("'1;b1:0,b1:0,b1:0,b1:0,b1:0,b1:0' | state() | medal(0, 1, 0)", -3);
        due.part("Terms: BAD ahead of FULL");
        due.leaves(FULL + "medal(5, 1, 0)", -1);
        due.leaves(FULL + "medal(0, 21, 0)", -1);
        due.leaves(FULL + "medal(0, 1, -1)", -1);
    }

    private static void medalInADrawer() {
        due.part("promise 3: a MEDAL, in a DRAWER");
        due.run(RICH + "medal(0, 20, 2) | at(5, 3)", -4);
        due.run(RICH + "medal(0, 20, 2) | at(5, 4)", 0);
        due.run("man(9) | man(9) | medal(1, 20, 0) | count(6)", 0);
        due.run(RICH + "count(4)", 0);
        due.run(RICH + "medal(0, 20, 2) | count(4)", 32);
        due.part("part 3: a new MEDAL leaves nothing to be UNDONE");
        due.run(RICH + "medal(0, 1, 0) | count(7)", 0);
        due.leaves(RICH + "medal(0, 1, 0) | undo()", -4);
        due.run(RICH + "medal(0, 1, 0) | hang(5, 2) | undo()", 0);
        due.part("promise 3: all else stays");
        due.run(RICH + "medal(0, 1, 0) | count(2)", 3);
        due.run(RICH + "medal(0, 1, 0) | seed(0)", 1218823938);
        due.run(RICH + "medal(0, 1, 0) | type(51)", 3);
        due.run(RICH + "medal(0, 1, 0) | restore() | count(1)", 5);
    }

    private static void ofAsTold() {
        due.part("promise 4: BAD, no such man");
        due.leaves(RICH + "of(-1, 0)", -1);
        due.leaves(RICH + "of(NONE, 0)", -1);
        due.leaves(RICH + "of(3, 0)", -1);
        due.leaves(RICH + "of(0, 0)", 9);
        due.leaves(RICH + "of(2, 0)", 60);
        due.leaves(FULL + "of(4, 0)", 5);
        due.leaves(FULL + "of(5, 0)", -1);
        due.part("promise 4: BAD, what is 0 .. 5");
        due.leaves(RICH + "of(0, -1)", -1);
        due.leaves(RICH + "of(0, 6)", -1);
        due.leaves(RICH + "of(0, 5)", 9);
        for (String far : FAR) {
            due.leaves(RICH + "of(" + far + ", 0)", -1);
            due.leaves(RICH + "of(0, " + far + ")", -1);
        }
        due.part("Terms: sets are bits");
        String six = "'60,60;b1:1@0,b1:1@0,b1:1@0,b1:1@0,b1:1@0,b1:1@0' | state() | ";
        due.run(six + "of(0, 4)", 63);
        due.run(six + "of(0, 5)", 0);
        due.run(six + "of(1, 4)", 0);
        due.run(six + "of(1, 5)", 63);
        due.run(six + "hang(5, 1) | of(1, 4)", 32);
        due.run(six + "hang(5, NONE) | of(0, 4)", 31);
        due.run(six + "hang(0, NONE) | of(0, 4)", 62);
    }

    private static void ofNothing() {
        due.part("promise 4: who wears nothing, whose WOUND is none");
        for (int what = 2; what < 6; what++) {
            due.leaves("man(9) | of(0, " + what + ")", 0);
        }
        due.run("'9-9' | state() | of(0, 1)", 0);
        due.run("'9-9' | state() | of(0, 3)", 0);
        due.part("promise 4: a DRAWER bears on nobody");
        due.run("'9-9,9;r20:1' | state() | of(0, 2)", 0);
        due.run("'9-9,9;r20:1' | state() | of(0, 4)", 0);
        due.run("'9-9,9;r20:1' | state() | of(1, 4)", 0);
        due.run("'9-9,9;r20:1' | state() | of(1, 5)", 1);
    }

    private static void bent() {
        due.part("part 1: BENT, if LOAD is above STRENGTH");
        due.run("'9-2,9;b6:1@0' | state() | of(0, 3)", 0);
        due.run("'9-2,9;b7:1@0' | state() | of(0, 3)", 0);
        due.run("'9-2,9;b8:1@0' | state() | of(0, 3)", 1);
        due.run("'9-9,9;b1:1@0' | state() | of(0, 3)", 1);
        due.run("'9-9,9;b1:0@0' | state() | of(0, 3)", 0);
        due.run("'9-9,9;b2:0@0' | state() | of(0, 3)", 1);
        due.part("part 1: LOAD is what all MEDALS bear");
        due.run("'9,9;b3:0@0,b3:0@0' | state() | of(0, 2)", 2);
        due.run("'9,9;p20:1@0,p20:1@0,p20:1@0,p20:1@0,p20:1@0,p20:1@0' | state() | of(0, 2)", 270);
    }

    private static void atAsTold() {
        due.part("promise 5: BAD, no such MEDAL");
        due.leaves(RICH + "at(-1, 0)", -1);
        due.leaves(RICH + "at(NONE, 0)", -1);
        due.leaves(RICH + "at(5, 0)", -1);
        due.leaves(RICH + "at(0, 0)", 0);
        due.leaves(RICH + "at(4, 0)", 4);
        due.leaves(FULL + "at(5, 2)", 4);
        due.leaves(FULL + "at(6, 2)", -1);
        due.part("promise 5: BAD, what is 0 .. 4");
        due.leaves(RICH + "at(0, -1)", -1);
        due.leaves(RICH + "at(0, 5)", -1);
        due.leaves(RICH + "at(0, 4)", 11);
        for (String far : FAR) {
            due.leaves(RICH + "at(" + far + ", 0)", -1);
            due.leaves(RICH + "at(0, " + far + ")", -1);
        }
    }

    private static void atADrawer() {
        due.part("promise 5: NONE, a DRAWER; 0, a DRAWER");
        due.run("'9,9;b5:0' | state() | at(0, 3)", -4);
        due.run("'9,9;b5:0@0' | state() | at(0, 3)", 0);
        due.run("'9,9;b5:0@1' | state() | at(0, 3)", 1);
        due.run("'9,9;b5:0' | state() | at(0, 4)", 0);
        due.run("'9,9;b5:0@0' | state() | at(0, 4)", 2);
        due.run("'9,9;b5:0@1' | state() | at(0, 4)", 5);
        due.run("'9,9;f5:0' | state() | days(1) | at(0, 4)", 0);
        due.run("'9,9;p5:0,b1:1@0' | state() | at(0, 4)", 0);
    }

    /** One medal alone: what it bears by kind on another, then on his own, on an even day, then on an odd one. */
    private static void bearsByKind() {
        due.part("part 1: how much a MEDAL bears, by KIND, cut");
        int[] weights = {1, 2, 7, 20};
        int[][] evenDay = {{1, 2, 1, 2, 0}, {2, 4, 2, 4, 1}, {7, 14, 7, 14, 3}, {20, 40, 20, 40, 10}};
        int[][] oddDay = {{1, 2, 4, 2, 2}, {2, 4, 5, 4, 2}, {7, 14, 10, 14, 5}, {20, 40, 23, 40, 11}};
        int[][] ownEvenDay = {{0, 1, 0, 1, 0}, {1, 2, 1, 2, 0}, {3, 7, 3, 7, 1}, {10, 20, 10, 20, 5}};
        int[][] ownOddDay = {{0, 1, 2, 1, 1}, {1, 2, 2, 2, 1}, {3, 7, 5, 7, 2}, {10, 20, 11, 20, 5}};
        for (int w = 0; w < 4; w++) {
            for (int kind = 0; kind < 5; kind++) {
                String medal = "brfpm".charAt(kind) + "" + weights[w];
                String another = "'60,60;" + medal + ":1@0' | state() | ";
                String own = "'60,60;" + medal + ":0@0' | state() | ";
                due.run(another + "at(0, 4)", evenDay[w][kind]);
                due.run(another + "days(1) | at(0, 4)", oddDay[w][kind]);
                due.run(another + "days(2) | at(0, 4)", evenDay[w][kind]);
                due.run(own + "at(0, 4)", ownEvenDay[w][kind]);
                due.run(own + "days(1) | at(0, 4)", ownOddDay[w][kind]);
                due.run(own + "days(1) | of(0, 2)", ownOddDay[w][kind]);
            }
        }
    }

    private static void plateByOthers() {
        due.part("part 1: PLATE, 1 more for each other MEDAL that he wears");
        int[] another = {6, 7, 8, 9, 10, 11};
        int[] own = {3, 3, 4, 4, 5, 5};
        for (int others = 0; others < 6; others++) {
            String more = ",b1:0@0".repeat(others);
            due.run("'60,60;p3:1@0" + more + "' | state() | at(0, 4)", another[others]);
            due.run("'60,60;p3:0@0" + more + "' | state() | at(0, 4)", own[others]);
        }
        due.run("'60,60;p3:1@0,b1:0,p1:0@1,b1:1@1' | state() | at(0, 4)", 6);
        due.run("'60,60;p3:1@0,p4:1@0' | state() | of(0, 2)", 16);
    }

    private static void typeAsTold() {
        due.part("promise 6: BAD, not 32 .. 126");
        due.leaves(RICH + "type(31)", -1);
        due.leaves(RICH + "type(127)", -1);
        due.leaves(RICH + "type(0)", -1);
        due.leaves(RICH + "type(-1)", -1);
        due.leaves(RICH + "type(256)", -1);
        // Their lowest bits are letters.
        due.leaves(RICH + "type(304)", -1);
        due.leaves(RICH + "type(65584)", -1);
        for (String far : FAR) {
            due.leaves(RICH + "type(" + far + ")", -1);
        }
        for (int letter = 32; letter < 127; letter++) {
            due.run("type(" + letter + ")", 1);
        }
        due.run("3*type(48) | type(31) | type(126)", 4);
    }

    private static void typeFull() {
        due.part("promise 6: FULL, 90");
        due.run("89*type(32)", 89);
        due.run("90*type(32)", 90);
        due.leaves("90*type(32) | type(57)", -3);
        due.leaves("88*type(32) | '42' | type(57)", -3);
        due.run("88*type(32) | '42' | type(57) | state()", 1);
        due.run("88*type(32) | '42' | type(57) | state() | of(0, 0)", 42);
        due.run("90*type(32) | state()", -110);
        due.run("89*type(32) | type(120) | state()", -109);
        due.part("Terms: BAD ahead of FULL");
        due.leaves("90*type(32) | type(31)", -1);
        due.leaves("90*type(32) | type(127)", -1);
        due.part("promise 7: THE TAPE is empty then");
        due.run("90*type(32) | state() | type(57)", 1);
        due.run("'9' | state() | type(57)", 1);
    }

    private static void countAsTold() {
        due.part("promise 8: BAD, what is 0 .. 7");
        due.leaves(RICH + "count(-1)", -1);
        due.leaves(RICH + "count(8)", -1);
        due.leaves(RICH + "count(0)", 3);
        due.leaves(RICH + "count(7)", 5);
        for (String far : FAR) {
            due.leaves(RICH + "count(" + far + ")", -1);
        }
    }

    private static void countOfNothing() {
        due.part("promise 8: men without MEDALS");
        int[] counts = {1, 0, 0, 0, 0, 5, 0, 0};
        for (int what = 0; what < 8; what++) {
            due.run("man(5) | count(" + what + ")", counts[what]);
        }
        due.part("promise 8: what may be UNDONE");
        due.run("days(7) | count(7)", 7);
        due.run("days(8) | count(7)", 8);
        due.run("days(9) | count(7)", 8);
        due.run("days(1) | undo() | count(7)", 0);
    }

    private static void countOfAll() {
        due.part("promise 8: all MEN, all MEDALS");
        String all = "'1,1,1,1,1;r20:0@1,r20:0@2,r20:0@3,r20:0@4,r20:1@0,b7:0' | state() | ";
        int[] counts = {5, 6, 0, 31, 32, 5, 200, 0};
        for (int what = 0; what < 8; what++) {
            due.run(all + "count(" + what + ")", counts[what]);
        }
        due.run(all + "days(1) | count(5)", 0);
        due.run(all + "hang(4, NONE) | count(3)", 30);
        due.run(all + "hang(4, NONE) | count(4)", 48);
        due.run("'60,60,60,60,60' | state() | count(5)", 300);
        due.run("'9,9;f5:0@1,m8:1@0,b9:0' | state() | count(6)", 9);
        due.run("'9,9;f5:0@1,m8:1@0,b9:0' | state() | days(1) | count(6)", 13);
    }
}
