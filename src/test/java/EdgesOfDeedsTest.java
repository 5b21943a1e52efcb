/** The boundary cases of promises 9 to 14 and of what is done in parts 1 and 3, a sentence each. */
public final class EdgesOfDeedsTest {
    private static final String RICH = Scenes.RICH + " | ";
    private static final String[] FAR = {"MIN", "-1000", "1000", "MAX"};
    /** The DAY 9960. */
    private static final String LATE = "249*days(40) | ";
    private static final Due due = new Due();

    public static void main(String[] args) {
        daysAsTold();
        daysFull();
        aDay();
        daysAnswer();
        daysUndone();
        hangAsTold();
        hangNot();
        polishAsTold();
        polishNot();
        driftAsTold();
        driftFull();
        theDraw();
        whatIsHung();
        driftUndone();
        undoNone();
        undoKnowsEight();
        undoGoesRound();
        undoGivesBack();
        seedAsTold();
        due.end();
    }

    private static void daysAsTold() {
        due.part("promise 9: BAD, n is 1 .. 40");
        due.leaves(RICH + "days(0)", -1);
        due.leaves(RICH + "days(-1)", -1);
        due.leaves(RICH + "days(41)", -1);
        for (String far : FAR) {
            due.leaves(RICH + "days(" + far + ")", -1);
        }
        due.run(RICH + "count(2)", 3);
        due.run(RICH + "days(1) | count(2)", 4);
        due.run(RICH + "days(40) | count(2)", 43);
    }

    private static void daysFull() {
        due.part("promise 9: FULL, the DAY would be above 9999");
        due.run(LATE + "count(2)", 9960);
        due.leaves(LATE + "days(40)", -3);
        due.run(LATE + "days(39)", 0);
        due.run(LATE + "days(39) | count(2)", 9999);
        due.leaves(LATE + "days(39) | days(1)", -3);
        due.leaves(LATE + "days(39) | days(40)", -3);
        due.run(LATE + "days(38) | days(1) | count(2)", 9999);
        due.leaves(LATE + "days(38) | days(2)", -3);
        due.part("promise 9: a day undone may be had again");
        due.run(LATE + "days(39) | undo() | days(1) | count(2)", 9999);
        due.leaves(LATE + "days(39) | undo() | days(2)", -3);
        due.part("Terms: BAD ahead of FULL");
        due.leaves(LATE + "days(39) | days(0)", -1);
        due.leaves(LATE + "days(39) | days(41)", -1);
    }

    private static void aDay() {
        due.part("part 1: who is BENT has 1 less STRENGTH");
        due.run("'9-2,9;b8:1@0' | state() | days(1) | of(0, 1)", 6);
        due.run("'9-2,9;b8:1@0' | state() | days(3) | of(0, 1)", 4);
        due.part("part 1: 0 at least");
        due.run("'2,9;b20:1@0' | state() | days(1) | of(0, 1)", 1);
        due.run("'2,9;b20:1@0' | state() | days(2) | of(0, 1)", 0);
        due.run("'2,9;b20:1@0' | state() | days(3) | of(0, 1)", 0);
        due.run("'2,9;b20:1@0' | state() | days(40) | of(0, 1)", 0);
        due.part("part 1: who is not has 1 more");
        due.run("'9-2,9;b7:1@0' | state() | days(1) | of(0, 1)", 8);
        due.run("'9-9' | state() | days(1) | of(0, 1)", 1);
        due.part("part 1: BUILD at most");
        due.run("'9-1' | state() | days(1) | of(0, 1)", 9);
        due.run("'9-1' | state() | days(2) | of(0, 1)", 9);
        due.run("'60' | state() | days(40) | of(0, 1)", 60);
        due.run("'1' | state() | days(1) | of(0, 1)", 1);
        due.part("part 1: by how it is ahead of the DAY");
        // FOREIGN of 5 bears 5 on even days, 8 on odd ones.
        due.run("'9-4,9;f5:1@0' | state() | days(1) | of(0, 1)", 6);
        due.run("'9-4,9;f5:1@0' | state() | days(2) | of(0, 1)", 5);
        due.run("'9-5,9;f5:1@0' | state() | days(1) | of(0, 1)", 3);
        due.part("part 1: all, each by himself");
        due.run("'9-2,9-2,9-2;b8:1@0,b8:0@2' | state() | days(1) | of(0, 1)", 6);
        due.run("'9-2,9-2,9-2;b8:1@0,b8:0@2' | state() | days(1) | of(1, 1)", 8);
        due.run("'9-2,9-2,9-2;b8:1@0,b8:0@2' | state() | days(1) | of(2, 1)", 6);
        due.part("part 1: WEIGHTS and who wears what stay");
        due.run("'9-4,9;f5:1@0,b3:0' | state() | days(9) | at(0, 1)", 5);
        due.run("'9-4,9;f5:1@0,b3:0' | state() | days(9) | at(0, 3)", 0);
        due.run("'9-4,9;f5:1@0,b3:0' | state() | days(9) | at(1, 3)", -4);
        due.run("days(40) | seed(0)", 1);
    }

    private static void daysAnswer() {
        due.part("promise 9: who is BENT then (a set)");
        due.run("days(1)", 0);
        due.run("'9,9' | state() | days(1)", 0);
        due.run("'9-4,9;f5:1@0' | state() | days(1)", 1);
        due.run("'9-4,9;f5:1@0' | state() | days(2)", 0);
        due.run("'9,9-4;f5:0@1' | state() | days(1)", 2);
        due.run("'1,1,1,1,1;r20:0@1,r20:0@2,r20:0@3,r20:0@4,r20:1@0' | state() | days(1)", 31);
        // With 8 against 8 he is not bent, and has 9 against 8.
        due.run("'9-1,9;b8:1@0' | state() | days(1)", 0);
        // With 9 against 9 he grows no more, and is not bent.
        due.run("'9,9;b9:1@0' | state() | days(40)", 0);
    }

    private static void daysUndone() {
        due.part("promise 9: each by itself may be UNDONE");
        due.run("days(1) | count(7)", 1);
        due.run("days(3) | count(7)", 3);
        due.run("days(3) | undo()", 2);
        due.run("days(3) | undo() | count(2)", 2);
        due.run("'9-9' | state() | days(3) | undo() | of(0, 1)", 2);
        due.run("days(40) | undo()", 7);
        due.run("days(40) | 8*undo() | count(2)", 32);
    }

    private static void hangAsTold() {
        due.part("promise 10: BAD, no such MEDAL");
        due.leaves(RICH + "hang(-1, 0)", -1);
        due.leaves(RICH + "hang(NONE, 0)", -1);
        due.leaves(RICH + "hang(5, 0)", -1);
        due.run(RICH + "hang(0, 0)", 1);
        due.run(RICH + "hang(4, 0)", 1);
        due.part("promise 10: BAD, no such man");
        for (int bad : new int[] {-1, -2, -3, -5, 3}) {
            due.leaves(RICH + "hang(0, " + bad + ")", -1);
        }
        due.run(RICH + "hang(0, 2)", 1);
        due.run(RICH + "hang(0, 2) | at(0, 3)", 2);
        for (String far : FAR) {
            due.leaves(RICH + "hang(" + far + ", 0)", -1);
            due.leaves(RICH + "hang(0, " + far + ")", -1);
        }
        due.part("promise 10: put into a DRAWER (NONE)");
        due.run(RICH + "hang(0, NONE)", 1);
        due.run(RICH + "hang(0, NONE) | at(0, 3)", -4);
        due.run(RICH + "hang(0, NONE) | count(4)", 1);
        due.run(RICH + "hang(0, NONE) | hang(0, 0)", -4);
        due.part("promise 10: one that may be UNDONE");
        due.run(RICH + "hang(0, NONE) | count(7)", 6);
        due.run(RICH + "hang(0, 2) | count(7)", 6);
        due.alike(RICH + "hang(0, NONE) | undo()", Scenes.RICH);
        due.alike(RICH + "hang(0, 0) | undo()", Scenes.RICH);
        due.part("promise 10: the DAY and STRENGTH stay");
        due.run(RICH + "hang(0, 0) | count(2)", 3);
        due.run(RICH + "count(5)", 24);
        due.run(RICH + "hang(0, 0) | count(5)", 24);
    }

    private static void hangNot() {
        due.part("promise 10: NOT, it is so");
        due.leaves(RICH + "hang(0, 1)", -2);
        due.leaves("'9,9;b1:0,b1:0@0' | state() | hang(0, NONE)", -2);
        due.leaves("'9,9;b1:0,b1:0@0' | state() | hang(1, 0)", -2);
        due.run("'9,9;b1:0,b1:0@0' | state() | hang(0, 0)", -4);
        due.run("'9,9;b1:0,b1:0@0' | state() | hang(1, NONE)", 0);
        due.run("'9,9;b1:0,b1:0@0' | state() | hang(1, 1)", 0);
        due.leaves(RICH + "hang(0, NONE) | hang(0, NONE)", -2);
        due.leaves(RICH + "hang(0, 2) | hang(0, 2)", -2);
        due.part("Terms: BAD ahead of NOT");
        due.leaves("'9,9;b1:0' | state() | hang(1, NONE)", -1);
        due.leaves("'9,9;b1:0' | state() | hang(NONE, NONE)", -1);
    }

    private static void polishAsTold() {
        due.part("promise 11: BAD, no such MEDAL");
        due.leaves(RICH + "polish(-1, 1)", -1);
        due.leaves(RICH + "polish(5, 1)", -1);
        due.run(RICH + "polish(0, 1)", 12);
        due.run(RICH + "medal(0, 1, 0) | polish(5, 1)", 2);
        due.part("promise 11: BAD, n is 1 .. 20");
        due.leaves(RICH + "polish(0, 0)", -1);
        due.leaves(RICH + "polish(0, -1)", -1);
        due.leaves(RICH + "polish(0, 21)", -1);
        due.run(RICH + "polish(0, 20)", 20);
        for (String far : FAR) {
            due.leaves(RICH + "polish(" + far + ", 1)", -1);
            due.leaves(RICH + "polish(0, " + far + ")", -1);
        }
        due.part("part 1: n more WEIGHT (20 at most)");
        due.run("'9;b1:0' | state() | polish(0, 1)", 2);
        due.run("'9;b1:0' | state() | polish(0, 18)", 19);
        due.run("'9;b1:0' | state() | polish(0, 19)", 20);
        due.run("'9;b1:0' | state() | polish(0, 20)", 20);
        due.run("'9;b19:0' | state() | polish(0, 1)", 20);
        due.run("'9;b19:0' | state() | polish(0, 2)", 20);
        due.run("'9;b19:0' | state() | polish(0, 20) | at(0, 1)", 20);
        due.part("promise 11: one that may be UNDONE");
        due.run(RICH + "polish(0, 1) | count(7)", 6);
        due.alike(RICH + "polish(0, 1) | undo()", Scenes.RICH);
        due.alike(RICH + "polish(0, 20) | undo()", Scenes.RICH);
    }

    private static void polishNot() {
        due.part("promise 11: NOT, it is 20");
        due.leaves(RICH + "polish(4, 1)", -2);
        due.leaves(RICH + "polish(4, 20)", -2);
        due.leaves("'9;b20:0' | state() | polish(0, 1)", -2);
        due.leaves("'9;b19:0' | state() | polish(0, 1) | polish(0, 1)", -2);
        due.part("Terms: BAD ahead of NOT");
        due.leaves(RICH + "polish(4, 0)", -1);
        due.leaves(RICH + "polish(4, 21)", -1);
    }

    private static void driftAsTold() {
        due.part("promise 12: BAD, n is 1 .. 40");
        due.leaves(RICH + "drift(0)", -1);
        due.leaves(RICH + "drift(-1)", -1);
        due.leaves(RICH + "drift(41)", -1);
        for (String far : FAR) {
            due.leaves(RICH + "drift(" + far + ")", -1);
        }
        due.run(RICH + "drift(1) | count(2)", 4);
        due.run(RICH + "drift(40) | count(2)", 43);
    }

    private static void driftFull() {
        due.part("promise 12: FULL, likewise");
        due.leaves(LATE + "drift(40)", -3);
        due.run(LATE + "drift(39) | count(2)", 9999);
        due.leaves(LATE + "drift(39) | drift(1)", -3);
        due.leaves(LATE + "days(38) | drift(2)", -3);
        due.run(LATE + "days(38) | drift(1) | count(2)", 9999);
        due.run(LATE + "drift(40) | seed(0)", 1);
        due.part("Terms: BAD ahead of FULL");
        due.leaves(LATE + "drift(39) | drift(0)", -1);
        due.leaves(LATE + "drift(39) | drift(41)", -1);
    }

    private static void theDraw() {
        due.part("part 3: THE DRAW, the lowest 31 bits of itself times 1103515245 and 12345 more");
        due.run("drift(1) | seed(0)", 1103527590);
        due.run("drift(2) | seed(0)", 377401575);
        due.run("seed(0) | drift(1) | seed(0)", 12345);
        due.run("seed(0) | drift(2) | seed(0)", 1406932606);
        due.run("seed(2) | drift(1) | seed(0)", 59559187);
        due.run("seed(37) | drift(1) | seed(0)", 27887098);
        due.run("seed(2147483647) | drift(1) | seed(0)", 1043980748);
        due.run("seed(2147483647) | drift(2) | seed(0)", 288979989);
        due.part("part 3: it goes on without MEDALS");
        due.run("'9,9' | state() | drift(2) | seed(0)", 377401575);
        due.part("part 3: a DAY that is no DRIFT's leaves it");
        due.run("days(40) | seed(0)", 1);
    }

    /** Behind 3 comes 1163074432: MEDAL 5, man 4. Behind 27 comes 1877636536: MEDAL 0, man 0. Behind 4, 119106029: 5, 0. */
    private static void whatIsHung() {
        String all = "'60,60,60,60,60;b1:0,b1:0,b1:0,b1:0,b1:0,b1:0' | state() | ";
        due.part("part 3: the MEDAL by 65536, the man by 128, left over by how many there are");
        due.run(all + "seed(3) | drift(1) | at(5, 3)", 4);
        due.run(all + "seed(3) | drift(1) | count(4)", 31);
        due.run(all + "seed(27) | drift(1) | at(0, 3)", 0);
        due.run(all + "seed(27) | drift(1) | count(4)", 62);
        due.run(all + "seed(4) | drift(1) | at(5, 3)", 0);
        due.run(all + "seed(14) | drift(1) | at(0, 3)", 4);
        // 1043980748 by 65536 is 15929, left over by 6: 5; by 128 it is 8156099, left over by 5: 4.
        due.run(all + "seed(2147483647) | drift(1) | at(5, 3)", 4);
        due.run("man(9) | medal(0, 1, 0) | drift(1) | at(0, 3)", 0);
        due.part("part 3: from a DRAWER, too, and from a man");
        due.run(all + "count(4)", 63);
        due.run(all + "hang(5, 2) | seed(3) | drift(1) | at(5, 3)", 4);
        due.part("part 3: ahead of each DAY of a DRIFT");
        due.run("'9-9;b2:0' | state() | drift(1) | of(0, 1)", 0);
        due.run("'9-8;b2:0' | state() | drift(1) | of(0, 1)", 2);
        due.part("part 3: none without MEDALS");
        due.run("'9-9' | state() | drift(3) | of(0, 1)", 3);
        due.run("'9-9' | state() | drift(3) | count(6)", 0);
        due.part("promise 12: who is BENT then (a set)");
        due.run("drift(40)", 0);
        due.run("'9-9,9;b20:1' | state() | seed(0) | drift(1)", 1);
        // 12345 by 128 is 96: man 0 of two. FOREIGN of 5 bears 5 ahead of the DAY, 8 behind it.
        due.run("'9-4,9;f5:1' | state() | seed(0) | drift(1)", 1);
        due.run("'9-4,9;f5:1' | state() | seed(0) | drift(1) | of(0, 1)", 6);
    }

    private static void driftUndone() {
        due.part("promise 12: each with what is HUNG one that may be UNDONE");
        String all = "'60-9,60,60,60,60;b1:0,b1:0,b1:0,b1:0,b1:0,b1:0' | state() | seed(3)";
        due.run(all + " | drift(1) | count(7)", 1);
        due.run(all + " | drift(3) | count(7)", 3);
        due.run(all + " | drift(9) | count(7)", 8);
        due.alike(all + " | drift(1) | undo()", all);
        due.alike(all + " | drift(3) | 2*undo()", all + " | drift(1)");
        due.alike(all + " | drift(8) | 8*undo()", all);
        due.run(all + " | drift(9) | 8*undo() | count(2)", 1);
        due.run(all + " | drift(9) | 8*undo() | count(4)", 31);
        due.run(all + " | drift(9) | 8*undo() | seed(0)", 1163074432);
        due.run(all + " | drift(9) | 9*undo()", -4);
        due.part("promise 12: one, though the MEDAL is hung on who wears it");
        due.run("man(9) | medal(0, 1, 0) | drift(2) | count(7)", 2);
        due.run("man(9) | medal(0, 1, 0) | drift(2) | undo() | at(0, 3)", 0);
        due.run("man(9) | medal(0, 1, 0) | drift(2) | 2*undo() | at(0, 3)", -4);
        due.run("man(9) | drift(2) | undo() | seed(0)", 1103527590);
    }

    private static void undoNone() {
        due.part("promise 13: NONE, none is known");
        due.leaves("undo()", -4);
        due.leaves("man(9) | undo()", -4);
        due.leaves("seed(5) | undo()", -4);
        due.leaves(Scenes.SOME + " | 5*undo() | undo()", -4);
        due.run(Scenes.SOME + " | 5*undo()", 0);
        due.run(Scenes.SOME + " | undo()", 4);
        due.part("promise 13: what is refused is none to be UNDONE");
        for (String refused : new String[] {"days(0)", "days(41)", "hang(0, NONE)", "hang(0, 9)", "polish(1, 1)", "polish(0, 0)",
            "drift(0)", "seed(-1)", "man(0)", "medal(5, 1, 0)", "state()", "restore()"}) {
            due.leaves("'9;b1:0,b20:0' | state() | " + refused + " | undo()", -4);
            due.run("'9;b1:0,b20:0' | state() | days(2) | " + refused + " | undo()", 1);
        }
        due.part("promise 13: what only tells is none to be UNDONE");
        for (String told : new String[] {"seed(9)", "image()", "even(0)", "few(0)", "off(1, 0)", "then(60)", "ever()", "error(-1, 0)",
            "type(57)", "sheet(0, 0, 9)"}) {
            due.run("'9;b1:0,b20:0@0' | state() | " + told + " | count(7)", 0);
            due.run("'9;b1:0,b20:0@0' | state() | days(2) | " + told + " | count(7)", 2);
        }
    }

    private static void undoKnowsEight() {
        due.part("part 3: 8 are known, older ones lost");
        for (int n = 1; n < 12; n++) {
            int known = Math.min(8, n);
            due.run("days(" + n + ") | count(7)", known);
            due.run("days(" + n + ") | " + known + "*undo()", 0);
            due.run("days(" + n + ") | " + known + "*undo() | count(2)", n - known);
            due.leaves("days(" + n + ") | " + known + "*undo() | undo()", -4);
        }
        due.part("part 3: each of HUNG, DRAWER, POLISHED, DAY is one");
        String eight = "'9,9;b1:0' | state() | hang(0, 0) | polish(0, 1) | hang(0, 1) | days(2) | hang(0, NONE) | drift(1) | polish(0, 3)";
        due.run(eight + " | count(7)", 8);
        due.alike(eight + " | 8*undo()", "'9,9;b1:0' | state()");
        due.alike(eight + " | polish(0, 1) | 8*undo()", "'9,9;b1:0' | state() | man(1) | '9,9;b1:0@0' | state()");
    }

    /** However many were done, undone, done anew: as many are known as were done since, 8 at most. */
    private static void undoGoesRound() {
        due.part("part 3: UNDONE and done anew");
        for (int first = 1; first < 20; first += 3) {
            for (int back = 1; back <= Math.min(8, first); back++) {
                for (int again = 1; again < 12; again += 2) {
                    String run = "days(" + first + ") | " + back + "*undo() | days(" + again + ") | ";
                    int known = Math.min(8, Math.min(8, first) - back + again);
                    due.run(run + "count(7)", known);
                    due.run(run + "count(2)", first - back + again);
                    due.run(run + known + "*undo() | count(2)", first - back + again - known);
                    due.run(run + known + "*undo() | undo()", -4);
                }
            }
        }
    }

    private static void undoGivesBack() {
        due.part("part 3: STRENGTH, WEIGHTS, who wears what, the DAY, THE DRAW are as ahead of it");
        String start = "'9-4,20-8,60-50;b9:0@1,r3:1@0,f8:1@0,p4:0,m19:1@1' | state() | seed(5) | days(1)";
        for (String deed : new String[] {"days(1)", "drift(1)", "hang(0, 0)", "hang(0, NONE)", "hang(3, 2)", "polish(0, 1)", "polish(4, 20)"}) {
            due.alike(start + " | " + deed + " | undo()", start);
            due.alike(start + " | " + deed + " | seed(99) | undo()", start);
        }
        due.part("part 3: whatever was told since");
        due.run(start + " | days(1) | seed(99) | undo() | seed(0)", 5);
        due.run(start + " | seed(99) | days(1) | seed(7) | undo() | seed(0)", 99);
        due.part("promise 13: SHEETS, THE TAPE, the IMAGE are no part of it");
        due.run(start + " | '33' | hang(0, 0) | type(48) | undo() | type(48)", 4);
        due.run(start + " | hang(0, 0) | sheet(0, 0, 7) | undo() | drop(0)", 7);
        due.run(start + " | hang(0, 0) | image() | undo() | restore() | at(0, 3)", 0);
    }

    private static void seedAsTold() {
        due.part("promise 14: BAD, below 0");
        due.leaves(RICH + "seed(-1)", -1);
        due.leaves(RICH + "seed(MIN)", -1);
        due.run("seed(0)", 1);
        due.run("seed(0) | seed(1)", 0);
        due.run("seed(MAX) | seed(0)", 2147483647);
        due.run("seed(5) | seed(-1) | seed(0)", 5);
        due.part("promise 14: what it was");
        due.run("seed(5) | seed(6) | seed(7)", 6);
    }
}
