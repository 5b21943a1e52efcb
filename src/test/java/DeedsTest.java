/** Promises 9 to 14: days, medals hung and polished, drifts, what is undone, the draw. */
public final class DeedsTest {
    private static final int[] WRONG = {-1, Integer.MIN_VALUE, Integer.MAX_VALUE};
    private static final Due due = new Due();

    public static void main(String[] args) {
        days();
        lastDay();
        hang();
        polish();
        drift();
        driftByHand();
        undo();
        undoKnowsEight();
        seed();
        due.end();
    }

    private static void days() {
        due.part("promise 9");
        WoundMedals x = Due.of("10-7,2,9-1;b4:1@0,b20:0@1");
        due.is("days(1)", x.days(1), 3);
        int[] one = {2, 1, 9};
        for (int man = 0; man < 3; man++) {
            due.is("STRENGTH of " + man, x.of(man, 1), one[man]);
        }
        due.is("days(3)", x.days(3), 3);
        int[] four = {0, 0, 9};
        for (int man = 0; man < 3; man++) {
            due.is("STRENGTH of " + man + " on DAY 4", x.of(man, 1), four[man]);
        }
        due.is("the DAY", x.count(2), 4);
        due.is("each by itself may be UNDONE", x.count(7), 4);
        WoundMedals y = Due.of("6-1,9;f4:1@0");
        due.is("FOREIGN bends on odd days", y.days(1), 1);
        due.is("STRENGTH is 6", y.of(0, 1), 6);
        due.is("BENT by count", y.count(3), 1);
        due.is("no more on even ones", y.days(1), 0);
        due.is("none BENT by count", y.count(3), 0);
        due.is("STRENGTH is 5", y.of(0, 1), 5);
        due.is("days(0)", x.days(0), -1);
        due.is("days(41)", x.days(41), -1);
        for (int b : WRONG) {
            due.is("days(" + b + ")", x.days(b), -1);
        }
        due.is("the DAY as before", x.count(2), 4);
        due.is("days(40)", x.days(40), 3);
        due.is("the DAY 44", x.count(2), 44);
    }

    private static void lastDay() {
        WoundMedals x = new WoundMedals();
        for (int i = 0; i < 249; i++) {
            x.days(40);
        }
        due.is("the DAY 9960", x.count(2), 9960);
        due.is("to 10000", x.days(40), -3);
        due.is("drift to 10000", x.drift(40), -3);
        due.is("a refused drift leaves THE DRAW", x.seed(1), 1);
        due.is("to 9999", x.days(39), 0);
        due.is("the DAY 9999", x.count(2), 9999);
        due.is("one more", x.days(1), -3);
        due.is("BAD goes first", x.days(41), -1);
        due.is("one more of a drift", x.drift(1), -3);
        due.is("BAD goes first of a drift", x.drift(41), -1);
        due.is("still 9999", x.count(2), 9999);
        x.man(9);
        x.man(9);
        x.medal(2, 5, 1);
        x.hang(0, 0);
        due.is("what is foretold goes farther", x.ahead(0, 60, 1), 8);
        due.is("and farther", x.ahead(0, 59, 1), 5);
        x.undo();
        due.is("no day is undone by it", x.count(2), 9999);
        WoundMedals y = new WoundMedals();
        for (int i = 0; i < 249; i++) {
            y.drift(40);
        }
        due.is("drift to 9999", y.drift(39), 0);
        due.is("the DAY 9999 of a drift", y.count(2), 9999);
    }

    private static void hang() {
        due.part("promise 10");
        WoundMedals x = Due.of("10,20;b7:0,r3:1@0");
        due.is("NOT", x.hang(0, -4), -2);
        due.is("NOT on him", x.hang(1, 0), -2);
        due.is("nothing to be UNDONE", x.count(7), 0);
        due.is("from a DRAWER", x.hang(0, 1), -4);
        due.is("worn by", x.at(0, 3), 1);
        due.is("from a man", x.hang(0, 0), 1);
        due.is("worn by another", x.at(0, 3), 0);
        due.is("into a DRAWER", x.hang(1, -4), 0);
        due.is("in a DRAWER", x.at(1, 3), -4);
        due.is("may be UNDONE", x.count(7), 3);
        due.is("no such medal", x.hang(2, 0), -1);
        due.is("no such man", x.hang(0, 2), -1);
        due.is("no such man -2", x.hang(0, -2), -1);
        due.is("no such man -3", x.hang(0, -3), -1);
        due.is("no such man -5", x.hang(0, -5), -1);
        for (int b : WRONG) {
            due.is("hang(" + b + ", 0)", x.hang(b, 0), -1);
            due.is("hang(0, " + b + ")", x.hang(0, b), -1);
        }
        due.is("hang(-4, -4)", x.hang(-4, -4), -1);
        due.is("may be UNDONE still", x.count(7), 3);
    }

    private static void polish() {
        due.part("promise 11");
        WoundMedals x = Due.of("10;b7:0,r20:0,f19:0");
        due.is("by 1", x.polish(0, 1), 8);
        due.is("by 20", x.polish(0, 20), 20);
        due.is("WEIGHT", x.at(0, 1), 20);
        due.is("NOT", x.polish(0, 1), -2);
        due.is("NOT at first", x.polish(1, 20), -2);
        due.is("to 20", x.polish(2, 1), 20);
        due.is("may be UNDONE", x.count(7), 3);
        due.is("BAD goes first", x.polish(1, 0), -1);
        due.is("by 21", x.polish(1, 21), -1);
        due.is("no such medal", x.polish(3, 1), -1);
        for (int b : WRONG) {
            due.is("polish(" + b + ", 1)", x.polish(b, 1), -1);
            due.is("polish(0, " + b + ")", x.polish(0, b), -1);
        }
        due.is("may be UNDONE still", x.count(7), 3);
    }

    private static void drift() {
        due.part("promise 12");
        WoundMedals x = new WoundMedals();
        due.is("without men", x.drift(2), 0);
        long draw = 1;
        for (int i = 0; i < 2; i++) {
            draw = (draw * 1103515245L + 12345L) % (1L << 31);
        }
        due.is("THE DRAW goes on without MEDALS", x.seed(1), draw);
        due.is("the DAY", x.count(2), 2);
        due.is("each may be UNDONE", x.count(7), 2);
        due.is("drift(0)", x.drift(0), -1);
        due.is("drift(41)", x.drift(41), -1);
        for (int b : WRONG) {
            due.is("drift(" + b + ")", x.drift(b), -1);
        }
        due.is("THE DRAW as it was", x.seed(1), 1);
    }

    /** The first draws behind 1 are 1103527590, 377401575 and 662824084. */
    private static void driftByHand() {
        WoundMedals x = Due.of("9,9,1;b5:0,b6:0,b20:0@0,b2:0");
        // 1103527590 by 65536 is 16838, left over by 4: 2; by 128 it is 8621309, left over by 3: 2.
        due.is("MEDAL 2 to man 2", x.drift(1), 4);
        due.is("worn by 2", x.at(2, 3), 2);
        due.is("bent all the DAY", x.of(2, 1), 0);
        due.is("THE DRAW", x.seed(1103527590), 1103527590);
        // 377401575 by 65536 is 5758, left over by 4: 2; by 128 it is 2948449, left over by 3: 1.
        due.is("MEDAL 2 to man 1", x.drift(1), 2);
        due.is("worn by 1", x.at(2, 3), 1);
        // 662824084 by 65536 is 10113, left over by 4: 1; by 128 it is 5178313, left over by 3: 1.
        due.is("MEDAL 1 from a DRAWER to man 1", x.drift(1), 2);
        due.is("worn by 1, too", x.at(1, 3), 1);
        due.is("THE DRAW at last", x.seed(0), 662824084);
        due.is("undo()", x.undo(), 2);
        due.is("THE DRAW as ahead of the third", x.seed(5), 377401575);
        due.is("in a DRAWER again", x.at(1, 3), -4);
        due.is("the DAY", x.count(2), 2);
        due.is("undo() again", x.undo(), 1);
        due.is("THE DRAW, whatever was told since", x.seed(5), 1103527590);
        WoundMedals y = Due.of("9,9,1;b5:0,b6:0,b20:0@0,b2:0");
        due.is("three at once", y.drift(3), 2);
        due.is("three may be UNDONE", y.count(7), 3);
        due.is("THE DRAW of three", y.seed(0), 662824084);
        WoundMedals z = Due.of("5-1;f9:0");
        due.is("one MEDAL to one man", z.drift(1), 1);
        due.is("his own on an odd DAY", z.of(0, 2), 6);
        due.is("who is BENT then, not a DAY on", z.drift(1), 0);
    }

    private static void undo() {
        due.part("promise 13");
        WoundMedals x = Due.of("10-2,20;b7:0@0,r3:1@1");
        due.is("none is known", x.undo(), -4);
        x.seed(11);
        x.days(2);
        x.hang(0, 1);
        x.seed(12);
        x.hang(0, -4);
        x.polish(1, 4);
        x.seed(13);
        due.is("of the polishing", x.undo(), 4);
        due.is("WEIGHT", x.at(1, 1), 3);
        due.is("THE DRAW as ahead of it", x.seed(14), 12);
        due.is("of the DRAWER", x.undo(), 3);
        due.is("worn by", x.at(0, 3), 1);
        due.is("of the hanging", x.undo(), 2);
        due.is("worn by the first", x.at(0, 3), 0);
        due.is("THE DRAW as ahead of the hanging", x.seed(15), 11);
        due.is("of a DAY", x.undo(), 1);
        due.is("the DAY", x.count(2), 1);
        due.is("STRENGTH", x.of(0, 1), 9);
        due.is("of the other DAY", x.undo(), 0);
        due.is("DAY 0", x.count(2), 0);
        due.is("STRENGTH at first", x.of(0, 1), 8);
        due.is("none is left", x.undo(), -4);
        due.is("THE DRAW of the first DAY", x.seed(1), 11);
    }

    private static void undoKnowsEight() {
        WoundMedals x = Due.of("60-20;b1:0");
        x.days(5);
        x.polish(0, 3);
        x.days(5);
        due.is("8 are known", x.count(7), 8);
        for (int left = 7; left >= 0; left--) {
            due.is("left", x.undo(), left);
        }
        due.is("older ones are lost", x.undo(), -4);
        due.is("the DAY 3", x.count(2), 3);
        due.is("STRENGTH 43", x.of(0, 1), 43);
        due.is("WEIGHT 1", x.at(0, 1), 1);
        x.days(3);
        due.is("known anew", x.count(7), 3);
        x.undo();
        due.is("the DAY 5", x.count(2), 5);
        x.days(7);
        due.is("at most 8", x.count(7), 8);
    }

    private static void seed() {
        due.part("promise 14");
        WoundMedals x = new WoundMedals();
        due.is("seed(0)", x.seed(0), 1);
        due.is("seed(MAX)", x.seed(Integer.MAX_VALUE), 0);
        due.is("seed(-1)", x.seed(-1), -1);
        due.is("seed(MIN)", x.seed(Integer.MIN_VALUE), -1);
        due.is("stays", x.seed(3), Integer.MAX_VALUE);
        x.days(1);
        x.seed(4);
        due.is("no seed may be UNDONE", x.count(7), 1);
    }
}
