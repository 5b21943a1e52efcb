/** Promises 1 to 8: a new object, men, medals, and states as texts. */
public final class MenAndMedalsTest {
    private static final int[] WRONG = {-1, Integer.MIN_VALUE, Integer.MAX_VALUE};
    private static final Due due = new Due();

    public static void main(String[] args) {
        aNewObject();
        man();
        medal();
        of();
        at();
        type();
        stateAsTold();
        statePlaces();
        stateLeavesAndTakes();
        count();
        due.end();
    }

    private static void aNewObject() {
        due.part("promise 1");
        WoundMedals x = new WoundMedals();
        for (int what = 0; what < 8; what++) {
            due.is("count(" + what + ")", x.count(what), 0);
        }
        due.is("of(0, 0)", x.of(0, 0), -1);
        due.is("at(0, 0)", x.at(0, 0), -1);
        due.is("undo()", x.undo(), -4);
        due.is("restore()", x.restore(), -4);
        due.is("the draw at first", x.seed(9), 1);
        for (int sheet = 0; sheet < 4; sheet++) {
            due.is("drop(" + sheet + ")", x.drop(sheet), -11);
        }
        x.man(3);
        due.is("another object's men", new WoundMedals().count(0), 0);
    }

    private static void man() {
        due.part("promise 2");
        WoundMedals x = new WoundMedals();
        due.is("man(0)", x.man(0), -1);
        due.is("man(61)", x.man(61), -1);
        for (int build : WRONG) {
            due.is("man(" + build + ")", x.man(build), -1);
        }
        due.is("none came", x.count(0), 0);
        due.is("man(1)", x.man(1), 0);
        due.is("man(60)", x.man(60), 1);
        due.is("BUILD", x.of(1, 0), 60);
        due.is("STRENGTH", x.of(1, 1), 60);
        due.is("BUILD of the first", x.of(0, 0), 1);
        x.days(2);
        due.is("may be UNDONE", x.count(7), 2);
        due.is("refused", x.man(61), -1);
        due.is("may be UNDONE still", x.count(7), 2);
        due.is("man(7)", x.man(7), 2);
        due.is("nothing to be UNDONE", x.count(7), 0);
        due.is("undo()", x.undo(), -4);
        due.is("the DAY stays", x.count(2), 2);
        due.is("man(8)", x.man(8), 3);
        due.is("man(9)", x.man(9), 4);
        x.days(1);
        due.is("a sixth", x.man(9), -3);
        due.is("BAD goes first", x.man(0), -1);
        due.is("may be UNDONE, refused twice", x.count(7), 1);
        due.is("MEN", x.count(0), 5);
    }

    private static void medal() {
        due.part("promise 3");
        WoundMedals x = new WoundMedals();
        due.is("without men", x.medal(0, 1, 0), -1);
        x.man(10);
        x.man(20);
        int[][] bad = {{-1, 1, 0}, {5, 1, 0}, {0, 0, 0}, {0, 21, 0}, {0, 1, 2}, {0, 1, -1}, {0, 1, -4}};
        for (int[] b : bad) {
            due.is("medal(" + b[0] + ", " + b[1] + ", " + b[2] + ")", x.medal(b[0], b[1], b[2]), -1);
        }
        for (int b : WRONG) {
            due.is("kind " + b, x.medal(b, 1, 0), -1);
            due.is("weight " + b, x.medal(0, b, 0), -1);
            due.is("wound " + b, x.medal(0, 1, b), -1);
        }
        due.is("none came", x.count(1), 0);
        x.days(3);
        due.is("medal(4, 20, 1)", x.medal(4, 20, 1), 0);
        due.is("nothing to be UNDONE", x.count(7), 0);
        due.is("KIND", x.at(0, 0), 4);
        due.is("WEIGHT", x.at(0, 1), 20);
        due.is("WOUND", x.at(0, 2), 1);
        due.is("in a DRAWER", x.at(0, 3), -4);
        for (int kind = 0; kind < 5; kind++) {
            due.is("medal(" + kind + ", 1, 0)", x.medal(kind, 1, 0), kind + 1);
        }
        x.days(2);
        due.is("a seventh", x.medal(0, 1, 0), -3);
        due.is("BAD goes first", x.medal(5, 1, 0), -1);
        due.is("may be UNDONE, refused twice", x.count(7), 2);
        due.is("MEDALS", x.count(1), 6);
    }

    private static WoundMedals mixed() {
        return Due.of("10,20-5;b7:0@0,r3:1@0,p4:0@0,f5:1@1,m9:1@1,b20:0");
    }

    private static void of() {
        due.part("promise 4");
        WoundMedals x = mixed();
        int[][] first = {{10, 10, 14, 1, 7, 37}, {20, 15, 4, 0, 24, 26}};
        int[][] next = {{10, 9, 14, 1, 7, 37}, {20, 16, 7, 0, 24, 26}};
        for (int man = 0; man < 2; man++) {
            for (int what = 0; what < 6; what++) {
                due.is("of(" + man + ", " + what + ")", x.of(man, what), first[man][what]);
            }
        }
        x.days(1);
        for (int man = 0; man < 2; man++) {
            for (int what = 0; what < 6; what++) {
                due.is("a day on of(" + man + ", " + what + ")", x.of(man, what), next[man][what]);
            }
        }
        due.is("of(2, 0)", x.of(2, 0), -1);
        due.is("of(-4, 0)", x.of(-4, 0), -1);
        due.is("of(0, 6)", x.of(0, 6), -1);
        for (int b : WRONG) {
            due.is("of(" + b + ", 0)", x.of(b, 0), -1);
            due.is("of(0, " + b + ")", x.of(0, b), -1);
        }
        WoundMedals even = Due.of("9;b9:0@0,b5:0@0");
        due.is("LOAD 4 and 2", even.of(0, 2), 6);
        WoundMedals just = Due.of("9-2,9;b7:1@0");
        due.is("LOAD as STRENGTH does not bend", just.of(0, 3), 0);
        just.polish(0, 1);
        due.is("one more does", just.of(0, 3), 1);
    }

    private static void at() {
        due.part("promise 5");
        WoundMedals x = mixed();
        int[][] first = {{0, 7, 0, 0, 3}, {1, 3, 1, 0, 6}, {3, 4, 0, 0, 5}, {2, 5, 1, 1, 2}, {4, 9, 1, 1, 2}, {0, 20, 0, -4, 0}};
        for (int medal = 0; medal < 6; medal++) {
            for (int what = 0; what < 5; what++) {
                due.is("at(" + medal + ", " + what + ")", x.at(medal, what), first[medal][what]);
            }
        }
        x.days(1);
        int[] bears = {3, 6, 5, 4, 3, 0};
        for (int medal = 0; medal < 6; medal++) {
            due.is("on an odd day at(" + medal + ", 4)", x.at(medal, 4), bears[medal]);
        }
        due.is("at(6, 0)", x.at(6, 0), -1);
        due.is("at(0, 5)", x.at(0, 5), -1);
        for (int b : WRONG) {
            due.is("at(" + b + ", 0)", x.at(b, 0), -1);
            due.is("at(0, " + b + ")", x.at(0, b), -1);
        }
        bearsByKindOnAnother();
    }

    private static void bearsByKindOnAnother() {
        WoundMedals x = Due.of("60,60;b7:0@1,r7:0@1,f7:0@1,p7:0@1,m7:0@1");
        int[] evenDay = {7, 14, 7, 18, 3};
        int[] oddDay = {7, 14, 10, 18, 5};
        int[] ownOddDay = {3, 7, 5, 9, 2};
        for (int m = 0; m < 5; m++) {
            due.is("even day, kind " + m, x.at(m, 4), evenDay[m]);
        }
        x.days(1);
        for (int m = 0; m < 5; m++) {
            due.is("odd day, kind " + m, x.at(m, 4), oddDay[m]);
        }
        for (int m = 0; m < 5; m++) {
            x.hang(m, 0);
        }
        for (int m = 0; m < 5; m++) {
            due.is("odd day, his own, kind " + m, x.at(m, 4), ownOddDay[m]);
        }
        WoundMedals alone = Due.of("60,60;p7:1@0,m1:1@0,p1:0");
        due.is("PLATE with one other", alone.at(0, 4), 15);
        due.is("MINIATURE of 1", alone.at(1, 4), 0);
        alone.hang(1, 1);
        due.is("PLATE alone", alone.at(0, 4), 14);
        due.is("its wearer's own now", alone.at(1, 4), 0);
    }

    private static void type() {
        due.part("promise 6");
        WoundMedals x = new WoundMedals();
        due.is("type(31)", x.type(31), -1);
        due.is("type(127)", x.type(127), -1);
        for (int b : WRONG) {
            due.is("type(" + b + ")", x.type(b), -1);
        }
        for (int i = 0; i < 90; i++) {
            due.is("letter " + i, x.type(i < 47 ? 32 + i : 126 - (i - 47)), i + 1);
        }
        due.is("the 91st", x.type(48), -3);
        due.is("BAD goes first", x.type(31), -1);
        x.state();
        due.is("empty again", x.type(32), 1);
        WoundMedals long90 = new WoundMedals();
        Due.type(long90, " ".repeat(88) + "42");
        due.is("90 letters are read", long90.state(), 1);
        due.is("and told", long90.of(0, 0), 42);
    }

    private static void stateAsTold() {
        due.part("promise 7, as told");
        WoundMedals x = new WoundMedals();
        due.is("1", Due.tell(x, "1"), 1);
        due.is("BUILD", x.of(0, 0), 1);
        due.is("60-60", Due.tell(x, "60-60"), 1);
        due.is("no STRENGTH", x.of(0, 1), 0);
        due.is("07-00", Due.tell(x, "07-00"), 1);
        due.is("BUILD 07", x.of(0, 0), 7);
        due.is("STRENGTH 7", x.of(0, 1), 7);
        due.is("five", Due.tell(x, "1,2,3,4,5-3"), 5);
        due.is("STRENGTH of the fifth", x.of(4, 1), 2);
        due.is("blanks", Due.tell(x, "  12 - 4 , 9 ; f 20 : 1 @ 0 , m 1 : 0  "), 2);
        int[][] medals = {{2, 20, 1, 0}, {4, 1, 0, -4}};
        for (int m = 0; m < 2; m++) {
            for (int what = 0; what < 4; what++) {
                due.is("blanks at(" + m + ", " + what + ")", x.at(m, what), medals[m][what]);
            }
        }
        due.is("six medals", Due.tell(x, "9;b1:0,r2:0@0,f3:0,p4:0@0,m5:0,b06:0"), 1);
        int[] kinds = {0, 1, 2, 3, 4, 0};
        for (int m = 0; m < 6; m++) {
            due.is("KIND " + m, x.at(m, 0), kinds[m]);
            due.is("WEIGHT " + m, x.at(m, 1), m + 1);
        }
        due.is("in DRAWERS", x.count(4), 1 | 4 | 16 | 32);
        due.is("no medals then", Due.tell(x, "9"), 1);
        due.is("none", x.count(1), 0);
    }

    private static void fault(String text, int place) {
        WoundMedals x = new WoundMedals();
        due.is("\"" + text + "\"", Due.tell(x, text), -20 - place);
        due.is("nothing of \"" + text + "\"", x.count(0), 0);
    }

    private static void statePlaces() {
        due.part("promise 7, faults");
        String[] men = {"", "   ", "x", " x", "-", ",1", ";", "0", "00", "61", "99", " 61", "610", "100", "6 0", "1,,2", "1,",
            "1, ", "1,x", "1,0", "1, 0", "1,61", "1,2,3,4,5,6", "1,2,3,4,5 , 6", "5-", "5- ", "5--1", "5-6", "5- 6", "5-06",
            "5-5-", "5-1 2", "50-100", "5+", "5 ;b1:0 x"};
        int[] menAt = {0, 3, 0, 1, 0, 0, 0, 0, 0, 0, 0, 1, 0, 2, 2, 2, 2,
            3, 2, 2, 3, 2, 9, 10, 2, 3, 2, 2, 3, 2,
            3, 4, 5, 1, 8};
        for (int i = 0; i < men.length; i++) {
            fault(men[i], menAt[i]);
        }
        String[] medals = {"5;", "5; ", "5;;", "5b1:0", "5;B1:0", "5;1:0", "5;b", "5;b ", "5;b:0", "5;b0:0", "5;b 21:0", "5;b00:0",
            "5;b1", "5;b1 ", "5;b111:0", "5;b1 2:0", "5;b1@0", "5;b1:", "5;b1:1", "5;b1: 1", "5;b1:x", "5;b1:/", "5;b1:00",
            "5;b1:0@", "5;b1:0@1", "5;b1:0@ 1", "5;b1:0@00", "5;b1:0@0@", "5;b1:0,", "5;b1:0, ", "5;b1:0,q", "5;b1:0;",
            "5;b1:0-", "1,2;b1:2", "1,2;b1:1@2", "1;b1:0,b1:0,b1:0,b1:0,b1:0,b1:0,b1:0", "5;b210:0"};
        int[] medalsAt = {2, 3, 2, 1, 2, 2, 3, 4, 3, 3, 4, 3,
            4, 5, 5, 5, 4, 5, 5, 6, 5, 5, 6,
            7, 7, 8, 8, 8, 7, 8, 7, 6,
            6, 7, 9, 31, 3};
        for (int i = 0; i < medals.length; i++) {
            fault(medals[i], medalsAt[i]);
        }
    }

    private static void stateLeavesAndTakes() {
        due.part("promise 7, what stays");
        WoundMedals x = mixed();
        x.seed(77);
        x.days(2);
        int strength = x.of(0, 1);
        due.is("a fault", Due.tell(x, "1,2;b1:0,"), -29);
        due.is("MEN stay", x.count(0), 2);
        due.is("MEDALS stay", x.count(1), 6);
        due.is("the DAY stays", x.count(2), 2);
        due.is("STRENGTH stays", x.of(0, 1), strength);
        due.is("to be UNDONE stays", x.count(7), 2);
        due.is("THE TAPE is empty", x.type('8'), 1);
        due.is("told", x.state(), 1);
        due.is("THE TAPE is empty then, too", x.state(), -20);
        due.is("DAY 0", x.count(2), 0);
        due.is("MEDALS none", x.count(1), 0);
        due.is("nothing to be UNDONE", x.undo(), -4);
        due.is("THE DRAW stays", x.seed(1), 77);
    }

    private static void count() {
        due.part("promise 8");
        WoundMedals x = mixed();
        int[] first = {2, 6, 0, 1, 32, 25, 18, 0};
        int[] next = {2, 6, 1, 1, 32, 25, 21, 1};
        for (int what = 0; what < 8; what++) {
            due.is("count(" + what + ")", x.count(what), first[what]);
        }
        x.days(1);
        for (int what = 0; what < 8; what++) {
            due.is("a day on count(" + what + ")", x.count(what), next[what]);
        }
        due.is("count(8)", x.count(8), -1);
        for (int b : WRONG) {
            due.is("count(" + b + ")", x.count(b), -1);
        }
    }
}
