/** The boundary cases of promise 7 and of what part 3 says of a STATE, a sentence each. */
public final class EdgesOfStatesTest {
    private static final String SOME = Scenes.SOME + " | ";
    private static final Due due = new Due();

    public static void main(String[] args) {
        anEmptyTape();
        aFaultLeavesAllElse();
        inPlaceOfAll();
        howManyMen();
        howManyMedals();
        builds();
        less();
        weights();
        kinds();
        whoseWound();
        whoWears();
        aThirdDigit();
        numbersNotAsTold();
        blanks();
        theEnd();
        lettersThatCanStand();
        theLongest();
        due.end();
    }

    private static void told(String text, int men) {
        due.run("'" + text + "' | state()", men);
    }

    private static void fault(String text, int place) {
        due.run("'" + text + "' | state()", -20 - place);
    }

    private static void anEmptyTape() {
        due.part("promise 7: an empty TAPE is a FAULT");
        due.leaves("state()", -20);
        due.leaves(SOME + "state()", -20);
        due.run("'9' | state() | state()", -20);
        due.run("'x' | state() | state()", -20);
    }

    private static void aFaultLeavesAllElse() {
        due.part("promise 7: a FAULT, all else stays");
        String[] texts = {"x", "0", "5,", "1,2,3,4,5,6", "5;b1:0@1", "5;b1:0,", "60;r20:0@0 x"};
        int[] places = {0, 0, 2, 9, 7, 7, 11};
        for (int i = 0; i < texts.length; i++) {
            due.run(SOME + "'" + texts[i] + "' | state()", -20 - places[i]);
            due.alike(SOME + "'" + texts[i] + "' | state()", Scenes.SOME);
        }
        due.part("promise 7: THE TAPE is empty behind a FAULT, too");
        due.run("'6x' | state() | '7' | state()", 1);
        due.run("'6x' | state() | '7' | state() | of(0, 0)", 7);
    }

    private static void inPlaceOfAll() {
        due.part("part 3: a STATE is in place of all");
        due.run(SOME + "'7' | state()", 1);
        due.run(SOME + "'7' | state() | count(0)", 1);
        due.run(SOME + "'7' | state() | of(1, 0)", -1);
        due.run(SOME + "'7' | state() | count(1)", 0);
        due.run(SOME + "'7' | state() | at(0, 0)", -1);
        due.run(SOME + "'7' | state() | man(5)", 1);
        due.run(SOME + "'7' | state() | medal(0, 1, 0) | at(0, 3)", -4);
        due.part("part 3: DAY 0");
        due.run(SOME + "count(2)", 3);
        due.run(SOME + "'7' | state() | count(2)", 0);
        due.part("part 3: THE DRAW stays");
        due.run(SOME + "'7' | state() | seed(0)", 1218823938);
        due.part("part 3: a STATE told leaves nothing to be UNDONE");
        due.run(SOME + "'7' | state() | count(7)", 0);
        due.leaves(SOME + "'7' | state() | undo()", -4);
        due.run(SOME + "'7' | state() | days(1) | undo()", 0);
        due.run(SOME + "'7' | state() | days(1) | undo() | undo()", -4);
        due.part("promise 25: an IMAGE is kept over a STATE told; SHEETS are");
        due.run(SOME + "'7' | state() | restore() | count(0)", 3);
        due.run(SOME + "'7' | state() | drop(0)", 24);
    }

    private static void howManyMen() {
        due.part("part 3: 1 to 5 MEN with , between");
        String men = "7";
        for (int n = 1; n < 6; n++) {
            told(men, n);
            due.run("'" + men + "' | state() | count(0)", n);
            due.run("'" + men + "' | state() | of(" + (n - 1) + ", 0)", 7);
            due.run("'" + men + "' | state() | of(" + n + ", 0)", -1);
            fault(men + ",", men.length() + (n < 5 ? 1 : 0));
            men = men + ",7";
        }
        fault(men, 9);
        fault("7-1,7-2,7-3,7-4,7-5,7", 19);
        fault(",7", 0);
        fault("7,,7", 2);
        fault(";b1:0", 0);
    }

    private static void howManyMedals() {
        due.part("part 3: then perhaps ; and 1 to 6 MEDALS with , between");
        due.run("'7' | state() | count(1)", 0);
        fault("7;", 2);
        String medals = "7;b3:0";
        for (int n = 1; n < 7; n++) {
            told(medals, 1);
            due.run("'" + medals + "' | state() | count(1)", n);
            due.run("'" + medals + "' | state() | at(" + (n - 1) + ", 1)", 3);
            due.run("'" + medals + "' | state() | at(" + n + ", 1)", -1);
            fault(medals + ",", medals.length() + (n < 6 ? 1 : 0));
            medals = medals + ",b3:0";
        }
        fault(medals, 31);
        fault("7;b1:0@0,b1:0@0,b1:0@0,b1:0@0,b1:0@0,b1:0@0,b1:0@0", 43);
        fault("7;,b1:0", 2);
        fault("7;b1:0,,b1:0", 7);
        fault("7;b1:0;b1:0", 6);
    }

    private static void builds() {
        due.part("part 3: a number 1 .. 60 (BUILD)");
        for (int build = 1; build < 61; build++) {
            told("" + build, 1);
            due.run("'" + build + "' | state() | of(0, 0)", build);
            due.run("'" + build + "' | state() | of(0, 1)", build);
        }
        for (int build = 61; build < 100; build++) {
            fault("" + build, 0);
            fault("5," + build, 2);
        }
        fault("0", 0);
        fault("00", 0);
        fault("5,0", 2);
        told("01", 1);
        due.run("'09' | state() | of(0, 0)", 9);
    }

    private static void less() {
        due.part("part 3: then perhaps - and a number 0 to BUILD (so much less is STRENGTH)");
        for (int build : new int[] {1, 9, 10, 60}) {
            String man = build + "-";
            int digit = man.length();
            told(man + "0", 1);
            due.run("'" + man + "0' | state() | of(0, 1)", build);
            due.run("'" + man + "00' | state() | of(0, 1)", build);
            due.run("'" + man + "1' | state() | of(0, 1)", build - 1);
            due.run("'" + man + build + "' | state() | of(0, 1)", 0);
            due.run("'" + man + build + "' | state() | of(0, 0)", build);
            fault(man + (build + 1), digit);
            fault(man + "99", digit);
            fault(man, digit);
            fault(man + "-1", digit);
        }
        fault("5-06", 2);
        told("5-05", 1);
        due.part("part 3: the BUILD is that of the man himself");
        fault("9,5-6", 4);
        told("5,9-6", 2);
        due.run("'5,9-6' | state() | of(0, 1)", 5);
        due.run("'5,9-6' | state() | of(1, 1)", 3);
        due.run("'5-1,9' | state() | of(1, 1)", 9);
        fault("5-1-1", 3);
    }

    private static void weights() {
        due.part("part 3: a number 1 .. 20 (WEIGHT)");
        for (int weight = 1; weight < 21; weight++) {
            due.run("'5;b" + weight + ":0' | state() | at(0, 1)", weight);
        }
        for (int weight = 21; weight < 100; weight++) {
            fault("5;b" + weight + ":0", 3);
        }
        fault("5;b0:0", 3);
        fault("5;b00:0", 3);
        due.run("'5;b09:0' | state() | at(0, 1)", 9);
        fault("5;b:0", 3);
        fault("5;b1:0,b21:0", 8);
    }

    private static void kinds() {
        due.part("part 3: b r f p m (BRONZE, BARRED, FOREIGN, PLATE, MINIATURE)");
        for (int letter = 33; letter < 127; letter++) {
            int kind = "brfpm".indexOf(letter);
            if (kind >= 0) {
                due.run("'5;" + (char) letter + "1:0' | state() | at(0, 0)", kind);
            } else {
                due.run("'5;' | type(" + letter + ") | '1:0' | state()", -22);
            }
        }
        fault("5;bb1:0", 3);
        fault("5;1:0", 2);
    }

    private static String men(int n) {
        return "9" + ",9".repeat(n - 1);
    }

    private static void whoseWound() {
        due.part("part 3: : and a digit of a man there is (whose WOUND)");
        for (int men = 1; men < 6; men++) {
            String text = men(men) + ";b1:";
            for (int digit = 0; digit < 10; digit++) {
                if (digit < men) {
                    due.run("'" + text + digit + "' | state() | at(0, 2)", digit);
                } else {
                    fault(text + digit, text.length());
                }
            }
        }
        fault("5;b1:", 5);
        fault("5;b1:/", 5);
        fault("5;b1::", 5);
        fault("5;b1:-", 5);
        fault("5;b1:b", 5);
        fault("5;b1", 4);
        fault("5;b1@0", 4);
        fault("5;b1,b1:0", 4);
    }

    private static void whoWears() {
        due.part("part 3: then perhaps @ and such a digit (who wears it; else it is in a DRAWER)");
        for (int men = 1; men < 6; men++) {
            String text = men(men) + ";b1:0@";
            for (int digit = 0; digit < 10; digit++) {
                if (digit < men) {
                    due.run("'" + text + digit + "' | state() | at(0, 3)", digit);
                } else {
                    fault(text + digit, text.length());
                }
            }
        }
        due.run("'5;b1:0' | state() | at(0, 3)", -4);
        due.run("'5;b1:0@0,b1:0' | state() | at(1, 3)", -4);
        due.run("'5;b1:0,b1:0@0' | state() | at(0, 3)", -4);
        due.run("'5;b1:0,b1:0@0' | state() | at(1, 3)", 0);
        fault("5;b1:0@", 7);
        fault("5;b1:0@/", 7);
        fault("5;b1:0@:", 7);
        fault("5;b1:0@@", 7);
        fault("5;b1:0@0@0", 8);
        fault("5;b1:0@0:0", 8);
    }

    private static void aThirdDigit() {
        due.part("part 3: numbers have 1 or 2 digits (a third one can't stand there)");
        fault("100", 2);
        fault("060", 2);
        fault("001", 0);
        fault("50-005", 5);
        fault("50-100", 5);
        fault("5;b010:0", 5);
        fault("5;b200:0", 5);
        due.part("part 3: a digit of a man is one digit");
        fault("5;b1:00", 6);
        fault("5;b1:0@00", 8);
        fault("5,5;b1:01", 8);
    }

    private static void numbersNotAsTold() {
        due.part("part 3: the place of the number's first digit, if it is not as told");
        fault("61", 0);
        fault("  61", 2);
        fault("5,  61", 4);
        fault("5-  6", 4);
        fault("50-51", 3);
        fault("5;b  21:0", 5);
        fault("5;b 0:0", 4);
        due.part("part 3: of two faults the first place is told");
        fault("61x", 0);
        fault("5,61;", 2);
        fault("x61", 0);
        fault("610", 0);
        fault("5;b210:0", 3);
        fault("5-600", 2);
    }

    private static void blanks() {
        due.part("part 3: blanks count for nothing");
        told(" 5", 1);
        told("5 ", 1);
        due.run("' 12 - 4 , 9 ; f 20 : 1 @ 0 , m 1 : 0 ' | state()", 2);
        due.run("' 12 - 4 , 9 ; f 20 : 1 @ 0 , m 1 : 0 ' | state() | of(0, 1)", 8);
        due.run("' 12 - 4 , 9 ; f 20 : 1 @ 0 , m 1 : 0 ' | state() | at(0, 1)", 20);
        due.run("' 12 - 4 , 9 ; f 20 : 1 @ 0 , m 1 : 0 ' | state() | at(0, 3)", 0);
        due.run("' 12 - 4 , 9 ; f 20 : 1 @ 0 , m 1 : 0 ' | state() | at(1, 2)", 0);
        due.run("88*type(32) | '60' | state() | of(0, 0)", 60);
        due.part("part 3: blanks end a number");
        fault("1 2", 2);
        fault("6 1", 2);
        fault("5-1 2", 4);
        fault("5;b1 2:0", 5);
        fault("5;b1:0 0", 7);
        fault("5;b1:0@0 0", 9);
        due.part("part 3: the place of the letter behind blanks");
        fault(" x", 1);
        fault("   x", 3);
        fault("5  x", 3);
        fault("5;  x", 4);
        fault("5;b1:0  x", 8);
        fault("5;b1:  1", 7);
        fault("5;b1:0@  1", 9);
    }

    private static void theEnd() {
        due.part("part 3: the end, how many there are");
        String[] cut = {"", "5,", "5-", "5;", "5;b", "5;b1", "5;b1:", "5;b1:0@", "5;b1:0,", "5,5-", "5;b1:0@0,", "5;b1:0,b"};
        for (String text : cut) {
            fault(text, text.length());
            fault(text + " ", text.length() + 1);
            fault(text + "   ", text.length() + 3);
        }
    }

    /** Of all letters behind each beginning just these can stand there; another is the fault itself. */
    private static void lettersThatCanStand() {
        due.part("part 3: the first letter that can't stand there");
        stand("", "123456789");
        stand("5 ", "-,;");
        stand("60", "-,;");
        stand("5", "-,;0123456789");
        stand("5,", "123456789");
        stand("5-", "012345");
        stand("50-50", ",;");
        stand("5-5 ", ",;");
        stand("5,5,5,5,5 ", "-;");
        stand("5,5,5,5,5-1 ", ";");
        stand("5;", "brfpm");
        stand("5;b", "123456789");
        stand("5;b20", ":");
        stand("5;b2 ", ":");
        stand("5;b1:", "0");
        stand("5,5,5;b1:", "012");
        stand("5,5,5,5,5;b1:", "01234");
        stand("5;b1:0", "@,");
        stand("5;b1:0 ", "@,");
        stand("5;b1:0@", "0");
        stand("5,5;b1:0@", "01");
        stand("5;b1:0@0", ",");
        stand("5;b1:0,", "brfpm");
        stand("5;b1:0,b1:0,b1:0,b1:0,b1:0,b1:0", "@");
        stand("5;b1:0,b1:0,b1:0,b1:0,b1:0,b1:0@0", "");
    }

    private static void stand(String beginning, String letters) {
        for (int letter = 32; letter < 127; letter++) {
            WoundMedals x = new WoundMedals();
            Due.type(x, beginning);
            x.type(letter);
            int answer = x.state();
            int place = answer < 0 ? -20 - answer : beginning.length() + 1;
            boolean stands = letter == ' ' || letters.indexOf(letter) >= 0;
            due.is("'" + beginning + (char) letter + "', the place of its fault", place, beginning.length() + (stands ? 1 : 0));
        }
    }

    private static void theLongest() {
        due.part("part 3: as many as can be, as long as can be");
        String all = "60-60,60-60,60-60,60-60,60-60;m20:4@4,m20:4@4,m20:4@4,m20:4@4,m20:4@4,m20:4@4";
        told(all, 5);
        due.run("'" + all + "' | state() | count(1)", 6);
        due.run("'" + all + "' | state() | count(3)", 16);
        due.run("'" + all + "' | state() | count(5)", 0);
        due.run("'" + all + "' | state() | of(4, 4)", 63);
        due.run("'" + all + "            ' | state()", 5);
        due.run("'" + all + "            x' | state()", -109);
    }
}
