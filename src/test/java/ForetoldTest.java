/** Promises 15 to 26: what is foretold, how all is hung anew, images. */
public final class ForetoldTest {
    private static final int[] WRONG = {Integer.MIN_VALUE, Integer.MAX_VALUE};
    private static final Due due = new Due();

    public static void main(String[] args) {
        ahead();
        then();
        done();
        ever();
        even();
        few();
        off();
        needs();
        two();
        error();
        image();
        due.end();
    }

    /** Man 0 goes up and down under a foreign one, man 1 goes down, man 2 grows. */
    private static WoundMedals three() {
        return Due.of("9-4,7,20-18;f4:1@0,b8:0@1");
    }

    private static void ahead() {
        due.part("promise 15");
        WoundMedals x = three();
        int[] strength = {5, 6, 5, 6, 5};
        int[] load = {4, 7, 4, 7, 4};
        for (int n = 0; n < 5; n++) {
            due.is("ahead(0, " + n + ", 0)", x.ahead(0, n, 0), strength[n]);
            due.is("ahead(0, " + n + ", 1)", x.ahead(0, n, 1), load[n]);
            due.is("ahead(1, " + n + ", 0)", x.ahead(1, n, 0), 7 - n);
            due.is("ahead(2, " + n + ", 0)", x.ahead(2, n, 0), 2 + n);
        }
        due.is("0 at least", x.ahead(1, 60, 0), 0);
        due.is("BUILD at most", x.ahead(2, 60, 0), 20);
        due.is("behind 18", x.ahead(2, 18, 0), 20);
        due.is("behind 17", x.ahead(2, 17, 0), 19);
        due.is("nothing is changed", x.count(2), 0);
        due.is("nothing may be UNDONE", x.count(7), 0);
        due.is("n -1", x.ahead(0, -1, 0), -1);
        due.is("n 61", x.ahead(0, 61, 0), -1);
        due.is("man 3", x.ahead(3, 0, 0), -1);
        due.is("man -1", x.ahead(-1, 0, 0), -1);
        due.is("what 2", x.ahead(0, 0, 2), -1);
        due.is("what -1", x.ahead(0, 0, -1), -1);
        for (int b : WRONG) {
            due.is("man " + b, x.ahead(b, 0, 0), -1);
            due.is("n " + b, x.ahead(0, b, 0), -1);
            due.is("what " + b, x.ahead(0, 0, b), -1);
        }
    }

    private static void then() {
        due.part("promise 16");
        WoundMedals x = three();
        due.is("then(0)", x.then(0), 2);
        due.is("then(1)", x.then(1), 3);
        due.is("then(2)", x.then(2), 2);
        due.is("then(59)", x.then(59), 3);
        due.is("then(60)", x.then(60), 2);
        x.days(1);
        due.is("then(0) a day on", x.then(0), 3);
        due.is("then(61)", x.then(61), -1);
        due.is("then(-1)", x.then(-1), -1);
        for (int b : WRONG) {
            due.is("then(" + b + ")", x.then(b), -1);
        }
        due.is("without men", new WoundMedals().then(60), 0);
    }

    private static void done() {
        due.part("promise 17");
        WoundMedals x = three();
        due.is("done(0)", x.done(0), -4);
        due.is("done(1)", x.done(1), 7);
        due.is("done(2)", x.done(2), -4);
        due.is("done(3)", x.done(3), -1);
        due.is("done(-1)", x.done(-1), -1);
        due.is("done(-4)", x.done(-4), -1);
        for (int b : WRONG) {
            due.is("done(" + b + ")", x.done(b), -1);
        }
        due.is("now", Due.of("5-5").done(0), 0);
        due.is("as late as 60", Due.of("60,9;r20:1@0,r20:1@0").done(0), 60);
    }

    private static void ever() {
        due.part("promise 18");
        due.is("ever()", three().ever(), 3);
        due.is("without men", new WoundMedals().ever(), 0);
        due.is("just not", Due.of("7-1,9;f4:1@0").ever(), 0);
        due.is("now and never again", Due.of("9-1,9;f8:1@0").ever(), 1);
        WoundMedals odd = Due.of("9,9;f9:1@0");
        due.is("on odd days", odd.ever(), 1);
        WoundMedals onlyNow = Due.of("9-6,9;f1:1@0");
        onlyNow.days(1);
        due.is("4 bears 4", onlyNow.ever(), 0);
    }

    private static void even() {
        due.part("promise 19");
        WoundMedals none = new WoundMedals();
        due.is("without MEN", none.even(-1), 0);
        due.is("without MEDALS", none.even(0), -4);
        WoundMedals x = Due.of("9,9,9;b9:0@0,b4:1@0,b4:2,b5:2@0");
        // Each on his own: 4, 2 and 2. MEDAL 0 bears 9 elsewhere, 1 on man 2 makes it 6, 3 on man 1 makes it 7.
        due.is("how much", x.even(-1), 4);
        int[] wear = {0, 1, -4, 2};
        for (int k = 0; k < 4; k++) {
            due.is("even(" + k + ")", x.even(k), wear[k]);
        }
        due.is("even(4)", x.even(4), -4);
        due.is("even(MAX)", x.even(Integer.MAX_VALUE), -4);
        due.is("even(-2)", x.even(-2), -1);
        due.is("even(MIN)", x.even(Integer.MIN_VALUE), -1);
        due.is("nothing is changed", x.of(0, 4), 11);
        WoundMedals like = Due.of("9,9,9;b6:2@2,b6:2@1");
        due.is("like ones", like.even(-1), 6);
        due.is("the first of like ones, 0", like.even(0), 0);
        due.is("the first of like ones, 1", like.even(1), 1);
        WoundMedals plates = Due.of("9,9,9;p3:2@0,p3:2@0,b1:2@0");
        due.is("PLATES apart", plates.even(-1), 6);
        due.is("PLATE 0", plates.even(0), 0);
        due.is("PLATE 1", plates.even(1), 1);
        due.is("BRONZE", plates.even(2), 2);
        WoundMedals drawers = Due.of("9;b9:0");
        due.is("all in DRAWERS", drawers.even(-1), 0);
        due.is("in a DRAWER", drawers.even(0), -4);
        WoundMedals odd = Due.of("9,9;f5:0@0,b7:0@0");
        // Even days: both on man 0 bear 2 and 3; odd days: 4 and 3.
        due.is("on an even day", odd.even(-1), 5);
        odd.days(1);
        due.is("on an odd day", odd.even(-1), 7);
        due.is("on an odd day MEDAL 0", odd.even(0), 0);
        due.is("on an odd day MEDAL 1", odd.even(1), 0);
    }

    private static void few() {
        due.part("promise 20");
        WoundMedals none = new WoundMedals();
        due.is("without MEN", none.few(-1), 0);
        due.is("nothing changes", none.few(-2), 0);
        due.is("without MEDALS", none.few(0), -4);
        WoundMedals x = Due.of("5,6,9;b6:2@0,b5:2@0,b2:2@0,b3:0");
        // Behind two changes nobody is bent: MEDAL 0 to 1, and 2 to 2 (5 and 2 are above 5).
        due.is("how many are BENT", x.few(-1), 0);
        due.is("how many change", x.few(-2), 2);
        int[] wear = {1, 0, 2, -4};
        for (int k = 0; k < 4; k++) {
            due.is("few(" + k + ")", x.few(k), wear[k]);
        }
        due.is("few(4)", x.few(4), -4);
        due.is("few(MAX)", x.few(Integer.MAX_VALUE), -4);
        due.is("few(-3)", x.few(-3), -1);
        due.is("few(MIN)", x.few(Integer.MIN_VALUE), -1);
        due.is("nothing is changed", x.of(0, 4), 7);
        WoundMedals stay = Due.of("9,9;b6:0@1,b6:0@1");
        due.is("one changes", stay.few(-2), 1);
        due.is("the first of like ones", stay.few(0), 0);
        due.is("and the other stays", stay.few(1), 1);
        WoundMedals all = Due.of("1,1;r20:0@1,r20:1@1");
        due.is("one is BENT at least", all.few(-1), 1);
        due.is("none changes", all.few(-2), 0);
        due.is("as they are", all.few(0), 1);
        WoundMedals weak = Due.of("9-9,9;b1:1@0,b1:0@1");
        due.is("an own one of 1 bears 0", weak.few(-1), 0);
        due.is("one change will do", weak.few(-2), 1);
        due.is("MEDAL 0 to 1", weak.few(0), 1);
    }

    private static void off() {
        due.part("promise 21");
        due.is("without MEDALS", new WoundMedals().off(1, 0), -4);
        due.is("without MEDALS, how many", new WoundMedals().off(40, 1), -4);
        due.is("all in DRAWERS", Due.of("1;r20:0").off(1, 1), -4);
        WoundMedals x = Due.of("9,9-4,9;b20:0,b3:1@0,b7:0@1,b11:1@2,b2:1@2");
        // Man 1 has 5 and 7 to bear, man 2 has 13: 3 leaves man 1, 2 leaves man 2.
        due.is("the first of like ones", x.off(1, 0), 2);
        due.is("how many", x.off(1, 1), 1);
        WoundMedals late = Due.of("9-3,9-1;b4:1@0,b7:1@0,b12:0@1");
        // 0 has 6 against 11: without MEDAL 0 5 against 7, without 1 7 against 4; 1 has 12.
        due.is("MEDAL 1", late.off(1, 0), 1);
        due.is("one is left", late.off(1, 1), 1);
        WoundMedals odd = Due.of("9-5,9;f4:1@0,b1:1@0");
        // Without MEDAL 0 he has 1 to bear, without MEDAL 1 4 and then 7.
        due.is("behind an even number", odd.off(2, 0), 0);
        WoundMedals byDays = Due.of("9-5,9;b1:1@0,f4:1@0");
        // Without MEDAL 0: 4 to bear on DAY 0, 7 on DAY 1, when he has 5; 4 on DAY 2, when he has 4.
        due.is("DAY 1", byDays.off(1, 0), 1);
        due.is("DAY 2", byDays.off(2, 0), 0);
        due.is("DAY 2, none is BENT", byDays.off(2, 1), 0);
        due.is("DAY 39", byDays.off(39, 0), 1);
        due.is("DAY 40", byDays.off(40, 0), 0);
        due.is("nothing is changed", byDays.of(0, 4), 3);
        due.is("n 0", x.off(0, 0), -1);
        due.is("n 41", x.off(41, 0), -1);
        due.is("what 2", x.off(1, 2), -1);
        due.is("what -1", x.off(1, -1), -1);
        for (int b : WRONG) {
            due.is("n " + b, x.off(b, 0), -1);
            due.is("what " + b, x.off(1, b), -1);
        }
    }

    private static void needs() {
        due.part("promise 22");
        WoundMedals x = Due.of("9-9,9,30-1;b7:1@0,f8:0@1,f8:0@2,b8:0@2");
        due.is("as much as the LOAD", x.needs(0, 1), 7);
        due.is("for 40", x.needs(0, 40), 7);
        // BUILD 9: 8 to bear on even DAYS, 11 on odd ones; above 9 BUILD is as much.
        due.is("above BUILD", x.needs(1, 1), 11);
        // BUILD 30: 16 and 19 to bear; 18 becomes 19.
        due.is("growing to it", x.needs(2, 1), 18);
        due.is("for 2", x.needs(2, 2), 18);
        x.days(1);
        due.is("on an odd DAY", x.needs(2, 40), 19);
        WoundMedals own = Due.of("5;b8:0@0,b9:0@0");
        due.is("his own", own.needs(0, 3), 8);
        due.is("nothing to bear", Due.of("5-5").needs(0, 40), 0);
        WoundMedals most = Due.of("60,1;r20:1@0,r20:1@0,r20:1@0,r20:1@0,r20:1@0");
        due.is("200", most.needs(0, 1), 200);
        most.medal(0, 1, 1);
        most.hang(5, 0);
        due.is("201", most.needs(0, 40), -4);
        due.is("nothing is changed", most.of(0, 1), 60);
        due.is("man 2", most.needs(2, 1), -1);
        due.is("man -1", most.needs(-1, 1), -1);
        due.is("n 0", most.needs(0, 0), -1);
        due.is("n 41", most.needs(0, 41), -1);
        for (int b : WRONG) {
            due.is("man " + b, most.needs(b, 1), -1);
            due.is("n " + b, most.needs(0, b), -1);
        }
    }

    private static void two() {
        due.part("promise 23");
        due.is("without MEDALS", new WoundMedals().two(0), -4);
        WoundMedals one = Due.of("9,9;b9:0@1,b9:1@1,b9:0");
        due.is("worn by one", one.two(0), -4);
        due.is("worn by one, LOADS", one.two(1), -4);
        WoundMedals x = Due.of("9,9,9;b9:0@1,b9:1@0,r9:2@0,b1:1@2");
        // 0 and 1: 4 (+18) and 4: 26. 0 and 2: man 1 18, man 0 4 + 9: 31. 0 and 3: man 1 0, man 2 9: 9.
        // 1 and 3: man 0 18 + 1, man 2 9: 28. 2 and 3: man 0 9 + 1, man 2 9: 19.
        due.is("which", x.two(0), 3);
        due.is("LOADS", x.two(1), 9);
        due.is("nothing is changed", x.at(0, 3), 1);
        WoundMedals like = Due.of("9,9,9;b5:2@0,b5:2@1,b5:2@0,b5:2@1");
        due.is("the first of like ones", like.two(0), 1);
        due.is("LOADS of all four", like.two(1), 20);
        WoundMedals greater = Due.of("9,9,9;b9:2@0,b9:2@0,b5:2@1,b5:2@2");
        // 0 and 2: 14 and 9; 2 and 3: 5, and 2 of his own.
        due.is("10 times 2, and 3", greater.two(0), 23);
        due.is("7 together", greater.two(1), 7);
        WoundMedals worse = Due.of("9,9;b9:0@0,b9:1@1");
        due.is("though it is worse then", worse.two(1), 18);
        due.is("0 and 1", worse.two(0), 1);
        due.is("two(2)", worse.two(2), -1);
        due.is("two(-1)", worse.two(-1), -1);
        for (int b : WRONG) {
            due.is("two(" + b + ")", worse.two(b), -1);
        }
    }

    private static void odds(WoundMedals x, int man, int above, int below) {
        due.is("error(" + man + ", 0)", x.error(man, 0), above);
        due.is("error(" + man + ", 1)", x.error(man, 1), below);
    }

    private static void error() {
        due.part("promise 24");
        odds(new WoundMedals(), -1, 1, 1);
        due.is("no man", new WoundMedals().error(0, 0), -1);
        WoundMedals none = Due.of("9,9;b9:0");
        odds(none, -1, 1, 1);
        odds(none, 0, 0, 1);
        WoundMedals x = Due.of("5,6,9;b6:2@0,b6:2@0,b3:0");
        // Man 0 is bent by any: 5 ways of 9. Man 1 by both: 1. Man 2 by none: 3 and 3 of his own.
        odds(x, 0, 5, 9);
        odds(x, 1, 1, 9);
        odds(x, 2, 0, 1);
        odds(x, -1, 1, 3);
        WoundMedals sure = Due.of("1;r20:0@0");
        odds(sure, 0, 1, 1);
        odds(sure, -1, 0, 1);
        WoundMedals half = Due.of("5,60;b6:1@1,b1:1");
        odds(half, 0, 1, 2);
        odds(half, -1, 1, 2);
        due.is("man 2", half.error(2, 0), -1);
        due.is("man -2", half.error(-2, 0), -1);
        due.is("what 2", half.error(0, 2), -1);
        due.is("what -1", half.error(-1, -1), -1);
        for (int b : WRONG) {
            due.is("man " + b, half.error(b, 0), -1);
            due.is("what " + b, half.error(-1, b), -1);
        }
        due.is("nothing is changed", half.at(0, 3), 1);
    }

    private static void image() {
        due.part("promises 25, 26");
        WoundMedals x = Due.of("9-4,20;f4:1@0,b8:0");
        due.is("there is none", x.restore(), -4);
        x.seed(321);
        x.days(3);
        x.sheet(1, 2, 5);
        due.is("image()", x.image(), 1);
        int strength = x.of(0, 1);
        x.seed(9);
        x.polish(0, 3);
        x.hang(1, 1);
        x.drift(12);
        x.type('7');
        x.sheet(1, 3, 7);
        x.man(33);
        x.medal(0, 5, 2);
        due.is("restore()", x.restore(), 1);
        int[] all = {2, 2, 3};
        for (int what = 0; what < 3; what++) {
            due.is("count(" + what + ")", x.count(what), all[what]);
        }
        due.is("STRENGTH", x.of(0, 1), strength);
        due.is("WEIGHT", x.at(0, 1), 4);
        due.is("in a DRAWER", x.at(1, 3), -4);
        due.is("THE DRAW", x.seed(321), 321);
        due.is("what may be UNDONE", x.count(7), 3);
        due.is("THE TAPE is not of it", x.type('8'), 2);
        due.is("SHEETS are not of it", x.drop(1), 7);
        due.is("UNDONE ahead of the image", x.undo(), 2);
        due.is("the DAY 2", x.count(2), 2);
        x.undo();
        x.undo();
        due.is("STRENGTH at first", x.of(0, 1), 5);
        Due.tell(x, "");
        due.is("BUILD 78 is none", x.count(0), 2);
        Due.tell(x, "3");
        due.is("restored again", x.restore(), 1);
        due.is("the DAY 3", x.count(2), 3);
        due.is("what may be UNDONE again", x.count(7), 3);
        x.days(9);
        x.image();
        x.days(9);
        x.restore();
        due.is("a later image", x.count(2), 12);
        due.is("8 of the later one", x.count(7), 8);
        x.undo();
        due.is("the DAY 11", x.count(2), 11);
    }
}
