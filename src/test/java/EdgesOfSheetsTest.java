/** The boundary cases of promises 27 to 32 and of what part 3 says of FELT and of sheets, a sentence each. */
public final class EdgesOfSheetsTest {
    /**
     * Sheet 0 has 24 ints 11 .. 34, sheet 1 five bytes 11 .. 15, sheet 2 no int, sheet 3 holds nothing. Man 2 has 13
     * and will have 14, 15 ..; he wears MEDAL 2.
     */
    private static final String RICH = Scenes.RICH + " | ";
    private static final String FULL = Scenes.FULL + " | ";
    private static final String[] FAR = {"MIN", "-1000", "1000", "MAX"};
    private static final int ALL_WEIGHTS = 2097150;
    private static final Due due = new Due();

    public static void main(String[] args) {
        feltAsTold();
        feltRefusedByTheSheet();
        feltOrder();
        feltKindsWeightsWounds();
        feltTakesJustThese();
        filmAsTold();
        filmRefusedByTheSheet();
        filmPutsJustThese();
        sheetAsTold();
        sheetIsNew();
        drop();
        itemAsTold();
        itemByLanes();
        copyAsTold();
        copyRefusedByTheSheets();
        copyJustThese();
        copyOverItself();
        due.end();
    }

    /** Item i of a sheet is that number, 0 .. 60. Whatever is on the tape is told first, so that it is empty. */
    private static void holds(String run, int sheet, int lane, int i, int number) {
        String text = number == 0 ? "1,1;b1:0,b20:1@0" : number + ";b1:0";
        due.run(run + " | state() | '" + text + "' | state() | felt(0, 0, " + sheet + ", " + lane + ", " + i + ", 1, 0)", 31);
    }

    /** Item i of a sheet is none of 0 .. 60 that this might be taken for. */
    private static void holdsNot(String run, int sheet, int lane, int i, int number) {
        due.run(run + " | state() | '" + number + ";b1:0' | state() | felt(0, 0, " + sheet + ", " + lane + ", " + i + ", 1, 0)", 0);
    }

    private static void feltAsTold() {
        due.part("promise 27: all as told");
        due.leaves(RICH + "felt(2, 0, 0, 2, 3, 1, 0)", 31);
        due.part("promise 27: BAD, no such man");
        due.leaves(RICH + "felt(-1, 0, 0, 2, 3, 1, 0)", -1);
        due.leaves(RICH + "felt(3, 0, 0, 2, 3, 1, 0)", -1);
        due.part("promise 27: BAD, no such MEDAL");
        due.leaves(RICH + "felt(2, -1, 0, 2, 3, 1, 0)", -1);
        due.leaves(RICH + "felt(2, 5, 0, 2, 3, 1, 0)", -1);
        due.leaves(RICH + "felt(2, 4, 0, 2, 3, 1, 0)", 31);
        due.part("promise 27: BAD, sheets are 0 .. 3");
        due.leaves(RICH + "felt(2, 0, -1, 2, 3, 1, 0)", -1);
        due.leaves(RICH + "felt(2, 0, 4, 2, 3, 1, 0)", -1);
        due.run(RICH + "sheet(3, 2, 4) | item(3, 2, 3, 14) | felt(2, 0, 3, 2, 3, 1, 0)", 31);
        due.part("promise 27: BAD, lanes are 0 .. 3");
        due.leaves(RICH + "felt(2, 0, 0, -1, 3, 1, 0)", -1);
        due.leaves(RICH + "felt(2, 0, 0, 4, 3, 1, 0)", -1);
        due.run(RICH + "felt(2, 0, 1, 0, 3, 1, 0)", 31);
        due.run(RICH + "sheet(3, 3, 4) | item(3, 3, 3, 14) | felt(2, 0, 3, 3, 3, 1, 0)", 31);
        due.part("promise 27: BAD, n is 1 .. 8");
        due.leaves(RICH + "felt(2, 0, 0, 2, 3, 0, 0)", -1);
        due.leaves(RICH + "felt(2, 0, 0, 2, 3, -1, 0)", -1);
        due.leaves(RICH + "felt(2, 0, 0, 2, 3, 9, 0)", -1);
        due.leaves(RICH + "felt(2, 0, 0, 2, 3, 8, 0)", 31);
        due.part("promise 27: BAD, what is 0 .. 2");
        due.leaves(RICH + "felt(2, 0, 0, 2, 3, 1, -1)", -1);
        due.leaves(RICH + "felt(2, 0, 0, 2, 3, 1, 3)", -1);
        due.leaves(RICH + "felt(2, 0, 0, 2, 3, 1, 2)", 7);
        for (String far : FAR) {
            due.leaves(RICH + "felt(" + far + ", 0, 0, 2, 3, 1, 0)", -1);
            due.leaves(RICH + "felt(2, " + far + ", 0, 2, 3, 1, 0)", -1);
            due.leaves(RICH + "felt(2, 0, " + far + ", 2, 3, 1, 0)", -1);
            due.leaves(RICH + "felt(2, 0, 0, " + far + ", 3, 1, 0)", -1);
            due.leaves(RICH + "felt(2, 0, 0, 2, 3, " + far + ", 0)", -1);
            due.leaves(RICH + "felt(2, 0, 0, 2, 3, 1, " + far + ")", -1);
        }
    }

    private static void feltRefusedByTheSheet() {
        due.part("promise 27: NULL, a SHEET that holds nothing");
        due.leaves(RICH + "felt(2, 0, 3, 2, 0, 1, 0)", -11);
        due.leaves(RICH + "drop(0) | felt(2, 0, 0, 2, 0, 1, 0)", -11);
        due.part("promise 27: CAST, another LANE");
        for (int lane = 0; lane < 4; lane++) {
            due.leaves(RICH + "felt(2, 0, 0, " + lane + ", 3, 1, 0)", lane == 2 ? 31 : -12);
            due.leaves(RICH + "felt(2, 0, 1, " + lane + ", 3, 1, 0)", lane == 0 ? 31 : -12);
        }
        due.part("promise 27: INDEX");
        due.leaves(RICH + "felt(2, 0, 0, 2, -1, 1, 0)", -13);
        due.leaves(RICH + "felt(2, 0, 0, 2, 0, 1, 0)", 0);
        due.leaves(RICH + "felt(2, 0, 0, 2, 23, 1, 0)", 0);
        due.leaves(RICH + "felt(2, 0, 0, 2, 24, 1, 0)", -13);
        due.leaves(RICH + "felt(2, 0, 0, 2, 16, 8, 0)", 0);
        due.leaves(RICH + "felt(2, 0, 0, 2, 17, 8, 0)", -13);
        due.leaves(RICH + "felt(2, 0, 1, 0, 3, 2, 0)", 31);
        due.leaves(RICH + "felt(2, 0, 1, 0, 3, 3, 0)", -13);
        due.leaves(RICH + "felt(2, 0, 2, 2, 0, 1, 0)", -13);
        due.leaves(RICH + "felt(2, 0, 0, 2, -8, 8, 0)", -13);
        for (String far : FAR) {
            due.leaves(RICH + "felt(2, 0, 0, 2, " + far + ", 8, 0)", -13);
        }
    }

    private static void feltOrder() {
        due.part("Terms: BAD ahead of NULL, CAST, INDEX");
        String[] bad = {"felt(3, 0, %s, 1)", "felt(2, 5, %s, 1)", "felt(2, 0, %s, 3)"};
        for (String at : new String[] {"3, 2, 0, 1", "0, 3, 0, 1", "0, 2, 24, 1"}) {
            for (String call : bad) {
                due.leaves(RICH + String.format(call, at), -1);
            }
        }
        due.leaves(RICH + "felt(2, 0, 3, 4, 0, 1, 0)", -1);
        due.leaves(RICH + "felt(2, 0, 3, 2, 99, 9, 0)", -1);
        due.leaves(RICH + "felt(2, 0, 0, 3, 99, 0, 0)", -1);
        due.part("Terms: NULL ahead of INDEX, CAST ahead of INDEX");
        due.leaves(RICH + "felt(2, 0, 3, 2, -1, 1, 0)", -11);
        due.leaves(RICH + "felt(2, 0, 3, 0, 99, 1, 0)", -11);
        due.leaves(RICH + "felt(2, 0, 0, 3, -1, 1, 0)", -12);
        due.leaves(RICH + "felt(2, 0, 2, 1, 0, 1, 0)", -12);
    }

    /** What one item tells of a man and MEDAL 0. */
    private static void felt(String text, int item, int what, int want) {
        due.leaves("'" + text + "' | state() | sheet(0, 0, 1) | item(0, 0, 0, " + item + ") | felt(0, 0, 0, 0, 0, 1, " + what + ")", want);
    }

    private static void feltKindsWeightsWounds() {
        due.part("part 3: WEIGHTS (1 .. 20, a set of bits 1 .. 20)");
        felt("30-10,9;b1:1@0", 21, 1, ALL_WEIGHTS);
        felt("30-10,9;b1:1@0", 19, 1, 0);
        felt("30-11,9;b1:1@0", 18, 1, 1 << 20);
        felt("30-11,9;b1:1@0", 20, 1, ALL_WEIGHTS - (1 << 20));
        felt("30-30,9;b9:1@0", 1, 1, 0);
        felt("30-30,9;b9:1@0", 0, 1, ALL_WEIGHTS);
        felt("30-29,9;b9:1@0", 2, 1, 2);
        felt("30-29,9;b9:1@0", 0, 1, ALL_WEIGHTS - 2);
        due.part("part 3: KINDS (a set)");
        // 10 bears 10, 20, 10, 20, 5 on an even DAY.
        felt("30-25,9;b10:1@0", 6, 0, 16);
        felt("30-26,9;b10:1@0", 5, 0, 0);
        felt("30-26,9;b10:1@0", 3, 0, 31);
        felt("30-20,9;b10:1@0", 11, 0, 1 | 4 | 16);
        felt("30-20,9;b10:1@0", 9, 0, 2 | 8);
        felt("30-10,9;b10:1@0", 21, 0, 31);
        felt("30-11,9;b10:1@0", 18, 0, 2 | 8);
        felt("30-10,9;r10:1@0,b1:0@0", 19, 0, 8);
        due.part("part 3: whose WOUND it might be (MEN, a set)");
        felt("30-20,9;b20:1@0", 11, 2, 1);
        felt("30-20,9;b20:1@0", 9, 2, 2);
        felt("30-20;b20:0@0", 11, 2, 1);
        felt("30-20;b20:0@0", 9, 2, 0);
        felt("30-20,1,1,1,1;b20:1@0", 9, 2, 30);
        felt("30-20,1,1,1,1;b20:1@0", 11, 2, 1);
        due.part("part 3: of a MEDAL that he does not wear");
        for (int men = 1; men < 6; men++) {
            String text = "30-20" + ",1".repeat(men - 1) + ";b20:0";
            felt(text, 11, 0, 31);
            felt(text, 11, 1, ALL_WEIGHTS);
            felt(text, 11, 2, (1 << men) - 1);
            felt(text, 10, 0, 0);
            felt(text, 10, 1, 0);
            felt(text, 10, 2, 0);
        }
        felt("30-20,9;b20:1@1", 11, 1, ALL_WEIGHTS);
        due.part("part 3: STRENGTH is 0 .. BUILD");
        felt("30,9;b1:1", 30, 0, 31);
        felt("30,9;b1:1", 31, 0, 0);
        felt("30-30,9;b1:1@0", 0, 0, 1 | 2 | 4 | 8);
        felt("30-30,9;b1:1@0", -1, 0, 0);
        due.part("promise 27: as told of it now");
        due.run(FULL + "felt(2, 2, 0, 2, 3, 8, 0)", 31);
    }

    private static void feltTakesJustThese() {
        due.part("promise 27: n items from item i on");
        String row = "'60-50;b1:0' | state() | sheet(0, 3, 10) | film(0, 9, 0, 3, 0) | item(0, 3, 0, 99) | 'x' | state() | '60-49;b1:0' | state() | ";
        due.run(row + "felt(0, 0, 0, 3, 1, 8, 0)", 31);
        due.run(row + "felt(0, 0, 0, 3, 0, 1, 0)", 0);
        due.run(row + "item(0, 3, 8, 99) | felt(0, 0, 0, 3, 1, 8, 0)", 0);
        due.run(row + "item(0, 3, 8, 99) | felt(0, 0, 0, 3, 1, 7, 0)", 31);
        due.run(row + "item(0, 3, 9, 99) | felt(0, 0, 0, 3, 1, 8, 0)", 31);
        due.run(row + "item(0, 3, 1, 99) | felt(0, 0, 0, 3, 1, 8, 0)", 0);
        due.run(row + "item(0, 3, 2, 99) | felt(0, 0, 0, 3, 1, 1, 0)", 31);
        due.part("part 3: behind each of the next n DAYS");
        // FOREIGN of 5 bears 5 on even DAYS, 8 on odd ones.
        String days = "'9-4,9;b5:1@0' | state() | sheet(0, 1, 2) | item(0, 1, 0, 6) | item(0, 1, 1, 5) | ";
        due.run(days + "felt(0, 0, 0, 1, 0, 1, 0)", 1 | 4 | 16);
        due.run(days + "felt(0, 0, 0, 1, 0, 2, 0)", 4);
        due.run(days + "item(0, 1, 1, 7) | felt(0, 0, 0, 1, 0, 2, 0)", 1 | 16);
    }

    private static void filmAsTold() {
        due.part("promise 28: BAD, no such man");
        due.leaves(RICH + "film(-1, 1, 0, 2, 0)", -1);
        due.leaves(RICH + "film(3, 1, 0, 2, 0)", -1);
        due.run(RICH + "film(0, 1, 0, 2, 0)", 1);
        due.run(RICH + "film(2, 1, 0, 2, 0)", 1);
        due.part("promise 28: BAD, n is 1 .. 24");
        due.leaves(RICH + "film(2, 0, 0, 2, 0)", -1);
        due.leaves(RICH + "film(2, -1, 0, 2, 0)", -1);
        due.leaves(RICH + "film(2, 25, 0, 2, 0)", -1);
        due.run(RICH + "film(2, 24, 0, 2, 0)", 24);
        due.part("promise 28: BAD, sheets are 0 .. 3, lanes are 0 .. 3");
        due.leaves(RICH + "film(2, 1, -1, 2, 0)", -1);
        due.leaves(RICH + "film(2, 1, 4, 2, 0)", -1);
        due.leaves(RICH + "film(2, 1, 0, -1, 0)", -1);
        due.leaves(RICH + "film(2, 1, 0, 4, 0)", -1);
        for (int lane = 0; lane < 4; lane++) {
            due.run(RICH + "sheet(3, " + lane + ", 24) | film(2, 24, 3, " + lane + ", 0)", 24);
        }
        for (String far : FAR) {
            due.leaves(RICH + "film(" + far + ", 1, 0, 2, 0)", -1);
            due.leaves(RICH + "film(2, " + far + ", 0, 2, 0)", -1);
            due.leaves(RICH + "film(2, 1, " + far + ", 2, 0)", -1);
            due.leaves(RICH + "film(2, 1, 0, " + far + ", 0)", -1);
        }
    }

    private static void filmRefusedByTheSheet() {
        due.part("promise 28: NULL");
        due.leaves(RICH + "film(2, 1, 3, 2, 0)", -11);
        due.part("promise 28: CAST");
        due.leaves(RICH + "film(2, 1, 0, 0, 0)", -12);
        due.leaves(RICH + "film(2, 1, 0, 1, 0)", -12);
        due.leaves(RICH + "film(2, 1, 0, 3, 0)", -12);
        due.leaves(RICH + "film(2, 1, 1, 2, 0)", -12);
        due.part("promise 28: INDEX");
        due.leaves(RICH + "film(2, 1, 0, 2, -1)", -13);
        due.leaves(RICH + "film(2, 1, 0, 2, 24)", -13);
        due.run(RICH + "film(2, 1, 0, 2, 23)", 1);
        due.leaves(RICH + "film(2, 24, 0, 2, 1)", -13);
        due.leaves(RICH + "film(2, 24, 0, 2, -1)", -13);
        due.leaves(RICH + "film(2, 8, 0, 2, 17)", -13);
        due.run(RICH + "film(2, 8, 0, 2, 16)", 8);
        due.leaves(RICH + "film(2, 6, 1, 0, 0)", -13);
        due.run(RICH + "film(2, 5, 1, 0, 0)", 5);
        due.leaves(RICH + "film(2, 1, 2, 2, 0)", -13);
        for (String far : FAR) {
            due.leaves(RICH + "film(2, 24, 0, 2, " + far + ")", -13);
        }
        due.part("Terms: BAD, NULL, CAST, INDEX in this order");
        due.leaves(RICH + "film(3, 1, 3, 2, 99)", -1);
        due.leaves(RICH + "film(2, 25, 3, 2, 99)", -1);
        due.leaves(RICH + "film(2, 25, 0, 3, 99)", -1);
        due.leaves(RICH + "film(2, 25, 0, 2, 0)", -1);
        due.leaves(RICH + "film(2, 1, 3, 2, 99)", -11);
        due.leaves(RICH + "film(2, 1, 0, 3, 99)", -12);
        due.leaves(RICH + "film(2, 1, 2, 3, 0)", -12);
    }

    private static void filmPutsJustThese() {
        due.part("promise 28: behind 1, 2, .. n DAYS, an item each");
        String run = Scenes.RICH + " | film(2, 3, 0, 2, 10)";
        int[] items = {20, 14, 15, 16, 24};
        for (int i = 0; i < 5; i++) {
            holds(run, 0, 2, 9 + i, items[i]);
        }
        for (int lane = 0; lane < 4; lane++) {
            String other = "'60,9;b9:0@1' | state() | sheet(2, " + lane + ", 24) | film(0, 24, 2, " + lane + ", 0) | film(1, 22, 2, " + lane + ", 2)";
            holds(other, 2, lane, 1, 60);
            holds(other, 2, lane, 2, 9);
            holds(other, 2, lane, 23, 9);
        }
        due.part("promise 28: 0 at least, BUILD at most");
        String low = "'2,9-1;b20:0@0,r20:0@0' | state() | sheet(0, 0, 3) | film(0, 3, 0, 0, 0)";
        holds(low, 0, 0, 0, 1);
        holds(low, 0, 0, 1, 0);
        holds(low, 0, 0, 2, 0);
        String high = "'2,9-1' | state() | sheet(0, 0, 2) | film(1, 2, 0, 0, 0)";
        holds(high, 0, 0, 0, 9);
        holds(high, 0, 0, 1, 9);
        due.part("promise 28: all but the SHEET stays");
        due.run(RICH + "film(2, 24, 0, 2, 0) | count(2)", 3);
        due.run(RICH + "film(2, 24, 0, 2, 0) | of(2, 1)", 13);
        due.run(RICH + "film(2, 24, 0, 2, 0) | count(7)", 5);
        due.run(RICH + "film(2, 24, 0, 2, 0) | type(48)", 3);
    }

    private static void sheetAsTold() {
        due.part("promise 29: BAD, sheets are 0 .. 3, lanes are 0 .. 3");
        due.leaves(RICH + "sheet(-1, 0, 1)", -1);
        due.leaves(RICH + "sheet(4, 0, 1)", -1);
        due.leaves(RICH + "sheet(0, -1, 1)", -1);
        due.leaves(RICH + "sheet(0, 4, 1)", -1);
        for (int sheet = 0; sheet < 4; sheet++) {
            for (int lane = 0; lane < 4; lane++) {
                due.run(RICH + "sheet(" + sheet + ", " + lane + ", 7)", 7);
                due.run(RICH + "sheet(" + sheet + ", " + lane + ", 7) | item(" + sheet + ", " + lane + ", 6, 1)", 1);
                due.run(RICH + "sheet(" + sheet + ", " + lane + ", 7) | item(" + sheet + ", " + (3 - lane) + ", 6, 1)", -12);
            }
        }
        due.part("promise 29: BAD, also n above 24");
        due.leaves(RICH + "sheet(0, 2, 25)", -1);
        due.leaves(RICH + "sheet(3, 2, 25)", -1);
        due.leaves(RICH + "sheet(0, 2, MAX)", -1);
        due.run(RICH + "sheet(0, 2, 24)", 24);
        due.run(RICH + "sheet(0, 2, 24) | drop(0)", 24);
        due.part("promise 29: SIZE, n below 0");
        due.leaves(RICH + "sheet(0, 2, -1)", -14);
        due.leaves(RICH + "sheet(3, 2, -1)", -14);
        due.leaves(RICH + "sheet(0, 2, MIN)", -14);
        due.run(RICH + "sheet(0, 2, 0)", 0);
        due.run(RICH + "sheet(0, 2, 0) | drop(0)", 0);
        due.part("Terms: BAD ahead of SIZE");
        due.leaves(RICH + "sheet(4, 2, -1)", -1);
        due.leaves(RICH + "sheet(-1, 2, MIN)", -1);
        due.leaves(RICH + "sheet(0, 4, -1)", -1);
        due.leaves(RICH + "sheet(0, -1, MIN)", -1);
        for (String far : FAR) {
            due.leaves(RICH + "sheet(" + far + ", 0, 1)", -1);
            due.leaves(RICH + "sheet(0, " + far + ", 1)", -1);
        }
    }

    private static void sheetIsNew() {
        due.part("promise 29: a new row");
        for (int i = 0; i < 24; i += 23) {
            holds(Scenes.RICH + " | sheet(0, 2, 24)", 0, 2, i, 0);
            holds(Scenes.RICH + " | drop(0) | sheet(0, 2, 24)", 0, 2, i, 0);
            holds(Scenes.RICH + " | sheet(0, 3, 24)", 0, 3, i, 0);
            holds(Scenes.RICH + " | sheet(0, 2, 1) | sheet(0, 2, 24)", 0, 2, i, 0);
        }
        due.run(RICH + "sheet(0, 0, 3) | item(0, 2, 0, 1)", -12);
        due.run(RICH + "sheet(0, 2, 3) | item(0, 2, 3, 1)", -13);
        due.run(RICH + "sheet(0, 2, 3) | item(0, 2, 2, 1)", 1);
        due.part("promise 29: the others stay");
        due.run(RICH + "sheet(0, 0, 3) | drop(1)", 5);
        holds(Scenes.RICH + " | sheet(0, 0, 24)", 1, 0, 4, 15);
        due.part("part 3: of 0 items");
        due.run(RICH + "sheet(3, 1, 0) | item(3, 1, 0, 1)", -13);
        due.run(RICH + "sheet(3, 1, 0) | copy(3, 0, 3, 0, 0)", 0);
    }

    private static void drop() {
        due.part("promise 30: BAD, sheets are 0 .. 3");
        due.leaves(RICH + "drop(-1)", -1);
        due.leaves(RICH + "drop(4)", -1);
        for (String far : FAR) {
            due.leaves(RICH + "drop(" + far + ")", -1);
        }
        due.part("promise 30: how many items it had");
        due.run(RICH + "drop(0)", 24);
        due.run(RICH + "drop(1)", 5);
        due.run(RICH + "drop(2)", 0);
        due.part("promise 30: NULL");
        due.leaves(RICH + "drop(3)", -11);
        due.leaves(RICH + "drop(0) | drop(0)", -11);
        due.leaves(RICH + "drop(2) | drop(2)", -11);
        due.part("promise 30: a SHEET holds nothing, the others stay");
        due.run(RICH + "drop(0) | item(0, 2, 0, 1)", -11);
        due.run(RICH + "drop(0) | copy(0, 0, 2, 0, 0)", -11);
        due.run(RICH + "drop(0) | film(2, 1, 0, 2, 0)", -11);
        due.run(RICH + "drop(0) | drop(1)", 5);
        due.run(RICH + "drop(0) | drop(2)", 0);
    }

    private static void itemAsTold() {
        due.part("promise 31: BAD, sheets are 0 .. 3, lanes are 0 .. 3");
        due.leaves(RICH + "item(-1, 2, 0, 1)", -1);
        due.leaves(RICH + "item(4, 2, 0, 1)", -1);
        due.leaves(RICH + "item(0, -1, 0, 1)", -1);
        due.leaves(RICH + "item(0, 4, 0, 1)", -1);
        for (String far : FAR) {
            due.leaves(RICH + "item(" + far + ", 2, 0, 1)", -1);
            due.leaves(RICH + "item(0, " + far + ", 0, 1)", -1);
            due.leaves(RICH + "item(0, 2, " + far + ", 1)", -13);
        }
        due.part("promise 31: NULL");
        due.leaves(RICH + "item(3, 2, 0, 1)", -11);
        due.part("promise 31: CAST");
        for (int lane = 0; lane < 4; lane++) {
            due.run(RICH + "item(0, " + lane + ", 0, 1)", lane == 2 ? 1 : -12);
            due.run(RICH + "item(1, " + lane + ", 0, 1)", lane == 0 ? 1 : -12);
        }
        due.leaves(RICH + "item(0, 3, 0, 1)", -12);
        due.part("promise 31: INDEX");
        due.leaves(RICH + "item(0, 2, -1, 1)", -13);
        due.leaves(RICH + "item(0, 2, 24, 1)", -13);
        due.run(RICH + "item(0, 2, 0, 1)", 1);
        due.run(RICH + "item(0, 2, 23, 1)", 1);
        due.leaves(RICH + "item(1, 0, 5, 1)", -13);
        due.run(RICH + "item(1, 0, 4, 1)", 1);
        due.leaves(RICH + "item(2, 2, 0, 1)", -13);
        due.part("Terms: BAD, NULL, CAST, INDEX in this order");
        due.leaves(RICH + "item(3, 4, 99, 1)", -1);
        due.leaves(RICH + "item(4, 4, 99, 1)", -1);
        due.leaves(RICH + "item(3, 2, 99, 1)", -11);
        due.leaves(RICH + "item(3, 0, -1, 1)", -11);
        due.leaves(RICH + "item(0, 1, 99, 1)", -12);
        due.leaves(RICH + "item(2, 0, 0, 1)", -12);
        due.part("promise 31: item i becomes v, the others stay");
        holds(Scenes.RICH + " | item(0, 2, 5, 44)", 0, 2, 5, 44);
        holds(Scenes.RICH + " | item(0, 2, 5, 44)", 0, 2, 4, 15);
        holds(Scenes.RICH + " | item(0, 2, 5, 44)", 0, 2, 6, 17);
        holds(Scenes.RICH + " | item(0, 2, 0, 0)", 0, 2, 0, 0);
        due.run(RICH + "item(0, 2, 5, 44) | count(7)", 5);
    }

    /** Beyond so many bits a lane holds nothing; with its highest one an item is another number. */
    private static void itemByLanes() {
        due.part("promise 31: v, its lowest bits");
        for (int lane = 0; lane < 3; lane++) {
            int bits = 8 << lane;
            String row = "'9' | state() | sheet(0, " + lane + ", 2) | item(0, " + lane + ", 1, ";
            holds(row + ((1L << bits) + 9) + ")", 0, lane, 1, 9);
            holds(row + (9 - (1L << bits)) + ")", 0, lane, 1, 9);
            holds(row + ((1L << 62) + 9) + ")", 0, lane, 1, 9);
            holds(row + (Long.MIN_VALUE + 60) + ")", 0, lane, 1, 60);
            holds(row + (1L << bits) + ")", 0, lane, 1, 0);
            holds(row + Long.MIN_VALUE + ")", 0, lane, 1, 0);
            holdsNot(row + ((1L << bits - 1) + 9) + ")", 0, lane, 1, 9);
            holdsNot(row + (9 - (1L << bits - 1)) + ")", 0, lane, 1, 9);
            holdsNot(row + ((1L << bits - 2) + 9) + ")", 0, lane, 1, 9);
            holdsNot(row + Long.MAX_VALUE + ")", 0, lane, 1, 60);
        }
        String longs = "'9' | state() | sheet(0, 3, 2) | item(0, 3, 1, ";
        holds(longs + "9)", 0, 3, 1, 9);
        for (int bit : new int[] {8, 16, 31, 32, 40, 62}) {
            holdsNot(longs + ((1L << bit) + 9) + ")", 0, 3, 1, 9);
            holdsNot(longs + (9 - (1L << bit)) + ")", 0, 3, 1, 9);
        }
        holdsNot(longs + (Long.MIN_VALUE + 9) + ")", 0, 3, 1, 9);
        due.part("promise 32: as many bits come over");
        holdsNot(longs + ((1L << 40) + 9) + ") | sheet(1, 3, 2) | copy(0, 1, 1, 0, 1)", 1, 3, 0, 9);
        holds(longs + "9) | sheet(1, 3, 2) | copy(0, 1, 1, 0, 1)", 1, 3, 0, 9);
    }

    private static void copyAsTold() {
        due.part("promise 32: BAD, sheets are 0 .. 3");
        due.leaves(RICH + "copy(-1, 0, 0, 0, 1)", -1);
        due.leaves(RICH + "copy(4, 0, 0, 0, 1)", -1);
        due.leaves(RICH + "copy(0, 0, -1, 0, 1)", -1);
        due.leaves(RICH + "copy(0, 0, 4, 0, 1)", -1);
        for (String far : FAR) {
            due.leaves(RICH + "copy(" + far + ", 0, 0, 0, 1)", -1);
            due.leaves(RICH + "copy(0, 0, " + far + ", 0, 1)", -1);
        }
        due.run(RICH + "sheet(3, 2, 1) | copy(0, 0, 3, 0, 1)", 1);
        due.run(RICH + "sheet(3, 2, 1) | copy(3, 0, 0, 0, 1)", 1);
        due.part("promise 32: NULL (either)");
        due.leaves(RICH + "copy(0, 0, 3, 0, 1)", -11);
        due.leaves(RICH + "copy(3, 0, 0, 0, 1)", -11);
        due.leaves(RICH + "copy(3, 0, 3, 0, 1)", -11);
        due.leaves(RICH + "copy(3, 0, 3, 0, 0)", -11);
        due.part("promise 32: CAST, of unlike LANES");
        due.leaves(RICH + "copy(0, 0, 1, 0, 1)", -12);
        due.leaves(RICH + "copy(1, 0, 0, 0, 1)", -12);
        due.leaves(RICH + "copy(1, 0, 2, 0, 0)", -12);
        for (int lane = 0; lane < 4; lane++) {
            due.run(RICH + "sheet(3, " + lane + ", 1) | copy(0, 0, 3, 0, 1)", lane == 2 ? 1 : -12);
            due.run(RICH + "sheet(3, " + lane + ", 1) | copy(3, 0, 1, 0, 1)", lane == 0 ? 1 : -12);
        }
        due.part("Terms: BAD, NULL, CAST, INDEX in this order");
        due.leaves(RICH + "copy(4, 0, 3, 0, 1)", -1);
        due.leaves(RICH + "copy(3, 99, 4, 99, 1)", -1);
        due.leaves(RICH + "copy(0, 99, 3, 0, 1)", -11);
        due.leaves(RICH + "copy(3, 0, 0, 99, 1)", -11);
        due.leaves(RICH + "copy(0, 99, 1, 0, 1)", -12);
        due.leaves(RICH + "copy(0, 0, 1, 99, 1)", -12);
        due.leaves(RICH + "copy(1, 0, 2, 0, -1)", -12);
    }

    private static void copyRefusedByTheSheets() {
        String two = Scenes.RICH + " | sheet(3, 2, 4) | copy(0, 0, 3, 0, 4) | ";
        due.part("promise 32: INDEX of the one it is taken from");
        due.leaves(two + "copy(3, -1, 0, 0, 1)", -13);
        due.leaves(two + "copy(3, 4, 0, 0, 1)", -13);
        due.run(two + "copy(3, 3, 0, 0, 1)", 1);
        due.leaves(two + "copy(3, 3, 0, 0, 2)", -13);
        due.leaves(two + "copy(3, 0, 0, 0, 5)", -13);
        due.run(two + "copy(3, 0, 0, 0, 4)", 4);
        due.leaves(two + "copy(2, 0, 0, 0, 1)", -13);
        due.part("promise 32: INDEX of the one it comes to");
        due.leaves(two + "copy(0, 9, 3, -1, 1)", -13);
        due.leaves(two + "copy(0, 9, 3, 4, 1)", -13);
        due.run(two + "copy(0, 9, 3, 3, 1)", 1);
        due.leaves(two + "copy(0, 9, 3, 3, 2)", -13);
        due.leaves(two + "copy(0, 9, 3, 0, 5)", -13);
        due.run(two + "copy(0, 9, 3, 0, 4)", 4);
        due.leaves(two + "copy(0, 9, 2, 0, 1)", -13);
        due.leaves(two + "copy(0, 9, 0, 24, 1)", -13);
        due.leaves(two + "copy(0, 0, 0, 1, 24)", -13);
        due.part("promise 32: INDEX, far away");
        for (String far : FAR) {
            due.leaves(two + "copy(0, " + far + ", 3, 0, 1)", -13);
            due.leaves(two + "copy(0, 0, 3, " + far + ", 1)", -13);
            due.leaves(two + "copy(0, 0, 3, 0, " + far + ")", -13);
            due.leaves(two + "copy(0, " + far + ", 3, " + far + ", " + far + ")", -13);
        }
        due.leaves(two + "copy(0, 1, 3, 1, MAX)", -13);
        due.part("promise 32: no items");
        due.leaves(two + "copy(0, 0, 3, 0, 0)", 0);
        due.leaves(two + "copy(0, 24, 3, 4, 0)", 0);
        due.leaves(two + "copy(2, 0, 2, 0, 0)", 0);
        due.leaves(two + "copy(0, 25, 3, 0, 0)", -13);
        due.leaves(two + "copy(0, 0, 3, 5, 0)", -13);
        due.leaves(two + "copy(0, -1, 3, 0, 0)", -13);
        due.leaves(two + "copy(0, 0, 3, 0, -1)", -13);
    }

    private static void copyJustThese() {
        due.part("promise 32: n items from i on come from j on");
        String run = Scenes.RICH + " | sheet(3, 2, 4) | copy(0, 21, 3, 1, 2)";
        int[] items = {0, 32, 33, 0};
        for (int i = 0; i < 4; i++) {
            holds(run, 3, 2, i, items[i]);
        }
        holds(run, 0, 2, 21, 32);
        holds(Scenes.RICH + " | sheet(3, 2, 4) | copy(0, 20, 3, 0, 4)", 3, 2, 0, 31);
        holds(Scenes.RICH + " | sheet(3, 2, 4) | copy(0, 20, 3, 0, 4)", 3, 2, 3, 34);
        due.part("promise 32: a row for itself then");
        holds(Scenes.RICH + " | sheet(3, 2, 4) | copy(0, 20, 3, 0, 4) | item(0, 2, 20, 1)", 3, 2, 0, 31);
        due.run(RICH + "sheet(3, 2, 4) | copy(0, 20, 3, 0, 4) | drop(0) | drop(3)", 4);
    }

    private static void copyOverItself() {
        due.part("promise 32: or the same, as if all were taken ahead");
        for (int lane = 0; lane < 4; lane++) {
            String row = "'60-50' | state() | sheet(1, " + lane + ", 24) | film(0, 24, 1, " + lane + ", 0)";
            String up = row + " | copy(1, 0, 1, 1, 23)";
            holds(up, 1, lane, 0, 11);
            holds(up, 1, lane, 1, 11);
            holds(up, 1, lane, 2, 12);
            holds(up, 1, lane, 23, 33);
            String down = row + " | copy(1, 1, 1, 0, 23)";
            holds(down, 1, lane, 0, 12);
            holds(down, 1, lane, 22, 34);
            holds(down, 1, lane, 23, 34);
        }
        due.leaves(RICH + "copy(0, 0, 0, 0, 24)", 24);
        due.leaves(RICH + "copy(0, 3, 0, 3, 9)", 9);
    }
}
