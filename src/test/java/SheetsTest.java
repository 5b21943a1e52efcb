/** Promises 27 to 32: what is felt, and sheets that may be missing. */
public final class SheetsTest {
    private static final int[] WRONG = {-1, 4, Integer.MIN_VALUE, Integer.MAX_VALUE};
    private static final Due due = new Due();

    public static void main(String[] args) {
        felt();
        feltByLanes();
        feltRefuses();
        film();
        sheet();
        drop();
        item();
        copy();
        copyOverItself();
        due.end();
    }

    private static WoundMedals two() {
        return Due.of("20-10,20;b9:1@0,b2:0@0,b5:0@1,b5:0");
    }

    private static void items(WoundMedals x, int sheet, int lane, long... values) {
        for (int i = 0; i < values.length; i++) {
            x.item(sheet, lane, i, values[i]);
        }
    }

    private static void felt() {
        due.part("promise 27");
        WoundMedals x = two();
        x.sheet(0, 2, 8);
        // He has 10 and bears 9 and 1: not bent.
        items(x, 0, 2, 11, 12, 13);
        // BARRED 18, FOREIGN 9 then 12 (11 against 13), PLATE 19, MINIATURE 4 then 6.
        due.is("KINDS for 1 DAY", x.felt(0, 0, 0, 2, 0, 1, 0), 1 | 4 | 16);
        due.is("KINDS for 2 DAYS", x.felt(0, 0, 0, 2, 0, 2, 0), 1 | 16);
        due.is("WEIGHTS 1 .. 9", x.felt(0, 0, 0, 2, 0, 1, 1), 1022);
        due.is("WEIGHTS 1 .. 9 for 3", x.felt(0, 0, 0, 2, 0, 3, 1), 1022);
        due.is("WOUNDS", x.felt(0, 0, 0, 2, 0, 1, 2), 3);
        items(x, 0, 2, 9, 8);
        due.is("KINDS that bend", x.felt(0, 0, 0, 2, 0, 1, 0), 2 | 8);
        due.is("WEIGHTS that bend", x.felt(0, 0, 0, 2, 0, 2, 1), 2097150 - 1022);
        due.is("WOUNDS that bend", x.felt(0, 0, 0, 2, 0, 2, 2), 0);
        items(x, 0, 2, 9, 10);
        due.is("KINDS that bend once", x.felt(0, 0, 0, 2, 0, 2, 0), 0);
        x.polish(0, 8);
        items(x, 0, 2, 9, 8);
        // 17 of another bends him, half of 17 of his own does not.
        due.is("whose it is", x.felt(0, 0, 0, 2, 0, 2, 2), 2);
        items(x, 0, 2, 11, 12);
        due.is("whose it is else", x.felt(0, 0, 0, 2, 0, 2, 2), 1);
        x.undo();
        due.is("of one that he does not wear", x.felt(0, 2, 0, 2, 0, 2, 0), 31);
        due.is("WEIGHTS of one in a DRAWER", x.felt(0, 3, 0, 2, 0, 2, 1), 2097150);
        due.is("WOUNDS of one in a DRAWER", x.felt(0, 3, 0, 2, 0, 2, 2), 3);
        items(x, 0, 2, 30);
        due.is("no KIND of one in a DRAWER", x.felt(0, 3, 0, 2, 0, 1, 0), 0);
        due.is("nothing is changed", x.at(0, 0), 0);
        due.is("nothing is changed 1", x.at(0, 1), 9);
        due.is("nothing is changed 2", x.at(0, 2), 1);
        items(x, 0, 2, 0, 0, 0, 11, 12);
        due.is("from item 3 on", x.felt(0, 0, 0, 2, 3, 2, 1), 1022);
        items(x, 0, 2, 11, 12, 13, 14, 15, 16, 17, 18);
        due.is("8 DAYS", x.felt(0, 0, 0, 2, 0, 8, 1), 1022);
    }

    private static void feltByLanes() {
        WoundMedals x = two();
        for (int lane = 0; lane < 4; lane++) {
            x.sheet(lane, lane, 2);
            items(x, lane, lane, 11, 12);
            due.is("lane " + lane, x.felt(0, 0, lane, lane, 0, 2, 1), 1022);
        }
        x.item(3, 3, 0, (1L << 32) + 11);
        due.is("a long is more than its lowest bits", x.felt(0, 0, 3, 3, 0, 2, 1), 0);
        x.item(2, 2, 0, (1L << 32) + 11);
        due.is("an int is not", x.felt(0, 0, 2, 2, 0, 2, 1), 1022);
    }

    private static void feltRefuses() {
        WoundMedals x = two();
        x.sheet(0, 2, 8);
        due.is("man", x.felt(2, 0, 0, 2, 0, 1, 0), -1);
        due.is("medal", x.felt(0, 4, 0, 2, 0, 1, 0), -1);
        due.is("n 0", x.felt(0, 0, 0, 2, 0, 0, 0), -1);
        due.is("n 9", x.felt(0, 0, 0, 2, 0, 9, 0), -1);
        due.is("what 3", x.felt(0, 0, 0, 2, 0, 1, 3), -1);
        for (int b : WRONG) {
            due.is("man " + b, x.felt(b, 0, 0, 2, 0, 1, 0), -1);
            due.is("medal " + b, x.felt(0, b, 0, 2, 0, 1, 0), -1);
            due.is("sheet " + b, x.felt(0, 0, b, 2, 0, 1, 0), -1);
            due.is("lane " + b, x.felt(0, 0, 0, b, 0, 1, 0), -1);
            due.is("what " + b, x.felt(0, 0, 0, 2, 0, 1, b), -1);
        }
        due.is("n MAX", x.felt(0, 0, 0, 2, 0, Integer.MAX_VALUE, 0), -1);
        due.is("NULL", x.felt(0, 0, 1, 2, 99, 1, 0), -11);
        due.is("CAST", x.felt(0, 0, 0, 3, 99, 1, 0), -12);
        due.is("BAD goes first", x.felt(0, 0, 1, 3, 99, 1, 3), -1);
        due.is("INDEX -1", x.felt(0, 0, 0, 2, -1, 1, 0), -13);
        due.is("INDEX 8", x.felt(0, 0, 0, 2, 8, 1, 0), -13);
        due.is("INDEX 1 and 8", x.felt(0, 0, 0, 2, 1, 8, 0), -13);
        due.is("INDEX MAX", x.felt(0, 0, 0, 2, Integer.MAX_VALUE, 8, 0), -13);
        due.is("INDEX MIN", x.felt(0, 0, 0, 2, Integer.MIN_VALUE, 8, 0), -13);
        due.is("the last", x.felt(0, 0, 0, 2, 7, 1, 0), 0);
    }

    /** What an item holds, found by what the sheet tells of a man who would have just that. */
    private static boolean holds(WoundMedals x, int sheet, int lane, int i, int strength) {
        x.image();
        Due.tell(x, strength == 0 ? "9-9;b1:0@0,b3:0@0" : strength + ";b1:0");
        boolean found = x.felt(0, 0, sheet, lane, i, 1, 0) != 0;
        x.restore();
        return found;
    }

    private static void film() {
        due.part("promise 28");
        WoundMedals x = Due.of("26-23,9-5;b20:0@1");
        for (int lane = 0; lane < 4; lane++) {
            x.sheet(lane, lane, 24);
            due.is("24 to lane " + lane, x.film(0, 24, lane, lane, 0), 24);
            for (int i = 0; i < 24; i++) {
                due.isTrue("item " + i + " of lane " + lane, holds(x, lane, lane, i, Math.min(26, 4 + i)));
            }
        }
        due.is("3 from 20 on", x.film(1, 3, 2, 2, 20), 3);
        int[] last = {22, 23, 3, 2, 1, 26};
        for (int i = 0; i < 6; i++) {
            due.isTrue("item " + (18 + i), holds(x, 2, 2, 18 + i, last[i]));
        }
        due.is("the DAY stays", x.count(2), 0);
        filmRefuses();
    }

    private static void filmRefuses() {
        WoundMedals x = Due.of("30,9-5;b20:0@1");
        x.sheet(0, 2, 5);
        x.film(1, 5, 0, 2, 0);
        due.is("man", x.film(2, 1, 0, 2, 0), -1);
        due.is("n 0", x.film(0, 0, 0, 2, 0), -1);
        due.is("n 25", x.film(0, 25, 0, 2, 0), -1);
        for (int b : WRONG) {
            due.is("man " + b, x.film(b, 1, 0, 2, 0), -1);
            due.is("sheet " + b, x.film(0, 1, b, 2, 0), -1);
            due.is("lane " + b, x.film(0, 1, 0, b, 0), -1);
        }
        due.is("n MAX", x.film(0, Integer.MAX_VALUE, 0, 2, 0), -1);
        due.is("NULL", x.film(0, 1, 3, 2, 99), -11);
        due.is("CAST", x.film(0, 1, 0, 1, 99), -12);
        due.is("INDEX", x.film(0, 6, 0, 2, 0), -13);
        due.is("INDEX 5", x.film(0, 1, 0, 2, 5), -13);
        due.is("INDEX 3", x.film(0, 3, 0, 2, 3), -13);
        due.is("INDEX -1", x.film(0, 1, 0, 2, -1), -13);
        due.is("INDEX MAX", x.film(0, 24, 0, 2, Integer.MAX_VALUE), -13);
        due.is("BAD goes first", x.film(0, 25, 3, 1, -1), -1);
        for (int i = 0; i < 4; i++) {
            due.isTrue("what is refused leaves item " + i, holds(x, 0, 2, i, 3 - i));
        }
    }

    private static void sheet() {
        due.part("promise 29");
        WoundMedals x = Due.of("9-9;b1:0@0,b3:0@0");
        due.is("24", x.sheet(0, 0, 24), 24);
        due.is("0", x.sheet(3, 3, 0), 0);
        due.is("no item in it", x.item(3, 3, 0, 1), -13);
        due.is("25", x.sheet(0, 0, 25), -1);
        due.is("MAX", x.sheet(0, 0, Integer.MAX_VALUE), -1);
        due.is("-1", x.sheet(0, 0, -1), -14);
        due.is("MIN", x.sheet(0, 0, Integer.MIN_VALUE), -14);
        for (int b : WRONG) {
            due.is("sheet " + b, x.sheet(b, 0, 1), -1);
            due.is("lane " + b, x.sheet(0, b, 1), -1);
            due.is("BAD goes first " + b, x.sheet(0, b, -1), -1);
        }
        due.is("refused ones leave it", x.item(0, 0, 23, 1), 1);
        x.item(0, 0, 0, 1);
        due.is("a new row", x.sheet(0, 0, 24), 24);
        due.isTrue("is of 0", holds(x, 0, 0, 0, 0));
        due.isTrue("is of 0 to the end", holds(x, 0, 0, 23, 0));
        due.is("of another lane", x.sheet(0, 3, 2), 2);
        due.is("it is", x.item(0, 0, 0, 1), -12);
        due.is("it has", x.drop(0), 2);
    }

    private static void drop() {
        due.part("promise 30");
        WoundMedals x = new WoundMedals();
        x.sheet(2, 1, 7);
        due.is("it had 7", x.drop(2), 7);
        due.is("nothing", x.drop(2), -11);
        due.is("no item", x.item(2, 1, 0, 1), -11);
        x.sheet(2, 1, 0);
        due.is("it had 0", x.drop(2), 0);
        due.is("never any", x.drop(0), -11);
        for (int b : WRONG) {
            due.is("drop(" + b + ")", x.drop(b), -1);
        }
    }

    private static void item() {
        due.part("promise 31");
        WoundMedals x = Due.of("9;b1:0");
        long[] beyond = {1L << 8, 1L << 16, 1L << 32};
        for (int lane = 0; lane < 3; lane++) {
            x.sheet(lane, lane, 3);
            due.is("item", x.item(lane, lane, 1, beyond[lane] + 9), 1);
            due.isTrue("its lowest bits", holds(x, lane, lane, 1, 9));
            x.item(lane, lane, 2, -beyond[lane] + 9);
            due.isTrue("of one below 0", holds(x, lane, lane, 2, 9));
            x.item(lane, lane, 1, beyond[lane] / 2 + 9);
            due.isTrue("half as much is none", !holds(x, lane, lane, 1, 9));
        }
        x.sheet(3, 3, 1);
        x.item(3, 3, 0, (1L << 40) + 9);
        due.isTrue("a long holds all", !holds(x, 3, 3, 0, 9));
        for (int b : WRONG) {
            due.is("sheet " + b, x.item(b, 0, 0, 1), -1);
            due.is("lane " + b, x.item(0, b, 0, 1), -1);
        }
        x.drop(3);
        due.is("NULL", x.item(3, 0, 9, 1), -11);
        due.is("CAST", x.item(0, 1, 9, 1), -12);
        due.is("INDEX 3", x.item(0, 0, 3, 1), -13);
        due.is("INDEX -1", x.item(0, 0, -1, 1), -13);
        due.is("INDEX MAX", x.item(0, 0, Integer.MAX_VALUE, 1), -13);
        due.is("INDEX MIN", x.item(0, 0, Integer.MIN_VALUE, 1), -13);
    }

    private static void copy() {
        due.part("promise 32");
        WoundMedals x = Due.of("9;b1:0");
        x.sheet(0, 1, 5);
        x.sheet(1, 1, 4);
        x.sheet(2, 2, 5);
        items(x, 0, 1, 1, 2, 3, 4, 5);
        items(x, 1, 1, 6, 7, 8, 9);
        due.is("2 from 3 to 1", x.copy(0, 3, 1, 1, 2), 2);
        int[] now = {6, 4, 5, 9};
        for (int i = 0; i < 4; i++) {
            due.isTrue("item " + i, holds(x, 1, 1, i, now[i]));
        }
        due.is("all 4", x.copy(1, 0, 0, 0, 4), 4);
        due.isTrue("item 4 stays", holds(x, 0, 1, 4, 5));
        due.isTrue("item 3 came", holds(x, 0, 1, 3, 9));
        due.is("none", x.copy(0, 0, 1, 0, 0), 0);
        due.is("none at the ends", x.copy(0, 5, 1, 4, 0), 0);
        due.is("none beyond the end", x.copy(0, 6, 1, 4, 0), -13);
        due.is("none beyond the other end", x.copy(0, 5, 1, 5, 0), -13);
        due.is("less than none", x.copy(0, 0, 1, 0, -1), -13);
        due.is("INDEX of from", x.copy(0, 4, 1, 0, 2), -13);
        due.is("INDEX of to", x.copy(0, 0, 1, 3, 2), -13);
        due.is("INDEX -1", x.copy(0, -1, 1, 0, 1), -13);
        due.is("INDEX -1 of to", x.copy(0, 0, 1, -1, 1), -13);
        due.is("INDEX of 5 to 4", x.copy(0, 0, 1, 0, 5), -13);
        due.is("INDEX MAX", x.copy(0, Integer.MAX_VALUE, 1, Integer.MAX_VALUE, Integer.MAX_VALUE), -13);
        due.is("INDEX MIN", x.copy(0, Integer.MIN_VALUE, 1, Integer.MIN_VALUE, Integer.MIN_VALUE), -13);
        due.isTrue("what is refused leaves item 0", holds(x, 1, 1, 0, 6));
        due.is("CAST", x.copy(0, 99, 2, 0, 1), -12);
        due.is("CAST of none", x.copy(0, 0, 2, 0, 0), -12);
        due.is("NULL of to", x.copy(0, 99, 3, 0, 1), -11);
        due.is("NULL of from", x.copy(3, 99, 2, 0, 1), -11);
        for (int b : WRONG) {
            due.is("from " + b, x.copy(b, 0, 3, 0, 1), -1);
            due.is("to " + b, x.copy(3, 0, b, 0, 1), -1);
        }
    }

    private static void copyOverItself() {
        WoundMedals x = Due.of("9;b1:0");
        x.sheet(0, 3, 5);
        items(x, 0, 3, 1, 2, 3, 4, 5);
        due.is("up", x.copy(0, 0, 0, 1, 4), 4);
        int[] up = {1, 1, 2, 3, 4};
        for (int i = 0; i < 5; i++) {
            due.isTrue("up item " + i, holds(x, 0, 3, i, up[i]));
        }
        due.is("down", x.copy(0, 2, 0, 0, 3), 3);
        int[] down = {2, 3, 4, 3, 4};
        for (int i = 0; i < 5; i++) {
            due.isTrue("down item " + i, holds(x, 0, 3, i, down[i]));
        }
    }
}
