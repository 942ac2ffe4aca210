/** Promises 34 to 38: sheet, lay, read, torn, count. */
public final class SheetTest {
    private static final String SHIP = "hold 50 0 9 0;hold 50 1 9 0;door 0 1 12 3 2;hole 0 6 3;pump 2 0;";

    public static void main(String[] args) {
        sheets();
        laying();
        lanes();
        reading();
        minutesFromNow();
        faults();
        noneOfThem();
        fullSheet();
        refusedOnes();
        counts();
        Check.finish("SheetTest");
    }

    private static void sheets() {
        WhichHold x = new WhichHold();
        Check.due("sheet(-1, 0, 1)", -1, x.sheet(-1, 0, 1));
        Check.due("sheet(4, 0, 1)", -1, x.sheet(4, 0, 1));
        Check.due("sheet(0, 3, 1)", -1, x.sheet(0, 3, 1));
        Check.due("sheet(0, -1, 1)", -1, x.sheet(0, -1, 1));
        Check.due("sheet(0, 0, 41)", -1, x.sheet(0, 0, 41));
        Check.due("sheet(0, 0, -1)", -14, x.sheet(0, 0, -1));
        Check.due("sheet(0, 0, MIN)", -14, x.sheet(0, 0, Integer.MIN_VALUE));
        Check.due("BAD ahead of SIZE", -1, x.sheet(4, 0, -1));
        Check.due("BAD ahead of SIZE", -1, x.sheet(0, 3, -1));
        Check.due("still nothing", -4, x.count(8));
        Check.due("sheet(0, 0, 0)", 1, x.sheet(0, 0, 0));
        Check.due("a sheet without cells", 0, x.count(8));
        Check.due("sheet(0, 2, 40)", 1, x.sheet(0, 2, 40));
        Check.due("count(8)", 40, x.count(8));
        Check.due("refused", -14, x.sheet(0, 2, -5));
        Check.due("it stays", 40, x.count(8));
    }

    private static void laying() {
        WhichHold x = new WhichHold();
        Check.due("lay(4, 0, 0)", -1, x.lay(4, 0, 0));
        Check.due("lay(-1, 0, 0)", -1, x.lay(-1, 0, 0));
        Check.due("NULL", -11, x.lay(3, -1, 0));
        x.sheet(3, 1, 5);
        Check.due("INDEX", -12, x.lay(3, -1, 0));
        Check.due("INDEX", -12, x.lay(3, 5, 0));
        Check.due("INDEX", -12, x.lay(3, Integer.MAX_VALUE, 0));
        Check.due("INDEX", -12, x.lay(3, Integer.MIN_VALUE, 0));
        Check.due("lay(3, 4, 1)", 1, x.lay(3, 4, 1));
        Check.due("lay(3, 0, 1)", 1, x.lay(3, 0, 1));
        x.sheet(3, 1, 0);
        Check.due("no cell", -12, x.lay(3, 0, 0));
    }

    private static void row(WhichHold x, int k, int first, int... cells) {
        for (int j = 0; j < cells.length; j++) {
            x.lay(k, first + j, cells[j]);
        }
    }

    /** What a cell keeps is told by the where of an order for a door. */
    private static void lanes() {
        int[] laid = {127, 128, 255, 256, 32767, 32768, 65535, 65536, Integer.MAX_VALUE, Integer.MIN_VALUE, -1, -129};
        for (int lane = 0; lane < 3; lane++) {
            for (int v : laid) {
                WhichHold x = Check.ship(SHIP);
                x.sheet(1, lane, 4);
                row(x, 1, 0, 0, 0, 0, v);
                Check.due("read", 1, x.read(1, lane, 0, 1));
                Check.due("cell of lane " + lane + " of " + v, lane == 0 ? (byte) v : lane == 1 ? (short) v : v, x.given(0, 3));
            }
        }
        WhichHold x = Check.ship(SHIP);
        x.sheet(1, 2, 4);
        row(x, 1, 0, 9, 9, 9, 9);
        x.sheet(1, 2, 4);
        x.read(1, 2, 0, 1);
        Check.due("a new sheet has cells 0", 0, x.given(0, 3));
    }

    private static void reading() {
        WhichHold x = Check.ship(SHIP);
        x.sheet(2, 0, 13);
        row(x, 2, 1, 3, 0, 0, 7, 4, 2, 0, 8, 5, 3, 0, -4);
        Check.due("read", 3, x.read(2, 0, 1, 3));
        Check.due("torn", 0, x.torn());
        int[][] due = {{3, 0, 0, 7}, {4, 2, 0, 8}, {5, 3, 0, -4}};
        for (int k = 0; k < 3; k++) {
            for (int what = 0; what < 4; what++) {
                Check.due("given(" + k + ", " + what + ")", due[k][what], x.given(k, what));
            }
            Check.due("to come", 0, x.given(k, 4));
        }
        Check.due("from cell 5 on", 1, x.read(2, 0, 5, 1));
        Check.due("given(3, 0)", 4, x.given(3, 0));
        for (int[] wrong : new int[][] {{-1, 0, 0, 1}, {4, 0, 0, 1}, {2, -1, 0, 1}, {2, 3, 0, 1}, {2, 0, 0, -1}, {2, 0, 0, 11}}) {
            Check.due("wrong numbers", -1, x.read(wrong[0], wrong[1], wrong[2], wrong[3]));
        }
        Check.due("none came", 4, x.count(4));
    }

    private static void minutesFromNow() {
        WhichHold x = Check.ship(SHIP);
        x.go(10);
        x.sheet(0, 2, 4);
        Check.due("now", 1, x.read(0, 2, 0, 1));
        Check.due("given(0, 0)", 10, x.given(0, 0));
        x.lay(0, 0, 989);
        Check.due("at 999", 1, x.read(0, 2, 0, 1));
        Check.due("given(1, 0)", 999, x.given(1, 0));
        for (int wrong : new int[] {990, -1, -10, Integer.MAX_VALUE, Integer.MIN_VALUE, Integer.MIN_VALUE + 11}) {
            x.lay(0, 0, wrong);
            Check.due("minutes " + wrong, -20, x.read(0, 2, 0, 1));
        }
    }

    private static void faults() {
        WhichHold x = Check.ship(SHIP);
        x.sheet(0, 1, 11);
        Check.due("two are whole", 2, x.read(0, 1, 0, 3));
        Check.due("INDEX", 2, x.torn());
        Check.due("they came", 2, x.count(4));
        Check.due("CAST", 0, x.read(0, 2, 0, 1));
        Check.due("CAST", 3, x.torn());
        Check.due("CAST", 0, x.read(0, 0, -7, 10));
        Check.due("CAST ahead of INDEX", 3, x.torn());
        Check.due("NULL", 0, x.read(1, 2, -7, 1));
        Check.due("NULL ahead of CAST and INDEX", 1, x.torn());
        for (int f : new int[] {-1, -4, 8, 11, 40, Integer.MAX_VALUE, Integer.MAX_VALUE - 3, Integer.MIN_VALUE}) {
            Check.due("INDEX at " + f, 0, x.read(0, 1, f, 1));
            Check.due("INDEX", 2, x.torn());
        }
        Check.due("whole at the end", 1, x.read(0, 1, 7, 1));
        Check.due("no FAULT", 0, x.torn());
        x.sheet(3, 0, 0);
        Check.due("no cells", 0, x.read(3, 0, 0, 1));
        Check.due("INDEX", 2, x.torn());
    }

    private static void noneOfThem() {
        WhichHold x = Check.ship(SHIP);
        x.read(0, 0, 0, 1);
        Check.due("torn", 1, x.torn());
        Check.due("none of nothing", 0, x.read(0, 0, -5, 0));
        Check.due("no FAULT", 0, x.torn());
        x.sheet(0, 1, 3);
        x.read(0, 0, 0, 1);
        Check.due("torn", 3, x.torn());
        Check.due("none of another lane", 0, x.read(0, 0, 99, 0));
        Check.due("no FAULT", 0, x.torn());
    }

    private static void fullSheet() {
        WhichHold x = Check.ship(SHIP);
        x.sheet(0, 2, 40);
        Check.due("ten", 10, x.read(0, 2, 0, 10));
        Check.due("three more are too many", -3, x.read(0, 2, 0, 3));
        Check.due("none came", 10, x.count(4));
        Check.due("two more", 2, x.read(0, 2, 32, 3));
        Check.due("INDEX", 2, x.torn());
        Check.due("FULL", -3, x.read(0, 2, 0, 1));
        Check.due("FULL leaves it", 2, x.torn());
        x.lay(0, 1, 9);
        Check.due("BAD ahead of FULL", -20, x.read(0, 2, 0, 1));
        x.lay(0, 1, 0);
        x.lay(0, 5, 9);
        Check.due("FULL is met first", -3, x.read(0, 2, 0, 2));
        Check.due("no order is whole: INDEX", 0, x.read(0, 2, 37, 1));
    }

    private static void refusedOnes() {
        WhichHold x = Check.ship(SHIP);
        x.sheet(0, 0, 10);
        row(x, 0, 0, 0, 0, 0, 0, 0, 4, 9, 0);
        Check.due("torn before", 2, x.read(0, 0, 8, 1) + 2);
        Check.due("INDEX", 2, x.torn());
        Check.due("order 1 is BAD", -21, x.read(0, 0, 0, 2));
        Check.due("order 1 is BAD ahead of the tear", -21, x.read(0, 0, 0, 3));
        Check.due("none came", 0, x.count(4));
        Check.due("torn stays", 2, x.torn());
        Check.due("BAD leaves it", -1, x.read(0, 0, 0, 11));
        Check.due("torn stays", 2, x.torn());
        Check.due("order 0 alone", 1, x.read(0, 0, 0, 1));
        Check.due("none torn", 0, x.torn());
        Check.due("the next is refused", -20, x.read(0, 0, 4, 1));
        Check.due("order 0 stays as it was", 0, x.given(0, 1));
    }

    private static void counts() {
        WhichHold x = Check.ship(SHIP);
        x.order(0, 0, 0, 0);
        x.keep(1);
        x.sound(3);
        x.sound(4);
        x.feed(0);
        x.sheet(0, 0, 9);
        int[] due = {2, 1, 1, 1, 1, 1, 2, 8, 9};
        for (int what = 0; what < 9; what++) {
            Check.due("count(" + what + ")", due[what], x.count(what));
        }
        Check.due("count(9)", -1, x.count(9));
        Check.due("count(-1)", -1, x.count(-1));
    }
}
