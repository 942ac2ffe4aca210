/** The edges of SHEETS, of what the machine finds, and of promises 34 to 38, a sentence of the document each. */
public final class EdgeSheetTest {
    private static final int BAD = Edge.BAD, FULL = Edge.FULL, NONE = Edge.NONE;
    private static final int NULL = 1, INDEX = 2, CAST = 3;
    private static final String SHIP = "hold 50 0 9 0;hold 50 1 9 0;door 0 1 12 3 2;hole 0 6 3;pump 2 0;";

    public static void main(String[] args) {
        sheets();
        lays();
        reads();
        refusals();
        counts();
        Check.finish("EdgeSheetTest");
    }

    private static void sheets() {
        sheetOutside();
        sheetCells();
        sheetSize();
        sheetBadAheadOfSize();
        sheetIsNew();
        sheetsAreFour();
        sheetsOfNothing();
    }

    private static void lays() {
        layOutside();
        layNull();
        layIndex();
        layLowestBits();
        layOneCell();
    }

    private static void reads() {
        readOutside();
        readNone();
        readWholeOnes();
        readFromCell();
        readFarCells();
        readNull();
        readCast();
        readCastAheadOfIndex();
        readMinutesFromNow();
        readWrapsAround();
    }

    private static void refusals() {
        readBadOrder();
        readRefusedChangesNothing();
        readEachBad();
        readFull();
        readFirstMet();
        readWholeAheadOfTheTear();
        readToTheSunk();
        tornOfTheLatest();
        tornStaysByRefused();
    }

    /** A ship, as she is told, with SHEET 0 of a lane and these CELLS. */
    private static WhichHold laid(int lane, int... cells) {
        WhichHold x = Check.ship(SHIP);
        x.sheet(0, lane, cells.length);
        Edge.row(x, 0, 0, cells);
        return x;
    }

    private static void outcome(String name, WhichHold x, int answer, int torn, int orders, int got) {
        Check.due(name, answer, got);
        Check.due(name + ": torn()", torn, x.torn());
        Check.due(name + ": ORDERS", orders, x.count(4));
    }

    // ---- promise 34

    /** "SHEETS 0 to 3", lanes 0 to 2, "BAD: also n above 40". */
    private static void sheetOutside() {
        for (int wrong : new int[] {-1, 4, 5, 256, Edge.FAR, Edge.LOW}) {
            Edge.refused("sheet(" + wrong + ", 0, 1)", Edge::busy, BAD, x -> x.sheet(wrong, 0, 1));
        }
        for (int wrong : new int[] {-1, 3, 4, 256, Edge.FAR, Edge.LOW}) {
            Edge.refused("sheet(0, " + wrong + ", 1)", Edge::busy, BAD, x -> x.sheet(0, wrong, 1));
        }
        for (int wrong : new int[] {41, 42, 1 << 16, Edge.FAR}) {
            Edge.refused("sheet(0, 0, " + wrong + ")", Edge::busy, BAD, x -> x.sheet(0, 0, wrong));
            Edge.refused("sheet(3, 2, " + wrong + ")", Edge::busy, BAD, x -> x.sheet(3, 2, wrong));
        }
    }

    /** "with 0 to 40 CELLS". */
    private static void sheetCells() {
        for (int k = 0; k < 4; k++) {
            for (int lane = 0; lane < 3; lane++) {
                for (int n = 0; n <= 40; n++) {
                    WhichHold x = new WhichHold();
                    Check.due("sheet(" + k + ", " + lane + ", " + n + ")", 1, x.sheet(k, lane, n));
                    Check.due("its last CELL", n == 0 ? -12 : 1, x.lay(k, n - 1, 7));
                    Check.due("one behind", -12, x.lay(k, n, 7));
                    Check.due("count(8)", k == 0 ? n : NONE, x.count(8));
                }
            }
        }
    }

    /** "-14 (SIZE): n below 0": what there was stays. */
    private static void sheetSize() {
        for (int n : new int[] {-1, -2, -40, -41, Edge.LOW, Edge.LOW + 1}) {
            for (int k = 0; k < 4; k++) {
                int of = k;
                Edge.refused("sheet(" + k + ", 1, " + n + ")", Edge::busy, -14, x -> x.sheet(of, 1, n));
            }
        }
        Edge.refused("sheet(0, 0, -1) of a new one", Edge::empty, -14, x -> x.sheet(0, 0, -1));
    }

    /** "BAD: ..; -14": BAD fits first. */
    private static void sheetBadAheadOfSize() {
        for (int n : new int[] {-1, Edge.LOW}) {
            Edge.refused("sheet(-1, 0, " + n + ")", Edge::busy, BAD, x -> x.sheet(-1, 0, n));
            Edge.refused("sheet(4, 0, " + n + ")", Edge::busy, BAD, x -> x.sheet(4, 0, n));
            Edge.refused("sheet(0, -1, " + n + ")", Edge::busy, BAD, x -> x.sheet(0, -1, n));
            Edge.refused("sheet(0, 3, " + n + ")", Edge::busy, BAD, x -> x.sheet(0, 3, n));
        }
    }

    /** "A SHEET is a new row of CELLS 0": all of them, whatever it was. */
    private static void sheetIsNew() {
        WhichHold x = laid(2, 1, 2, 3, 4, 5, 6, 7, 8);
        x.sheet(0, 2, 4);
        Check.due("fewer", -12, x.lay(0, 4, 0));
        outcome("CELLS 0", x, 1, 0, 1, x.read(0, 2, 0, 1));
        for (int what = 0; what < 4; what++) {
            Check.due("given(0, " + what + ")", 0, x.given(0, what));
        }
        x.sheet(0, 1, 8);
        outcome("more, of another lane", x, 2, 0, 3, x.read(0, 1, 0, 2));
        for (int what = 0; what < 4; what++) {
            Check.due("given(2, " + what + ")", 0, x.given(2, what));
        }
        outcome("not of the old lane", x, 0, CAST, 3, x.read(0, 2, 0, 1));
    }

    /** SHEETS are apart from one another. */
    private static void sheetsAreFour() {
        WhichHold x = Check.ship(SHIP);
        for (int k = 0; k < 4; k++) {
            x.sheet(k, k % 3, 4 + k);
            Edge.row(x, k, 0, k, 0, 0, 10 + k);
        }
        for (int k = 0; k < 4; k++) {
            Check.due("read of SHEET " + k, 1, x.read(k, k % 3, 0, 1));
            Check.due("its first CELL", k, x.given(k, 0));
            Check.due("its fourth CELL", 10 + k, x.given(k, 3));
            Check.due("its last CELL", 1, x.lay(k, 3 + k, 0));
            Check.due("one behind", -12, x.lay(k, 4 + k, 0));
        }
    }

    /** "or nothing (at first)": 0 CELLS are not nothing. */
    private static void sheetsOfNothing() {
        WhichHold x = Check.ship(SHIP);
        for (int k = 0; k < 4; k++) {
            Check.due("nothing", -11, x.lay(k, 0, 0));
            outcome("nothing", x, 0, NULL, 0, x.read(k, 0, 0, 1));
            x.sheet(k, 0, 0);
            Check.due("no CELLS", -12, x.lay(k, 0, 0));
            outcome("no CELLS", x, 0, INDEX, 0, x.read(k, 0, 0, 1));
        }
        Check.due("count(8)", 0, x.count(8));
        Check.tell(x, SHIP);
        Check.due("no text makes it nothing again", -12, x.lay(3, 0, 0));
    }

    // ---- promise 35

    /** "BAD: k", ahead of NULL and INDEX. */
    private static void layOutside() {
        for (int k : new int[] {-1, 4, 5, Edge.FAR, Edge.LOW}) {
            Edge.refused("lay(" + k + ", 0, 7)", Edge::busy, BAD, x -> x.lay(k, 0, 7));
            Edge.refused("lay(" + k + ", -1, 7)", Edge::empty, BAD, x -> x.lay(k, -1, 7));
        }
    }

    /** "-10 less the FAULT: NULL": whatever the CELL. */
    private static void layNull() {
        for (int i : new int[] {0, -1, 39, 40, Edge.FAR, Edge.LOW}) {
            Edge.refused("lay(3, " + i + ", 7) of nothing", Edge::busy, -11, x -> x.lay(3, i, 7));
            Edge.refused("lay(0, " + i + ", 7) of nothing", Edge::empty, -11, x -> x.lay(0, i, 7));
        }
    }

    /** "INDEX": below the first CELL, behind the last one. */
    private static void layIndex() {
        for (int i : new int[] {-1, -2, 9, 10, 39, 40, Edge.FAR, Edge.LOW}) {
            Edge.refused("lay(0, " + i + ", 7) of nine", Edge::busy, -12, x -> x.lay(0, i, 7));
        }
        for (int i : new int[] {-1, 40, 41, Edge.FAR, Edge.LOW}) {
            Edge.refused("lay(1, " + i + ", 7) of forty", Edge::busy, -12, x -> x.lay(1, i, 7));
        }
        WhichHold x = Edge.busy();
        Check.due("lay(0, 0, 7)", 1, x.lay(0, 0, 7));
        Check.due("lay(0, 8, 7)", 1, x.lay(0, 8, 7));
        Check.due("lay(1, 39, 7)", 1, x.lay(1, 39, 7));
    }

    /** "CELL i of a SHEET becomes v (its lowest bits)": BYTES, SHORTS, INTS, "all with a sign". */
    private static void layLowestBits() {
        int[] laid = {0, 1, -1, 127, 128, 129, 255, 256, -128, -129, 32767, 32768, 65535, 65536, -32768, -32769, Edge.FAR, Edge.LOW};
        int[] bytes = {0, 1, -1, 127, -128, -127, -1, 0, -128, 127, -1, 0, -1, 0, 0, -1, -1, 0};
        int[] shorts = {0, 1, -1, 127, 128, 129, 255, 256, -128, -129, 32767, -32768, -1, 0, -32768, 32767, -1, 0};
        for (int i = 0; i < laid.length; i++) {
            int[] due = {bytes[i], shorts[i], laid[i]};
            for (int lane = 0; lane < 3; lane++) {
                WhichHold x = laid(lane, 0, 0, 0, laid[i]);
                Check.due("read", 1, x.read(0, lane, 0, 1));
                Check.due(laid[i] + " in lane " + lane, due[lane], x.given(0, 3));
            }
        }
    }

    /** It becomes v, the others stay. */
    private static void layOneCell() {
        WhichHold x = laid(1, 0, 0, 0, 5, 0, 0, 0, 6, 0, 0, 0, 7);
        x.lay(0, 7, 300);
        Check.due("read", 3, x.read(0, 1, 0, 3));
        int[] due = {5, 300, 7};
        for (int k = 0; k < 3; k++) {
            Check.due("CELL " + (4 * k + 3), due[k], x.given(k, 3));
        }
    }

    // ---- promise 36

    /** "n (0 to 10) ORDERS", "BAD: k, lane, n", whatever else. */
    private static void readOutside() {
        for (int wrong : new int[] {-1, 4, 5, Edge.FAR, Edge.LOW}) {
            Edge.refused("read(" + wrong + ", 0, 0, 1)", Edge::busy, BAD, x -> x.read(wrong, 0, 0, 1));
            Edge.refused("read(" + wrong + ", 0, 0, 0)", Edge::busy, BAD, x -> x.read(wrong, 0, 0, 0));
        }
        for (int wrong : new int[] {-1, 3, 4, Edge.FAR, Edge.LOW}) {
            Edge.refused("read(0, " + wrong + ", 0, 1)", Edge::busy, BAD, x -> x.read(0, wrong, 0, 1));
            Edge.refused("read(3, " + wrong + ", 0, 0) of nothing", Edge::busy, BAD, x -> x.read(3, wrong, 0, 0));
        }
        for (int wrong : new int[] {-1, 11, 12, Edge.FAR, Edge.LOW}) {
            Edge.refused("read(0, 0, 0, " + wrong + ")", Edge::busy, BAD, x -> x.read(0, 0, 0, wrong));
            Edge.refused("read(3, 2, -1, " + wrong + ") of nothing", Edge::busy, BAD, x -> x.read(3, 2, -1, wrong));
        }
        for (int n = 0; n <= 10; n++) {
            WhichHold x = laid(0, new int[40]);
            outcome("read of " + n, x, n, 0, n, x.read(0, 0, 0, n));
        }
    }

    /** "of n 0: 0, no FAULT, whatever the SHEET is". */
    private static void readNone() {
        for (int f : new int[] {0, -1, 3, 40, Edge.FAR, Edge.LOW}) {
            for (int k = 0; k < 4; k++) {
                for (int lane = 0; lane < 3; lane++) {
                    WhichHold x = Edge.busy();
                    Check.due("torn ahead of it", NULL, x.torn());
                    outcome("read(" + k + ", " + lane + ", " + f + ", 0)", x, 0, 0, 6, x.read(k, lane, f, 0));
                }
            }
        }
        WhichHold x = laid(0, 0, 4, 0, 1);
        for (int i = 0; i < 12; i++) {
            x.read(0, 0, 0, 1);
        }
        outcome("none more than twelve", x, 0, 0, 12, x.read(0, 0, 0, 0));
    }

    /** "those that were whole ahead come": of each number of CELLS. */
    private static void readWholeOnes() {
        for (int cells = 0; cells <= 40; cells++) {
            for (int n = 1; n <= 10; n++) {
                WhichHold x = laid(2, new int[cells]);
                int whole = Math.min(n, cells / 4);
                outcome(n + " of " + cells + " CELLS", x, whole, whole < n ? INDEX : 0, whole, x.read(0, 2, 0, n));
            }
        }
    }

    /** "four CELLS each from CELL f on". */
    private static void readFromCell() {
        for (int cells : new int[] {4, 7, 40}) {
            for (int f = -5; f <= cells + 1; f++) {
                WhichHold x = laid(1, new int[cells]);
                int whole = f < 0 ? 0 : Math.min(2, Math.max(0, (cells - f) / 4));
                outcome("two of " + cells + " from " + f, x, whole, whole < 2 ? INDEX : 0, whole, x.read(0, 1, f, 2));
            }
        }
        WhichHold x = laid(0, 9, 9, 9, 3, 2, 0, 7, 4, 0, 0, 8, 9);
        outcome("two from CELL 3", x, 2, 0, 2, x.read(0, 0, 3, 2));
        int[][] due = {{3, 2, 0, 7}, {4, 0, 0, 8}};
        for (int k = 0; k < 2; k++) {
            for (int what = 0; what < 4; what++) {
                Check.due("given(" + k + ", " + what + ")", due[k][what], x.given(k, what));
            }
            Check.due("to come", 0, x.given(k, 4));
            Check.due("not begun", NONE, x.given(k, 5));
        }
    }

    /** A CELL far away, also where its number wraps around: INDEX. */
    private static void readFarCells() {
        int[] far = {-1, -2, -3, -4, -5, -8, 37, 38, 39, 40, 41, Edge.FAR, Edge.FAR - 1, Edge.FAR - 2, Edge.FAR - 3, Edge.FAR - 4, Edge.LOW,
            Edge.LOW + 3, Edge.LOW + 40};
        for (int f : far) {
            for (int n : new int[] {1, 2, 10}) {
                WhichHold x = laid(2, new int[40]);
                outcome("read(0, 2, " + f + ", " + n + ")", x, 0, INDEX, 0, x.read(0, 2, f, n));
            }
        }
        WhichHold x = laid(2, new int[40]);
        outcome("the last four", x, 1, 0, 1, x.read(0, 2, 36, 1));
        outcome("the last four and more", x, 1, INDEX, 2, x.read(0, 2, 36, 2));
    }

    /** "1 NULL (nothing)": whatever the lane and the CELL. */
    private static void readNull() {
        for (int lane = 0; lane < 3; lane++) {
            for (int f : new int[] {0, -1, 40, Edge.FAR, Edge.LOW}) {
                WhichHold x = laid(0, new int[8]);
                outcome("read(1, " + lane + ", " + f + ", 1)", x, 0, NULL, 0, x.read(1, lane, f, 1));
                outcome("read(3, " + lane + ", " + f + ", 10)", x, 0, NULL, 0, x.read(3, lane, f, 10));
            }
        }
    }

    /** "3 CAST (another lane)". */
    private static void readCast() {
        for (int lane = 0; lane < 3; lane++) {
            for (int as = 0; as < 3; as++) {
                WhichHold x = laid(lane, new int[8]);
                boolean same = lane == as;
                outcome("lane " + lane + " as " + as, x, same ? 2 : 0, same ? 0 : CAST, same ? 2 : 0, x.read(0, as, 0, 2));
            }
        }
    }

    /** A row is taken as of a lane before a CELL is asked of it. */
    private static void readCastAheadOfIndex() {
        for (int f : new int[] {-1, 8, Edge.FAR, Edge.LOW}) {
            WhichHold x = laid(0, new int[8]);
            outcome("read(0, 1, " + f + ", 1)", x, 0, CAST, 0, x.read(0, 1, f, 1));
        }
        WhichHold x = laid(0);
        outcome("of no CELLS", x, 0, CAST, 0, x.read(0, 2, 0, 1));
    }

    /** "(minutes from now ..)": 0 to as many as make 999. */
    private static void readMinutesFromNow() {
        for (int now : new int[] {0, 1, 120}) {
            for (int more : new int[] {-1, 0, 1, 998 - now, 999 - now, 1000 - now}) {
                WhichHold x = laid(2, more, 4, 0, 1);
                if (now > 0) {
                    x.go(now);
                }
                boolean may = more >= 0 && now + more <= 999;
                outcome(more + " from " + now, x, may ? 1 : -20, 0, may ? 1 : 0, x.read(0, 2, 0, 1));
                Check.due("its MINUTE", may ? now + more : BAD, x.given(0, 0));
            }
        }
        WhichHold x = laid(0, -1, 4, 0, 1);
        Check.due("BYTES have a sign", -20, x.read(0, 0, 0, 1));
        WhichHold y = laid(0, 127, 4, 0, 1);
        Check.due("the greatest BYTE", 1, y.read(0, 0, 0, 1));
        Check.due("its MINUTE", 127, y.given(0, 0));
    }

    /** Minutes that wrap around are no MINUTE. */
    private static void readWrapsAround() {
        for (int now : new int[] {1, 5, 120}) {
            for (int more : new int[] {Edge.FAR, Edge.FAR - now, Edge.FAR - now + 1, Edge.LOW, Edge.LOW + now, -now, -now - 1}) {
                WhichHold x = laid(2, more, 4, 0, 1);
                x.go(now);
                outcome(more + " from " + now, x, -20, 0, 0, x.read(0, 2, 0, 1));
            }
        }
        int[][] wheres = {{0, 4, Edge.LOW, 1}, {0, 4, Edge.FAR, 1}, {0, 4, 0, Edge.LOW}, {0, Edge.LOW, 0, 0}, {0, Edge.FAR, 0, 0}, {0, 3, 0, Edge.FAR}};
        for (int[] w : wheres) {
            WhichHold x = laid(2, w);
            outcome("far numbers", x, -20, 0, 0, x.read(0, 2, 0, 1));
        }
    }

    private static WhichHold badAt(int bad) {
        WhichHold x = laid(0, new int[40]);
        x.lay(0, 4 * bad + 1, 5);
        x.read(1, 0, 0, 1);
        return x;
    }

    /** "-20 less i (from 0 on): ORDER i, whole, is refused by order() as BAD: then none came". */
    private static void readBadOrder() {
        for (int bad = 0; bad < 10; bad++) {
            int at = bad;
            for (int n : new int[] {bad, bad + 1, 10}) {
                WhichHold x = badAt(bad);
                if (n <= bad) {
                    outcome(n + ", then BAD", x, n, 0, n, x.read(0, 0, 0, n));
                } else {
                    Edge.refused(n + " with a BAD one, " + bad, () -> badAt(at), -20 - bad, y -> y.read(0, 0, 0, n));
                }
            }
        }
    }

    private static WhichHold busyAndFull() {
        WhichHold x = Edge.busy();
        for (int k = 0; k < 6; k++) {
            x.order(20, 4, 0, 1);
        }
        return x;
    }

    /** "then none came": and nothing else has changed. */
    private static void readRefusedChangesNothing() {
        Edge.refused("ORDER 1 is BAD", Edge::busy, -21, x -> x.read(0, 0, 0, 2));
        Edge.refused("ORDER 0 is BAD", Edge::busy, -20, x -> x.read(0, 0, 4, 1));
        Edge.refused("ORDER 1 of the sunk is BAD", Edge::sunk, -21, x -> x.read(0, 0, 0, 2));
        Edge.refused("FULL", EdgeSheetTest::busyAndFull, FULL, x -> x.read(0, 0, 0, 1));
        Edge.refused("BAD ahead of FULL", EdgeSheetTest::busyAndFull, -20, x -> x.read(0, 0, 4, 1));
    }

    /** Each way in which order() answers BAD. */
    private static void readEachBad() {
        int[][] bads = {{-1, 0, 0, 0}, {1000, 0, 0, 0}, {0, -1, 0, 0}, {0, 5, 0, 0}, {0, 0, 1, 0}, {0, 0, -1, 0}, {0, 1, 1, 0}, {0, 2, 1, 0},
            {0, 3, 1, 0}, {0, 3, 0, 2}, {0, 3, 0, -1}, {0, 4, 2, 0}, {0, 4, 0, 2}, {0, 4, 0, -4}};
        for (int[] b : bads) {
            Edge.refused("ORDER 0", () -> laid(1, b), -20, x -> x.read(0, 1, 0, 1));
            Edge.refused("ORDER 1", () -> laid(1, 0, 0, 0, 0, b[0], b[1], b[2], b[3]), -21, x -> x.read(0, 1, 0, 2));
        }
        int[][] goods = {{999, 0, 0, 0}, {0, 1, 0, 0}, {0, 2, 0, 9}, {0, 3, 0, NONE}, {0, 3, 0, 1}, {0, 4, 1, 1}, {0, 4, 1, 0}};
        for (int[] g : goods) {
            WhichHold x = laid(1, g);
            outcome("ORDER 0", x, 1, 0, 1, x.read(0, 1, 0, 1));
        }
    }

    private static WhichHold told(int orders) {
        WhichHold x = laid(2, new int[40]);
        for (int k = 0; k < orders; k++) {
            x.order(5, 0, 0, k);
        }
        x.read(1, 0, 0, 1);
        return x;
    }

    /** "FULL: likewise": none came. */
    private static void readFull() {
        for (int orders = 0; orders <= 12; orders++) {
            for (int n = 0; n <= 10; n++) {
                int had = orders;
                int more = n;
                if (orders + n > 12) {
                    Edge.refused(n + " behind " + orders, () -> told(had), FULL, x -> x.read(0, 2, 0, more));
                } else {
                    WhichHold x = told(orders);
                    outcome(n + " behind " + orders, x, n, 0, orders + n, x.read(0, 2, 0, n));
                }
            }
        }
    }

    private static WhichHold toldAndBad(int orders, int bad) {
        WhichHold x = told(orders);
        x.lay(0, 4 * bad + 1, 5);
        return x;
    }

    /** "the first met": BAD or FULL, ORDER by ORDER; BAD ahead of FULL at the same one. */
    private static void readFirstMet() {
        for (int bad = 0; bad <= 4; bad++) {
            int at = bad;
            // the third one has no room
            int due = bad <= 2 ? -20 - bad : FULL;
            Edge.refused("BAD at " + bad + ", FULL at 2", () -> toldAndBad(10, at), due, x -> x.read(0, 2, 0, 5));
        }
        Edge.refused("BAD without room", () -> toldAndBad(12, 0), -20, x -> x.read(0, 2, 0, 1));
        Edge.refused("FULL ahead of the machine's FAULT", () -> told(12), FULL, x -> x.read(0, 2, 36, 2));
        WhichHold x = told(12);
        outcome("the machine's FAULT ahead of FULL", x, 0, INDEX, 12, x.read(0, 2, 37, 1));
    }

    /** "ORDER i, whole": what is torn is not told, whatever its CELLS hold. */
    private static void readWholeAheadOfTheTear() {
        WhichHold x = laid(0, 0, 0, 0, 0, 0, 9, 9);
        outcome("one whole, one torn", x, 1, INDEX, 1, x.read(0, 0, 0, 2));
        Edge.refused("one BAD, one torn", () -> laid(0, 0, 9, 0, 0, 0, 9, 9), -20, y -> y.read(0, 0, 0, 2));
        WhichHold y = laid(0, 9, 9, 9);
        outcome("none whole", y, 0, INDEX, 0, y.read(0, 0, 0, 1));
    }

    /** Who has SUNK is read ORDERS as ever. */
    private static void readToTheSunk() {
        WhichHold x = Edge.sunk();
        x.sheet(0, 0, 8);
        x.lay(0, 4, -1);
        outcome("one", x, 1, 0, 3, x.read(0, 0, 0, 1));
        Check.due("an earlier MINUTE", -21, x.read(0, 0, 0, 2));
        Check.due("ORDERS", 3, x.count(4));
    }

    // ---- promise 37

    /** "The FAULT of the latest read() that answered 0 or more; 0". */
    private static void tornOfTheLatest() {
        WhichHold x = laid(1, new int[8]);
        Check.due("none yet", 0, x.torn());
        outcome("NULL", x, 0, NULL, 0, x.read(1, 1, 0, 1));
        outcome("INDEX", x, 0, INDEX, 0, x.read(0, 1, 5, 1));
        outcome("CAST", x, 0, CAST, 0, x.read(0, 2, 0, 1));
        outcome("one came", x, 1, 0, 1, x.read(0, 1, 0, 1));
        outcome("INDEX behind two", x, 2, INDEX, 3, x.read(0, 1, 0, 3));
        outcome("none", x, 0, 0, 3, x.read(0, 1, 0, 0));
    }

    /** "(one that is refused leaves it)": lay() and sheet() too, and a text. */
    private static void tornStaysByRefused() {
        for (int fault = 0; fault <= 3; fault++) {
            WhichHold x = laid(1, 0, 0, 0, 0, 0, 9, 0, 0);
            int[] lanes = {1, 1, 1, 0};
            int[] first = {0, 0, 5, 0};
            x.read(fault == 1 ? 1 : 0, lanes[fault], first[fault], 1);
            int[] answers = {x.read(4, 0, 0, 1), x.read(0, 3, 0, 1), x.read(0, 0, 0, 11), x.read(0, 1, 0, 2), x.lay(1, 0, 0), x.lay(0, 8, 0),
                x.sheet(0, 0, -1), x.sheet(0, 0, 41)};
            int[] due = {BAD, BAD, BAD, -21, -11, -12, -14, BAD};
            for (int i = 0; i < due.length; i++) {
                Check.due("refused [" + i + "]", due[i], answers[i]);
            }
            Check.due("torn() stays", fault, x.torn());
            x.sheet(0, 2, 8);
            Check.tell(x, SHIP);
            Check.due("torn() stays", fault, x.torn());
        }
    }

    // ---- promise 38

    private static void counts() {
        countOutside();
        countEach();
    }

    /** "BAD". */
    private static void countOutside() {
        for (int what : new int[] {-1, 9, 10, Edge.FAR, Edge.LOW}) {
            Edge.refused("count(" + what + ")", Edge::busy, BAD, x -> x.count(what));
            Edge.refused("count(" + what + ") of a new one", Edge::empty, BAD, x -> x.count(what));
        }
    }

    /** "How many: 0 HOLDS .. 7 bytes on THE TAPE, 8 CELLS of SHEET 0 (NONE: nothing)". */
    private static void countEach() {
        int[] due = {3, 2, 2, 2, 6, 2, 2, 8, 9};
        int[] none = {0, 0, 0, 0, 0, 0, 0, 0, NONE};
        for (int what = 0; what < 9; what++) {
            Check.due("count(" + what + ")", due[what], Edge.busy().count(what));
            Check.due("count(" + what + ") of a new one", none[what], new WhichHold().count(what));
        }
        WhichHold x = Edge.busy();
        x.sheet(1, 0, 5);
        Check.due("another SHEET", 9, x.count(8));
        x.sheet(0, 2, 0);
        Check.due("no CELLS", 0, x.count(8));
        x.sheet(0, 2, 40);
        Check.due("all CELLS", 40, x.count(8));
    }
}
