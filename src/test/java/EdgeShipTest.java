/** The edges of the ship: HEIGHT, LIST, TRIM, why she SINKS, and promises 6 to 11, a sentence of the document each. */
public final class EdgeShipTest {
    private static final int BAD = Edge.BAD, STATE = Edge.STATE, NONE = Edge.NONE;
    private static final int[] OUTSIDE = {-1, -2, -4, Edge.FAR, Edge.FAR - 1, Edge.LOW, Edge.LOW + 1, 1 << 16, 256};

    interface Asked {
        int of(WhichHold x, int a);
    }

    public static void main(String[] args) {
        heightDown();
        listDown();
        trimDown();
        trimByArm();
        sinksOrMore();
        listAbove();
        trimAbove();
        firstThatIsSo();
        holdAnswers();
        doorAnswers();
        doorWhileUnderWay();
        holeAnswers();
        holeByHeight();
        holeWithSail();
        pumpAnswers();
        ruleAnswers();
        noneOfAGreaterShip();
        askingChangesNothing();
        putAnswersWhatItWas();
        putOutside();
        putIntoTheSunk();
        putThatSinks();
        putMovesNoMinute();
        Check.finish("EdgeShipTest");
    }

    /** From 0 to the last one, and one beyond each, and far away. */
    private static void only(String name, int last, WhichHold x, Asked asked) {
        for (int a = 0; a <= last; a++) {
            Check.due(name + " " + a + " is one", 1, asked.of(x, a) == BAD ? 0 : 1);
        }
        Check.due(name + " " + (last + 1), BAD, asked.of(x, last + 1));
        for (int a : OUTSIDE) {
            Check.due(name + " " + a, BAD, asked.of(x, a));
        }
    }

    private static WhichHold greatest() {
        return Check.ship("hold 9 1 9 0;".repeat(8) + "door0 7 0 1 1;".repeat(10) + "hole7 1 1;".repeat(4) + "pump1 7;".repeat(3));
    }

    private static WhichHold small() {
        return Check.ship("hold 10 0 3 4;hold 20 2 18 5;door 1 0 2 3 4;door 0 1 5 6 7 shut;hole 1 9 11;pump 8 1;"
            + "crews 2;sinks 500;lists 50;trims 70;safe 1;");
    }

    // ---- HEIGHT, LIST, TRIM, SINKS

    /** "12 times WATER by TONS, down." */
    private static void heightDown() {
        int[][] due = {{1, 0, 0}, {1, 1, 12}, {2, 1, 6}, {5, 2, 4}, {5, 4, 9}, {11, 10, 10}, {12, 1, 1}, {12, 11, 11}, {13, 1, 0},
            {13, 2, 1}, {13, 12, 11}, {13, 13, 12}, {24, 1, 0}, {24, 2, 1}, {25, 2, 0}, {25, 3, 1}, {99, 8, 0}, {99, 9, 1}, {99, 16, 1},
            {99, 17, 2}, {99, 90, 10}, {99, 91, 11}, {99, 98, 11}, {99, 99, 12}};
        for (int[] d : due) {
            WhichHold x = Check.ship("hold " + d[0] + " 1 9 " + d[1] + ";");
            Check.due("HEIGHT of " + d[1] + " in " + d[0], d[2], x.hold(0, 4));
        }
    }

    private static int nowOf(String text, int what) {
        return Check.ship(text).now(what);
    }

    /** "WATER of right HOLDS less that of left ones, summed, without sign, by 2, down." */
    private static void listDown() {
        for (int left = 0; left <= 5; left++) {
            for (int right = 0; right <= 5; right++) {
                String text = "hold 9 0 9 " + left + ";hold 9 1 9 9;hold 9 2 9 " + right + ";";
                Check.due("LIST of " + left + " and " + right, Math.abs(left - right) / 2, nowOf(text, 2));
            }
        }
        Check.due("two on a side are summed first", 1, nowOf("hold 9 0 9 1;hold 9 0 9 1;", 2));
        Check.due("two on a side are summed first", 1, nowOf("hold 9 2 9 1;hold 9 2 9 2;", 2));
    }

    /** "WATER times (ARM less 9), summed, without sign, by 10, down." */
    private static void trimDown() {
        int[] water = {0, 9, 10, 11, 19, 20, 21, 99};
        int[] due = {0, 0, 1, 1, 1, 2, 2, 9};
        for (int i = 0; i < water.length; i++) {
            Check.due("TRIM by ARM 10", due[i], nowOf("hold 99 1 10 " + water[i] + ";", 3));
            Check.due("TRIM by ARM 8", due[i], nowOf("hold 99 1 8 " + water[i] + ";", 3));
        }
        Check.due("summed first", 1, nowOf("hold 9 1 10 5;hold 9 1 10 5;", 3));
        Check.due("against one another", 0, nowOf("hold 9 1 10 9;hold 9 1 8 9;", 3));
        Check.due("against one another", 0, nowOf("hold 99 1 10 18;hold 9 1 0 1;", 3));
        Check.due("against one another", 1, nowOf("hold 99 1 10 19;hold 9 1 1 1;hold 9 1 8 1;", 3));
    }

    /** "an ARM (0 to 18; 9 is the middle of her length)". */
    private static void trimByArm() {
        int[] due = {90, 80, 70, 60, 50, 40, 30, 20, 10, 0, 10, 20, 30, 40, 50, 60, 70, 80, 90};
        for (int arm = 0; arm <= 18; arm++) {
            Check.due("TRIM by ARM " + arm, due[arm] * 99 / 100, nowOf("trims 99;hold 99 1 " + arm + " 99;", 3));
        }
    }

    /** "1 all WATER is sinks or more". */
    private static void sinksOrMore() {
        for (int sinks : new int[] {1, 2, 50, 99}) {
            Check.due("one below sinks " + sinks, 0, nowOf("hold 99 1 9 " + (sinks - 1) + ";sinks " + sinks + ";", 4));
            Check.due("sinks " + sinks, 1, nowOf("hold 99 1 9 " + sinks + ";sinks " + sinks + ";", 4));
        }
        Check.due("one above", 1, nowOf("hold 99 1 9 51;sinks 50;", 4));
        String full = "hold 99 1 9 99;";
        Check.due("399 of 400", 0, nowOf(full.repeat(4) + "hold 99 1 9 3;", 4));
        Check.due("400 of 400", 1, nowOf(full.repeat(4) + "hold 99 1 9 4;", 4));
        Check.due("792 of 800", 0, nowOf(full.repeat(8) + "sinks 800;", 4));
        Check.due("792 of 793", 0, nowOf(full.repeat(8) + "sinks 793;", 4));
        Check.due("792 of 792", 1, nowOf(full.repeat(8) + "sinks 792;", 4));
    }

    /** "2 LIST is above lists". */
    private static void listAbove() {
        for (int side = 0; side <= 2; side += 2) {
            for (int lists : new int[] {1, 7, 40}) {
                String rule = "lists " + lists + ";hold 99 " + side + " 9 ";
                Check.due("LIST as lists", 0, nowOf(rule + 2 * lists + ";", 4));
                Check.due("LIST as lists, and half a ton", 0, nowOf(rule + (2 * lists + 1) + ";", 4));
                Check.due("LIST above lists", 2, nowOf(rule + (2 * lists + 2) + ";", 4));
            }
        }
        String two = "hold 99 0 9 99;hold 99 0 9 ";
        Check.due("LIST 99 of 99", 0, nowOf(two + "99;lists 99;", 4));
        Check.due("LIST 40 of 40", 0, nowOf("hold 99 0 9 81;", 4));
        Check.due("LIST 41 of 40", 2, nowOf("hold 99 0 9 82;", 4));
        Check.due("LIST 100 of 99", 2, nowOf(two + "99;hold 9 0 9 2;lists 99;", 4));
    }

    /** "3 TRIM is above trims". */
    private static void trimAbove() {
        for (int arm = 8; arm <= 10; arm += 2) {
            for (int trims : new int[] {1, 5, 8}) {
                String rule = "trims " + trims + ";hold 99 1 " + arm + " ";
                Check.due("TRIM as trims", 0, nowOf(rule + 10 * trims + ";", 4));
                Check.due("TRIM as trims, and some", 0, nowOf(rule + (10 * trims + 9) + ";", 4));
                Check.due("TRIM above trims", 3, nowOf(rule + (10 * trims + 10) + ";", 4));
            }
        }
        Check.due("TRIM 60 of 60", 0, nowOf("hold 99 1 0 67;", 4));
        Check.due("TRIM 61 of 60", 3, nowOf("hold 99 1 0 68;", 4));
        Check.due("TRIM 99 of 99", 0, nowOf("hold 99 1 18 99;hold 99 1 10 99;hold 9 1 10 9;trims 99;", 4));
        Check.due("TRIM 100 of 99", 3, nowOf("hold 99 1 18 99;hold 99 1 10 99;hold 10 1 10 10;trims 99;", 4));
    }

    /** "the first that is so". */
    private static void firstThatIsSo() {
        String ship = "hold 99 2 18 50;";
        Check.due("all three", 1, nowOf(ship + "sinks 50;lists 24;trims 44;", 4));
        Check.due("LIST and TRIM", 2, nowOf(ship + "sinks 51;lists 24;trims 44;", 4));
        Check.due("WATER and TRIM", 1, nowOf(ship + "sinks 50;lists 25;trims 44;", 4));
        Check.due("TRIM alone", 3, nowOf(ship + "sinks 51;lists 25;trims 44;", 4));
        Check.due("none", 0, nowOf(ship + "sinks 51;lists 25;trims 45;", 4));
    }

    // ---- promises 6 to 10

    /** Promise 6: "0 TONS .. 5 whether its VALVE is open. BAD." */
    private static void holdAnswers() {
        WhichHold x = small();
        int[][] due = {{10, 0, 3, 4, 4, 0}, {20, 2, 18, 5, 3, 0}};
        for (int h = 0; h < 2; h++) {
            for (int what = 0; what < 6; what++) {
                Check.due("hold(" + h + ", " + what + ")", due[h][what], x.hold(h, what));
            }
        }
        for (int what = 0; what < 6; what++) {
            int w = what;
            only("HOLD", 1, x, (y, h) -> y.hold(h, w));
            only("HOLD", 7, greatest(), (y, h) -> y.hold(h, w));
        }
        only("what of a HOLD", 5, x, (y, what) -> y.hold(1, what));
        x.order(0, 4, 1, 1);
        x.order(3, 4, 1, 0);
        for (int minute = 0; minute < 7; minute++) {
            Check.due("VALVE 1 in MINUTE " + minute, minute >= 2 && minute < 5 ? 1 : 0, x.hold(1, 5));
            Check.due("VALVE 0 in MINUTE " + minute, 0, x.hold(0, 5));
            x.go(1);
        }
    }

    /** Promise 7: "0, 1 its HOLDS .. 6 whether an ORDER for it is under way. BAD." */
    private static void doorAnswers() {
        WhichHold x = small();
        int[][] due = {{1, 0, 2, 3, 4, 1, 0}, {0, 1, 5, 6, 7, 0, 0}};
        for (int d = 0; d < 2; d++) {
            for (int what = 0; what < 7; what++) {
                Check.due("door(" + d + ", " + what + ")", due[d][what], x.door(d, what));
            }
        }
        for (int what = 0; what < 7; what++) {
            int w = what;
            only("DOOR", 1, x, (y, d) -> y.door(d, w));
            only("DOOR", 9, greatest(), (y, d) -> y.door(d, w));
        }
        only("what of a DOOR", 6, x, (y, what) -> y.door(1, what));
    }

    /** "6 whether an ORDER for it is under way": SHUT and OPEN of this DOOR alone. */
    private static void doorWhileUnderWay() {
        WhichHold x = Check.ship(Edge.SHIP);
        x.order(1, 0, 0, 0);
        x.order(4, 1, 1, 0);
        x.order(6, 2, 0, 0);
        x.order(6, 3, 1, 0);
        int[] first = {0, 0, 1, 1, 0, 0, 0, 0};
        int[] second = {0, 0, 0, 0, 0, 1, 0, 0};
        for (int minute = 0; minute < 8; minute++) {
            Check.due("DOOR 0 in MINUTE " + minute, first[minute], x.door(0, 6));
            Check.due("DOOR 1 in MINUTE " + minute, second[minute], x.door(1, 6));
            x.go(1);
        }
        WhichHold y = Check.ship(Edge.SHIP);
        y.order(0, 2, 1, 0);
        y.order(0, 4, 0, 1);
        y.go(1);
        Check.due("under way", 2, y.now(6));
        Check.due("a SAIL is no ORDER for DOOR 1", 0, y.door(1, 6));
        Check.due("a VALVE is no ORDER for DOOR 0", 0, y.door(0, 6));
    }

    /** Promise 8: "0 HOLD, 1 RATE, 2 minutes, 3 whether a sail is over it, 4 tons that come in a minute now. BAD." */
    private static void holeAnswers() {
        WhichHold x = small();
        int[] due = {1, 9, 11, 0, 7};
        for (int what = 0; what < 5; what++) {
            int w = what;
            Check.due("hole(0, " + what + ")", due[what], x.hole(0, what));
            only("HOLE", 0, x, (y, h) -> y.hole(h, w));
            only("HOLE", 3, greatest(), (y, h) -> y.hole(h, w));
        }
        only("what of a HOLE", 4, x, (y, what) -> y.hole(0, what));
    }

    /** "RATE times (12 less HEIGHT), by 12, up, .. as far as there is room": as much as then comes. */
    private static void holeByHeight() {
        for (int rate : new int[] {1, 2, 5, 11, 12, 13, 20}) {
            WhichHold x = Check.ship("hold 12 1 9 0;hold 96 1 9 0;hole 0 " + rate + " 1;hole 1 " + rate + " 1;");
            for (int height = 0; height <= 12; height++) {
                int up = (rate * (12 - height) + 11) / 12;
                x.put(0, height);
                x.put(1, 8 * height);
                int of0 = x.hole(0, 4);
                int of1 = x.hole(1, 4);
                Check.due("RATE " + rate + ", HEIGHT " + height + ", room for " + (12 - height), Math.min(up, 12 - height), of0);
                Check.due("RATE " + rate + ", HEIGHT " + height, Math.min(up, 96 - 8 * height), of1);
                Check.due("as much comes in", 9 * height + of0 + of1, x.go(1));
            }
        }
    }

    /** "(with a sail half of it, up)". */
    private static void holeWithSail() {
        int[] half = {0, 1, 1, 2, 2, 3, 3, 4, 4, 5, 5, 6, 6, 7, 7, 8, 8, 9, 9, 10, 10};
        for (int rate = 1; rate <= 20; rate++) {
            WhichHold x = Check.ship("hold 96 1 9 0;hole 0 " + rate + " 1;");
            x.order(0, 2, 0, 0);
            x.go(1);
            x.put(0, 0);
            Check.due("no sail yet over RATE " + rate, rate, x.hole(0, 4));
            Check.due("no sail yet", 0, x.hole(0, 3));
            Check.due("a sail over RATE " + rate, half[rate], x.go(1));
            x.put(0, 0);
            Check.due("a sail", 1, x.hole(0, 3));
            Check.due("a sail over RATE " + rate, half[rate], x.hole(0, 4));
            Check.due("RATE stays", rate, x.hole(0, 1));
            x.put(0, 88);
            Check.due("a sail, HEIGHT 11", 1, x.hole(0, 4));
            x.put(0, 96);
            Check.due("a sail, full", 0, x.hole(0, 4));
        }
    }

    /** Promise 9: "0 RATE, 1 the HOLD at which it is (NONE). BAD." */
    private static void pumpAnswers() {
        WhichHold x = small();
        Check.due("pump(0, 0)", 8, x.pump(0, 0));
        Check.due("pump(0, 1)", 1, x.pump(0, 1));
        for (int what = 0; what < 2; what++) {
            int w = what;
            only("PUMP", 0, x, (y, p) -> y.pump(p, w));
            only("PUMP", 2, greatest(), (y, p) -> y.pump(p, w));
        }
        only("what of a PUMP", 1, x, (y, what) -> y.pump(0, what));
        x.order(0, 3, 0, NONE);
        x.order(2, 3, 0, 0);
        int[] at = {1, 1, NONE, NONE, 0};
        for (int minute = 0; minute < 5; minute++) {
            Check.due("PUMP in MINUTE " + minute, at[minute], x.pump(0, 1));
            x.go(1);
        }
    }

    /** Promise 10: "0 crews, 1 sinks, 2 lists, 3 trims, 4 safe. BAD." */
    private static void ruleAnswers() {
        WhichHold x = small();
        int[] due = {2, 500, 50, 70, 1};
        for (int what = 0; what < 5; what++) {
            Check.due("rule(" + what + ")", due[what], x.rule(what));
        }
        only("a rule", 4, x, (y, what) -> y.rule(what));
        only("a rule of a new one", 4, new WhichHold(), (y, what) -> y.rule(what));
    }

    /** "there is no such HOLD, DOOR, HOLE, PUMP": nor one that an earlier text told. */
    private static void noneOfAGreaterShip() {
        WhichHold x = greatest();
        Check.tell(x, "hold 9 1 9 0;hold 9 1 9 0;door 0 1 0 1 1;hole 0 1 1;pump 1 0;");
        only("HOLD", 1, x, (y, h) -> y.hold(h, 0));
        only("DOOR", 0, x, (y, d) -> y.door(d, 5));
        only("HOLE", 0, x, (y, h) -> y.hole(h, 1));
        only("PUMP", 0, x, (y, p) -> y.pump(p, 0));
        for (int h = 2; h < 9; h++) {
            Check.due("put(" + h + ", 0)", BAD, x.put(h, 0));
        }
    }

    /** What is only asked, or refused, changes nothing. */
    private static void askingChangesNothing() {
        for (Edge.Past past : new Edge.Past[] {Edge::busy, Edge::sunk}) {
            for (int wrong : new int[] {-1, 9, Edge.FAR, Edge.LOW}) {
                Edge.refused("hold", past, BAD, x -> x.hold(wrong, 3));
                Edge.refused("door", past, BAD, x -> x.door(wrong, 5));
                Edge.refused("hole", past, BAD, x -> x.hole(wrong, 4));
                Edge.refused("pump", past, BAD, x -> x.pump(wrong, 1));
                Edge.refused("rule", past, BAD, x -> x.rule(wrong));
                Edge.refused("now", past, BAD, x -> x.now(wrong));
            }
            Edge.refused("what of a HOLD", past, BAD, x -> x.hold(0, 6));
            Edge.refused("what of a DOOR", past, BAD, x -> x.door(0, 7));
            Edge.refused("what of a HOLE", past, BAD, x -> x.hole(0, 5));
            Edge.refused("what of a PUMP", past, BAD, x -> x.pump(0, 2));
            Edge.changesNothing("what there is", past, x -> x.hold(0, 3) + x.hold(0, 4) + x.door(0, 5) + x.hole(0, 4) + x.pump(0, 1)
                + x.rule(0) + x.fault() + x.torn() + x.now(0) + x.now(2) + x.given(0, 0) + x.count(0));
        }
    }

    // ---- promise 11

    /** "WATER of a HOLD becomes v (0 to its TONS): what it was." */
    private static void putAnswersWhatItWas() {
        WhichHold x = Check.ship("hold 1 1 9 1;hold 99 1 9 3;");
        int[][] puts = {{0, 0, 1}, {0, 1, 0}, {0, 1, 1}, {1, 99, 3}, {1, 0, 99}, {1, 50, 0}, {1, 50, 50}};
        for (int[] p : puts) {
            Check.due("put(" + p[0] + ", " + p[1] + ")", p[2], x.put(p[0], p[1]));
            Check.due("hold(" + p[0] + ", 3)", p[1], x.hold(p[0], 3));
        }
        Check.due("WATER in all", 51, x.now(1));
    }

    /** "(0 to its TONS)", "BAD": another HOLD, less, more. */
    private static void putOutside() {
        for (int tons : new int[] {1, 24, 99}) {
            for (int v : new int[] {-1, tons + 1, 100, 255, 256, Edge.FAR, Edge.LOW, Edge.LOW + tons}) {
                Check.due("put(0, " + v + ") into " + tons, BAD, Check.ship("hold " + tons + " 1 9 1;").put(0, v));
            }
        }
        for (int v : new int[] {-1, 25, Edge.FAR, Edge.LOW}) {
            Edge.refused("put(0, " + v + ")", Edge::busy, BAD, x -> x.put(0, v));
        }
        for (int h : new int[] {-1, 3, 8, Edge.FAR, Edge.LOW}) {
            Edge.refused("put(" + h + ", 0)", Edge::busy, BAD, x -> x.put(h, 0));
        }
        Edge.refused("put without HOLDS", Edge::empty, BAD, x -> x.put(0, 0));
    }

    /** "BAD; STATE: she has SUNK", "the first that fits". */
    private static void putIntoTheSunk() {
        Edge.refused("put(0, 0) of the sunk", Edge::sunk, STATE, x -> x.put(0, 0));
        Edge.refused("put(1, 50) of the sunk", Edge::sunk, STATE, x -> x.put(1, 50));
        Edge.refused("put(1, 51) of the sunk", Edge::sunk, BAD, x -> x.put(1, 51));
        Edge.refused("put(1, -1) of the sunk", Edge::sunk, BAD, x -> x.put(1, -1));
        Edge.refused("put(2, 0) of the sunk", Edge::sunk, BAD, x -> x.put(2, 0));
        Edge.refused("put(-1, 0) of the sunk", Edge::sunk, BAD, x -> x.put(-1, 0));
        WhichHold x = Edge.sunk();
        x.back(0);
        Check.due("she floats again", 3, x.put(1, 4));
    }

    /** "it is seen whether she SINKS (also when WATER is put ..)": at once, in the MINUTE that is. */
    private static void putThatSinks() {
        int[][] edges = {{0, 39, 40, 1}, {1, 15, 16, 2}, {2, 19, 20, 3}};
        for (int[] e : edges) {
            WhichHold x = Check.ship("hold 50 1 9 0;hold 50 2 9 0;hold 50 1 10 0;sinks 40;lists 7;trims 1;");
            x.go(4);
            Check.due("put(" + e[0] + ", " + e[1] + ")", 0, x.put(e[0], e[1]));
            Check.due("she floats", 0, x.now(4));
            Check.due("not seen", NONE, x.now(5));
            Check.due("put(" + e[0] + ", " + e[2] + ")", e[1], x.put(e[0], e[2]));
            Check.due("why", e[3], x.now(4));
            Check.due("seen", 4, x.now(5));
            x.go(2);
            Check.due("seen stays", 4, x.now(5));
            Check.due("put of the sunk", STATE, x.put(e[0], 0));
        }
    }

    /** Only WATER changes: no MINUTE goes, no ORDER begins. */
    private static void putMovesNoMinute() {
        WhichHold x = Edge.busy();
        int[] was = {x.now(0), x.now(6), x.now(7), x.hold(0, 3), x.hold(1, 3), x.count(4), x.count(5)};
        x.put(2, 0);
        int[] is = {x.now(0), x.now(6), x.now(7), x.hold(0, 3), x.hold(1, 3), x.count(4), x.count(5)};
        for (int i = 0; i < was.length; i++) {
            Check.due("stays by put [" + i + "]", was[i], is[i]);
        }
        Edge.alike("put and put back", Edge::busy, () -> {
            WhichHold y = Edge.busy();
            y.put(1, y.put(1, 9));
            return y;
        });
    }
}
