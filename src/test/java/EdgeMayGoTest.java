/** The edges of promises 25 to 30: together, beside, most, upright, men, dry, a sentence of the document each. */
public final class EdgeMayGoTest {
    private static final int BAD = Edge.BAD, NONE = Edge.NONE;
    private static final String EIGHT = "hold 9 1 9 0;".repeat(8);

    public static void main(String[] args) {
        togetherOutside();
        togetherEach();
        togetherJustFloats();
        togetherFullAlready();
        besideOutside();
        besideIsSymmetric();
        besideNotItself();
        besideOfOne();
        besideEachTwo();
        mostOutside();
        mostLeastBits();
        mostAllOrNone();
        mostNotEvenNone();
        uprightOutside();
        uprightLeastList();
        uprightThenTrim();
        uprightThenFewest();
        uprightThenLeastBits();
        uprightFloats();
        uprightByNone();
        menOutside();
        menByDoors();
        menWaysOfMany();
        menOfSafe();
        menOpenNow();
        dryOutside();
        dryNone();
        dryNothingToShut();
        dryFewest();
        dryLeastBits();
        dryOpenDoorsAlone();
        dryFromAnyHole();
        dryTenDoors();
        notOfAGreaterShip();
        askingChangesNothing();
        ofTheSunk();
        Check.finish("EdgeMayGoTest");
    }

    /** The ships of which the refused calls are asked, and what of them stays. */
    private static void outside(String name, int due, Edge.Call call) {
        Edge.refused(name, Edge::busy, due, call);
        Edge.refused(name + " of the sunk", Edge::sunk, due, call);
    }

    // ---- promise 25

    /** "HOLDS (bits)", "BAD": bits of HOLDS that there are, no others. */
    private static void togetherOutside() {
        for (int bits : new int[] {-1, 8, 9, 255, 256, Edge.FAR, Edge.LOW}) {
            outside("together(" + bits + ")", BAD, x -> x.together(bits));
        }
        for (int holds = 0; holds <= 8; holds++) {
            WhichHold x = Check.ship("hold 9 1 9 0;".repeat(holds));
            int all = (1 << holds) - 1;
            Check.due("no HOLD of " + holds, 1, x.together(0));
            Check.due("all of " + holds, 1, x.together(all));
            Check.due("one beyond " + holds, BAD, x.together(all + 1));
            Check.due("one beyond " + holds, BAD, x.together(1 << holds | 1));
            Check.due("-1", BAD, x.together(-1));
        }
    }

    /** "HOLDS that are full, the others as they are". */
    private static void togetherEach() {
        WhichHold x = Check.ship("hold 20 0 9 0;hold 20 1 9 5;hold 20 2 9 0;sinks 45;lists 9;");
        int[] due = {1, 0, 1, 0, 0, 0, 0, 0};
        for (int bits = 0; bits < 8; bits++) {
            Check.due("together(" + bits + ")", due[bits], x.together(bits));
        }
    }

    /** "she does not SINK": by WATER, LIST, TRIM, a ton to either side. */
    private static void togetherJustFloats() {
        WhichHold x = Check.ship("hold 30 1 9 0;hold 40 1 9 0;sinks 40;");
        x.put(1, 9);
        Check.due("39 of 40", 1, x.together(1));
        x.put(1, 10);
        Check.due("40 of 40", 0, x.together(1));
        WhichHold y = Check.ship("hold 30 2 9 0;hold 40 0 9 0;lists 10;");
        y.put(1, 9);
        Check.due("LIST 10", 1, y.together(1));
        y.put(1, 8);
        Check.due("LIST 11", 0, y.together(1));
        WhichHold z = Check.ship("hold 30 1 14 0;hold 40 1 8 0;trims 14;");
        z.put(1, 1);
        Check.due("TRIM 14", 1, z.together(1));
        z.put(1, 0);
        Check.due("TRIM 15", 0, z.together(1));
    }

    /** One that is full already is as it is. */
    private static void togetherFullAlready() {
        WhichHold x = Check.ship("hold 30 1 9 30;hold 30 1 9 0;sinks 60;");
        Check.due("none more", 1, x.together(0));
        Check.due("the full one", 1, x.together(1));
        Check.due("the other one", 0, x.together(2));
    }

    // ---- promise 26

    /** "BAD". */
    private static void besideOutside() {
        for (int h : new int[] {-1, 3, 8, Edge.FAR, Edge.LOW}) {
            outside("beside(" + h + ", 0)", BAD, x -> x.beside(h, 0));
            outside("beside(" + h + ", 1)", BAD, x -> x.beside(h, 1));
        }
        for (int what : new int[] {-1, 2, 3, Edge.FAR, Edge.LOW}) {
            outside("beside(0, " + what + ")", BAD, x -> x.beside(0, what));
        }
        WhichHold x = Check.ship(EIGHT);
        Check.due("beside(7, 0)", 127, x.beside(7, 0));
        Check.due("beside(8, 0)", BAD, x.beside(8, 0));
        Check.due("beside(8, 1)", BAD, x.beside(8, 1));
        Check.due("of a new one", BAD, new WhichHold().beside(0, 0));
        Check.due("of a new one", BAD, new WhichHold().beside(0, 1));
    }

    /** "HOLDS with which a HOLD may be full": each with each by together(). */
    private static void besideIsSymmetric() {
        WhichHold x = Check.ship("hold 20 0 9 0;hold 31 2 9 3;hold 20 2 4 0;hold 45 1 9 9;hold 10 0 16 0;lists 9;trims 9;sinks 70;");
        int mayBe = 0;
        for (int h = 0; h < 5; h++) {
            int bits = 0;
            for (int g = 0; g < 5; g++) {
                if (g != h && x.together(1 << g | 1 << h) == 1) {
                    bits |= 1 << g;
                    mayBe++;
                }
            }
            Check.due("beside(" + h + ", 0)", bits, x.beside(h, 0));
        }
        Check.due("some may, some not", 1, mayBe > 0 && mayBe < 20 ? 1 : 0);
    }

    /** A HOLD is none of those with which it may be full, also if it may be full alone. */
    private static void besideNotItself() {
        WhichHold x = Check.ship(EIGHT);
        for (int h = 0; h < 8; h++) {
            Check.due("beside(" + h + ", 0)", 255 & ~(1 << h), x.beside(h, 0));
        }
        Check.due("alone it may", 1, x.together(1));
    }

    /** One HOLD alone: there are no two unlike ones that may not. */
    private static void besideOfOne() {
        for (String rule : new String[] {"", "sinks 1;"}) {
            WhichHold x = Check.ship("hold 9 1 9 0;" + rule);
            Check.due("no other", 0, x.beside(0, 0));
            Check.due("no two", 1, x.beside(0, 1));
        }
    }

    /** "whether each two unlike HOLDS may (1: 1, 0; whichever the HOLD)". */
    private static void besideEachTwo() {
        for (int a = 0; a < 8; a++) {
            for (int b = a + 1; b < 8; b++) {
                // two of 30 tons are too many, one of them and another of 9 are not
                StringBuilder text = new StringBuilder("sinks 60;");
                for (int h = 0; h < 8; h++) {
                    text.append(h == a || h == b ? "hold 30 1 9 0;" : "hold 9 1 9 0;");
                }
                WhichHold x = Check.ship(text.toString());
                WhichHold y = Check.ship(text.toString().replace("sinks 60", "sinks 61"));
                for (int h = 0; h < 8; h++) {
                    Check.due("but " + a + " and " + b + ", asked of " + h, 0, x.beside(h, 1));
                    Check.due("each two, asked of " + h, 1, y.beside(h, 1));
                }
                Check.due("but " + b, 255 & ~(1 << a | 1 << b), x.beside(a, 0));
            }
        }
    }

    // ---- promise 27

    /** "BAD". */
    private static void mostOutside() {
        for (int what : new int[] {-1, 2, 3, Edge.FAR, Edge.LOW}) {
            outside("most(" + what + ")", BAD, x -> x.most(what));
        }
    }

    /** "these (1, bits; of several the least)". */
    private static void mostLeastBits() {
        for (int may = 0; may <= 8; may++) {
            WhichHold x = Check.ship(EIGHT + "sinks " + (9 * may + 1) + ";");
            Check.due("most(0) of " + may, may, x.most(0));
            Check.due("most(1) of " + may, (1 << may) - 1, x.most(1));
            WhichHold y = Check.ship(EIGHT + "sinks " + (9 * may + 9) + ";");
            Check.due("a ton less than one more", may, y.most(0));
        }
        WhichHold x = Check.ship("hold 30 1 9 0;hold 10 1 9 0;hold 10 1 9 0;hold 10 1 9 0;sinks 31;");
        Check.due("three small ones", 3, x.most(0));
        Check.due("three small ones", 14, x.most(1));
    }

    /** All HOLDS, none of them. */
    private static void mostAllOrNone() {
        WhichHold x = Check.ship(EIGHT);
        Check.due("all", 8, x.most(0));
        Check.due("all", 255, x.most(1));
        WhichHold y = Check.ship(EIGHT + "sinks 9;");
        Check.due("none", 0, y.most(0));
        Check.due("none", 0, y.most(1));
        Check.due("no HOLDS", 0, new WhichHold().most(0));
        Check.due("no HOLDS", 0, new WhichHold().most(1));
    }

    /** "NONE: not even none." */
    private static void mostNotEvenNone() {
        WhichHold x = Check.ship("hold 9 1 9 8;hold 9 1 9 1;sinks 9;");
        Check.due("as she is she SINKS", NONE, x.most(0));
        Check.due("as she is she SINKS", NONE, x.most(1));
        Check.due("BAD", BAD, x.most(2));
        Edge.refused("most(0) of the sunk", Edge::sunk, NONE, z -> z.most(0));
        Edge.refused("most(1) of the sunk", Edge::sunk, NONE, z -> z.most(1));
        WhichHold y = Check.ship("hold 40 0 9 40;hold 40 2 9 0;lists 9;");
        Check.due("not none, but both", 2, y.most(0));
        Check.due("not none, but both", 3, y.most(1));
    }

    // ---- promise 28

    /** "BAD". */
    private static void uprightOutside() {
        for (int what : new int[] {-1, 3, 4, Edge.FAR, Edge.LOW}) {
            outside("upright(" + what + ")", BAD, x -> x.upright(what));
        }
    }

    private static void upright(String name, String text, int bits, int list, int trim) {
        WhichHold x = Check.ship(text);
        Check.due(name + ": HOLDS", bits, x.upright(0));
        Check.due(name + ": LIST", list, x.upright(1));
        Check.due(name + ": TRIM", trim, x.upright(2));
    }

    /** "that with the least LIST", whatever the TRIM. */
    private static void uprightLeastList() {
        upright("LIST 0, TRIM 99 against LIST 1, TRIM 0", "hold 2 0 10 2;hold 99 2 18 0;hold 97 0 10 0;trims 99;", 6, 0, 99);
        upright("LIST 0, TRIM 9 against LIST 1, TRIM 0", "hold 3 0 9 3;hold 3 2 18 0;hold 90 1 10 70;trims 99;", 2, 0, 9);
        upright("LIST 1 against 3", "hold 20 0 9 20;hold 18 2 9 0;hold 14 2 9 0;", 2, 1, 0);
        upright("half a ton is none", "hold 20 0 9 20;hold 19 2 9 0;hold 1 2 9 0;", 2, 0, 0);
    }

    /** "then TRIM", whatever the number. */
    private static void uprightThenTrim() {
        upright("three small ones", "hold 30 0 9 30;hold 30 2 18 0;hold 10 2 9 0;hold 10 2 9 0;hold 10 2 9 0;", 28, 0, 0);
        upright("all eight", "hold 14 0 8 14;hold 14 2 18 0;" + "hold 2 2 8 0;".repeat(5) + "hold 4 2 16 0;", 252, 0, 0);
        upright("TRIM 1 against 2", "hold 20 0 9 20;hold 20 2 10 0;hold 20 2 8 0;hold 19 2 10 0;", 8, 0, 1);
    }

    /** "then the fewest HOLDS". */
    private static void uprightThenFewest() {
        upright("one of 30", "hold 30 0 9 30;hold 10 2 9 0;hold 20 2 9 0;hold 30 2 9 0;", 8, 0, 0);
        upright("none", "hold 30 1 9 0;hold 30 1 9 0;", 0, 0, 0);
        upright("none of the full", "hold 30 1 9 30;hold 30 1 9 30;", 0, 0, 0);
    }

    /** "then the least bits". */
    private static void uprightThenLeastBits() {
        upright("of three alike", "hold 30 0 9 30;hold 30 2 9 0;hold 30 2 9 0;hold 30 2 9 0;", 2, 0, 0);
        upright("of three alike", "hold 30 2 9 0;hold 30 2 9 0;hold 30 2 9 0;hold 30 0 9 30;", 1, 0, 0);
        upright("of pairs", "hold 10 2 9 0;hold 10 2 9 0;hold 20 0 9 20;hold 10 2 9 0;", 3, 0, 0);
    }

    /** "so that she does not SINK": a ton to either side. */
    private static void uprightFloats() {
        upright("41 tons of 42", "hold 20 0 9 20;hold 21 2 9 0;sinks 42;", 2, 0, 0);
        upright("41 tons of 41", "hold 20 0 9 20;hold 21 2 9 0;sinks 41;", 0, 10, 0);
        upright("TRIM 9 of 9", "hold 20 0 9 20;hold 20 2 14 0;trims 10;", 2, 0, 10);
        upright("TRIM 10 of 9", "hold 20 0 9 20;hold 20 2 14 0;trims 9;", 0, 10, 0);
        upright("LIST 10 of 10", "hold 20 0 9 20;hold 99 2 9 0;lists 10;", 0, 10, 0);
        upright("she SINKS as she is", "hold 22 0 9 22;hold 22 2 9 0;lists 10;", 2, 0, 0);
    }

    /** "BAD; NONE: by none." */
    private static void uprightByNone() {
        WhichHold x = Check.ship("hold 22 0 9 22;hold 99 2 9 0;lists 10;");
        for (int what = 0; what < 3; what++) {
            Check.due("upright(" + what + ") by none", NONE, x.upright(what));
        }
        Check.due("upright(3)", BAD, x.upright(3));
        Check.due("upright(-1)", BAD, x.upright(-1));
        for (int what = 0; what < 3; what++) {
            int w = what;
            Edge.refused("upright(" + what + ") of the sunk", Edge::sunk, NONE, y -> y.upright(w));
            Check.due("upright(" + what + ") of a new one", 0, new WhichHold().upright(what));
        }
    }

    // ---- promise 29

    /** "DOORS (bits)", "BAD": bits of DOORS that there are, no others. */
    private static void menOutside() {
        for (int bits : new int[] {-1, 4, 5, 1023, 1024, Edge.FAR, Edge.LOW}) {
            outside("men(" + bits + ")", BAD, x -> x.men(bits));
        }
        for (int doors = 0; doors <= 10; doors++) {
            WhichHold x = Check.ship(EIGHT + "door 0 1 0 1 1;".repeat(doors));
            int all = (1 << doors) - 1;
            Check.due("no DOOR of " + doors, doors == 0 ? 254 : 252, x.men(0));
            Check.due("all of " + doors, 254, x.men(all));
            Check.due("one beyond " + doors, BAD, x.men(all + 1));
            Check.due("one beyond " + doors, BAD, x.men(1 << doors | 1));
            Check.due("-1", BAD, x.men(-1));
        }
    }

    /** "HOLDS out of which MEN would be SHUT IN, if DOORS (bits) were shut, too". */
    private static void menByDoors() {
        WhichHold x = Check.ship("hold 9 1 9 0;".repeat(4) + "door 0 1 12 1 1;door 1 2 12 1 1;door 3 2 12 1 1;door 3 0 12 1 1 shut;safe 2;");
        int[] due = {0, 1, 3, 3, 8, 9, 11, 11};
        for (int doors = 0; doors < 8; doors++) {
            Check.due("men(" + doors + ")", due[doors], x.men(doors));
            Check.due("and the one that is shut", due[doors], x.men(doors | 8));
        }
        Check.due("nothing was shut", 1, x.door(0, 5));
    }

    /** A way may lead through all HOLDS and through DOORS against their numbers. */
    private static void menWaysOfMany() {
        StringBuilder up = new StringBuilder(EIGHT);
        StringBuilder down = new StringBuilder(EIGHT);
        for (int d = 0; d < 7; d++) {
            up.append("door ").append(d).append(' ').append(d + 1).append(" 12 1 1;");
            down.append("door ").append(7 - d).append(' ').append(6 - d).append(" 12 1 1;");
        }
        for (int safe = 0; safe < 8; safe++) {
            WhichHold x = Check.ship(up + "safe " + safe + ";");
            WhichHold y = Check.ship(down + "safe " + safe + ";");
            Check.due("one long way to " + safe, 0, x.men(0));
            Check.due("one long way to " + safe, 0, y.men(0));
            for (int d = 0; d < 7; d++) {
                int below = (1 << d + 1) - 1;
                Check.due("but DOOR " + d, safe <= d ? 255 & ~below : below, x.men(1 << d));
                Check.due("but DOOR " + d, safe <= d ? 255 & ~below : below, y.men(1 << 6 - d));
            }
        }
    }

    /** "to safe": who is there is not SHUT IN, whatever is shut. */
    private static void menOfSafe() {
        for (int safe = 0; safe < 3; safe++) {
            WhichHold x = Check.ship("hold 9 1 9 0;".repeat(3) + "door 0 1 0 1 1;door 1 2 0 1 1;safe " + safe + ";");
            Check.due("all shut", 7 & ~(1 << safe), x.men(3));
        }
        Check.due("safe is 0, if it is not told", 6, Check.ship("hold 9 1 9 0;".repeat(3)).men(0));
        Check.due("no HOLDS", 0, new WhichHold().men(0));
        Check.due("no DOORS", BAD, new WhichHold().men(1));
    }

    /** "by DOORS that are shut": as they are now; what is under way is not yet done. */
    private static void menOpenNow() {
        WhichHold x = Check.ship("hold 9 1 9 0;hold 9 1 9 0;door 0 1 0 1 2;");
        x.order(0, 0, 0, 0);
        x.order(4, 1, 0, 0);
        int[] due = {0, 0, 0, 2, 2, 2, 2, 0};
        for (int minute = 0; minute < 8; minute++) {
            Check.due("men(0) in MINUTE " + minute, due[minute], x.men(0));
            Check.due("men(1) in MINUTE " + minute, 2, x.men(1));
            x.go(1);
        }
    }

    // ---- promise 30

    /** "BAD". */
    private static void dryOutside() {
        for (int what = 0; what < 2; what++) {
            int w = what;
            for (int h : new int[] {-1, 3, 8, Edge.FAR, Edge.LOW}) {
                outside("dry(" + h + ", " + what + ")", BAD, x -> x.dry(h, w));
            }
        }
        for (int what : new int[] {-1, 2, 3, Edge.FAR, Edge.LOW}) {
            outside("dry(0, " + what + ") of one with a HOLE", BAD, x -> x.dry(0, what));
            outside("dry(1, " + what + ")", BAD, x -> x.dry(1, what));
        }
        WhichHold x = Check.ship(EIGHT);
        Check.due("dry(7, 0)", 0, x.dry(7, 0));
        Check.due("dry(8, 0)", BAD, x.dry(8, 0));
        Check.due("of a new one", BAD, new WhichHold().dry(0, 0));
    }

    /** "NONE: it has a HOLE", also under a sail, also one that lets nothing in. */
    private static void dryNone() {
        WhichHold x = Check.ship(EIGHT + "hole 7 1 1;hole 0 1 1;hole 3 1 1;hole 0 1 1;");
        for (int h = 0; h < 8; h++) {
            int due = h == 0 || h == 3 || h == 7 ? NONE : 0;
            Check.due("dry(" + h + ", 0)", due, x.dry(h, 0));
            Check.due("dry(" + h + ", 1)", due, x.dry(h, 1));
        }
        x.order(0, 2, 0, 0);
        x.go(3);
        Check.due("a sail is over it", NONE, x.dry(7, 0));
        WhichHold full = Check.ship("hold 9 1 9 9;hole 0 1 1;");
        Check.due("a full one", NONE, full.dry(0, 0));
        for (int what = 0; what < 2; what++) {
            int w = what;
            outside("dry(0, " + what + ")", NONE, y -> y.dry(0, w));
        }
    }

    /** No way leads to it: none to be shut. */
    private static void dryNothingToShut() {
        WhichHold x = Check.ship("hold 9 1 9 0;".repeat(4) + "door 0 1 0 1 1;door 2 3 0 1 1;door 1 2 0 1 1 shut;hole 0 1 1;");
        int[] count = {NONE, 1, 0, 0};
        int[] doors = {NONE, 1, 0, 0};
        for (int h = 0; h < 4; h++) {
            Check.due("dry(" + h + ", 0)", count[h], x.dry(h, 0));
            Check.due("dry(" + h + ", 1)", doors[h], x.dry(h, 1));
        }
        WhichHold none = Check.ship("hold 9 1 9 9;hold 9 1 9 0;door 0 1 0 1 1;");
        Check.due("no HOLES", 0, none.dry(1, 0));
        Check.due("no HOLES", 0, none.dry(1, 1));
    }

    /** "the fewest open DOORS to be shut so that no way through open ones leads to it". */
    private static void dryFewest() {
        // 0 and 1 are joined by three, 1 and 2 by two, 2 and 3 by one, 3 and 4 by two
        WhichHold x = Check.ship("hold 9 1 9 0;".repeat(5) + "door 0 1 0 1 1;".repeat(3) + "door 1 2 0 1 1;".repeat(2) + "door 3 2 0 1 1;"
            + "door 3 4 0 1 1;".repeat(2) + "hole 0 1 1;");
        int[] count = {NONE, 3, 2, 1, 1};
        int[] doors = {NONE, 7, 24, 32, 32};
        for (int h = 0; h < 5; h++) {
            Check.due("dry(" + h + ", 0)", count[h], x.dry(h, 0));
            Check.due("dry(" + h + ", 1)", doors[h], x.dry(h, 1));
        }
    }

    /** "of several the least bits". */
    private static void dryLeastBits() {
        WhichHold x = Check.ship("hold 9 1 9 0;".repeat(4) + "door 2 3 0 1 1;door 1 2 0 1 1;door 0 1 0 1 1;hole 0 1 1;");
        Check.due("dry(1, 1)", 4, x.dry(1, 1));
        Check.due("dry(2, 1)", 2, x.dry(2, 1));
        Check.due("dry(3, 1)", 1, x.dry(3, 1));
        // a ring: one DOOR of each way
        WhichHold y = Check.ship("hold 9 1 9 0;".repeat(4) + "door 0 1 0 1 1;door 1 2 0 1 1;door 2 3 0 1 1;door 3 0 0 1 1;hole 0 1 1;");
        Check.due("dry(2, 0)", 2, y.dry(2, 0));
        Check.due("dry(2, 1)", 5, y.dry(2, 1));
        Check.due("dry(1, 1)", 3, y.dry(1, 1));
        Check.due("dry(3, 1)", 9, y.dry(3, 1));
    }

    /** "open DOORS": one that is shut is none of them; what is under way is not yet done. */
    private static void dryOpenDoorsAlone() {
        WhichHold x = Check.ship("hold 9 1 9 0;hold 9 1 9 0;door 0 1 0 1 2;door 1 0 0 1 1 shut;door 0 1 0 1 1;hole 0 1 1;");
        Check.due("0 and 2", 5, x.dry(1, 1));
        x.order(0, 0, 0, 0);
        x.order(2, 1, 1, 0);
        int[] due = {5, 5, 5, 4, 6};
        for (int minute = 0; minute < 5; minute++) {
            Check.due("dry(1, 1) in MINUTE " + minute, due[minute], x.dry(1, 1));
            Check.due("dry(1, 0) in MINUTE " + minute, Integer.bitCount(due[minute]), x.dry(1, 0));
            x.go(1);
        }
    }

    /** "from a HOLD with a HOLE": from each of them. */
    private static void dryFromAnyHole() {
        WhichHold x = Check.ship("hold 9 1 9 0;".repeat(5) + "door 0 1 0 1 1;door 1 2 0 1 1;door 2 3 0 1 1;door 3 4 0 1 1;hole 0 1 1;hole 4 1 1;");
        Check.due("dry(1, 0)", 2, x.dry(1, 0));
        Check.due("dry(1, 1)", 3, x.dry(1, 1));
        Check.due("dry(2, 1)", 5, x.dry(2, 1));
        Check.due("dry(3, 1)", 9, x.dry(3, 1));
    }

    /** All ten DOORS. */
    private static void dryTenDoors() {
        WhichHold x = Check.ship("hold 9 1 9 0;hold 9 1 9 0;" + "door 0 1 0 1 1;".repeat(10) + "hole 0 1 1;");
        Check.due("dry(1, 0)", 10, x.dry(1, 0));
        Check.due("dry(1, 1)", 1023, x.dry(1, 1));
        WhichHold y = Check.ship("hold 9 1 9 0;hold 9 1 9 0;hold 9 1 9 0;" + "door 0 1 0 1 1;".repeat(9) + "door 1 2 0 1 1;hole 0 1 1;");
        Check.due("dry(2, 1)", 512, y.dry(2, 1));
    }

    // ---- all of them

    /** HOLDS, DOORS and HOLES of an earlier text are none. */
    private static void notOfAGreaterShip() {
        String small = "hold 9 1 9 0;hold 9 1 9 0;hold 9 1 9 0;door 0 1 0 1 1;hole 0 1 1;sinks 19;";
        WhichHold x = Check.ship("hold 99 2 18 99;".repeat(8) + "door 0 2 0 1 1;".repeat(10) + "hole 2 1 1;".repeat(4) + "safe 7;");
        for (int again = 0; again < 2; again++) {
            Check.tell(x, small);
            int[] got = {x.together(7), x.together(3), x.together(8), x.beside(0, 0), x.beside(2, 1), x.most(0), x.most(1), x.upright(0),
                x.men(0), x.men(1), x.men(2), x.dry(1, 1), x.dry(2, 0), x.dry(0, 0), x.upright(1), x.upright(2)};
            int[] due = {0, 1, BAD, 6, 1, 2, 3, 0, 4, 6, BAD, 1, 0, NONE, 0, 0};
            for (int i = 0; i < due.length; i++) {
                Check.due("behind a greater ship [" + i + "]", due[i], got[i]);
            }
        }
    }

    /** What is only asked changes nothing. */
    private static void askingChangesNothing() {
        Edge.Past[] pasts = {Edge::busy, Edge::sunk, Edge::empty};
        for (Edge.Past past : pasts) {
            Edge.changesNothing("together .. dry", past, x -> x.together(1) + x.together(0) + x.beside(0, 0) + x.beside(1, 1) + x.most(0)
                + x.most(1) + x.upright(0) + x.upright(1) + x.upright(2) + x.men(0) + x.men(1) + x.dry(1, 0) + x.dry(1, 1));
        }
    }

    /** These weigh WATER as it is: what has SUNK as it lies. */
    private static void ofTheSunk() {
        WhichHold x = Check.ship("hold 40 0 9 40;hold 40 2 9 0;lists 9;door 0 1 0 9 1;");
        Check.due("she has SUNK", 2, x.now(4));
        Check.due("together(0)", 0, x.together(0));
        Check.due("together(2)", 1, x.together(2));
        Check.due("beside(0, 0)", 2, x.beside(0, 0));
        Check.due("upright(0)", 2, x.upright(0));
        Check.due("men(1)", 2, x.men(1));
        Check.due("dry(1, 0)", 0, x.dry(1, 0));
    }
}
