/** The edges of THE TAPE, TOKENS, lines and FAULTS, and of promises 1 to 5, a sentence of the document each. */
public final class EdgeTextTest {
    private static final int BAD = Edge.BAD, STATE = Edge.STATE, FULL = Edge.FULL, NONE = Edge.NONE;
    private static final String HOLD = "hold 9 1 9 0;", THREE = HOLD + HOLD + HOLD;

    /** What of a ship a NUMBER told. */
    interface Told {
        int of(WhichHold x);
    }

    public static void main(String[] args) {
        newObject();
        newObjectHasNone();
        newObjectRuns();
        the512thCall();
        tapes();
        tokens();
        lines();
        faults();
        wholeTexts();
        Check.finish("EdgeTextTest");
    }

    private static void tapes() {
        tapeHas400Bytes();
        feedAbove400();
        feedHighestFirst();
        endOutside();
        endHadSoMany();
        endKeepsTheFirst();
        placesGoTo400();
    }

    private static void tokens() {
        eachByteAlone();
        blankIs32Alone();
        blanksBetween();
        tokensAsLongAsMayBe();
        figures();
    }

    private static void lines() {
        holdLine();
        doorLine();
        doorsHolds();
        doorShut();
        holeLine();
        pumpLine();
        ruleLines();
        toldAhead();
        lineNeedsAll();
        asManyAsMayBe();
        oneTooMany();
        numberedAsTheyCome();
        secondTime();
        onceInEachText();
    }

    private static void faults() {
        firstMet();
        readWhenTaken();
        nameThatBeginsNoLine();
        endIsALength();
        faultOfTheLatest();
    }

    private static void wholeTexts() {
        emptyText();
        mostLines();
        tellsAllInPlace();
        asAtFirst();
        imagesAreGone();
        soundedAndSheetsStay();
        refusedTextStays();
        refusedTextLeavesNoTrace();
        seenWhenTold();
    }

    private static void answers(String name, int due, int... got) {
        for (int i = 0; i < got.length; i++) {
            Check.due(name + " [" + i + "]", due, got[i]);
        }
    }

    private static void taken(String text, int lines) {
        WhichHold x = new WhichHold();
        Check.due("text " + text, lines, Check.tell(x, text));
        Check.due("fault() of " + text, 0, x.fault());
        Check.due("THE TAPE is empty behind " + text, 0, x.count(7));
    }

    private static void refused(String text, int fault, int place) {
        WhichHold x = new WhichHold();
        Check.due("text " + text, -10 - place, Check.tell(x, text));
        Check.due("fault() of " + text, fault, x.fault());
        Check.due("THE TAPE is empty behind " + text, 0, x.count(7));
    }

    // ---- promise 1

    /** "As told at first; no HOLDS, ORDERS; SHEETS of nothing." */
    private static void newObject() {
        WhichHold x = new WhichHold();
        int[] counts = {0, 0, 0, 0, 0, 0, 0, 0, NONE};
        int[] nows = {0, 0, 0, 0, 0, NONE, 0, 0};
        int[] rules = {1, 400, 40, 60, 0};
        for (int what = 0; what < 9; what++) {
            Check.due("new: count(" + what + ")", counts[what], x.count(what));
        }
        for (int what = 0; what < 8; what++) {
            Check.due("new: now(" + what + ")", nows[what], x.now(what));
        }
        for (int what = 0; what < 5; what++) {
            Check.due("new: rule(" + what + ")", rules[what], x.rule(what));
        }
        answers("new: fault, torn, end, recall, wipe", 0, x.fault(), x.torn(), x.end(0), x.recall(), x.wipe());
        answers("new: no IMAGE", STATE, x.back(0), x.back(1));
        for (int k = 0; k < 4; k++) {
            Check.due("new: SHEET " + k + " is nothing", -11, x.lay(k, 0, 0));
            Check.due("new: SHEET " + k + " is nothing", 0, x.read(k, 0, 0, 1));
            Check.due("new: SHEET " + k + " is nothing", 1, x.torn());
        }
    }

    /** "no HOLDS": there is none to be asked for, nor a DOOR, a HOLE, a PUMP, an ORDER. */
    private static void newObjectHasNone() {
        WhichHold x = new WhichHold();
        answers("new: there is none", BAD, x.hold(0, 0), x.door(0, 0), x.hole(0, 0), x.pump(0, 0), x.put(0, 0), x.given(0, 0),
            x.water(1, 0), x.latest(0, 1), x.beside(0, 0), x.beside(0, 1), x.dry(0, 0), x.rates(0), x.together(1), x.men(1));
        for (int kind = 0; kind < 5; kind++) {
            Check.due("new: no ORDER of kind " + kind, BAD, x.order(0, kind, 0, 0));
        }
        Check.due("new: none came", 0, x.count(4));
    }

    /** A RUN without HOLDS: no WATER, she floats. */
    private static void newObjectRuns() {
        WhichHold x = new WhichHold();
        Check.due("new: run(1, 0)", NONE, x.run(1, 0));
        answers("new: run(120, ..)", 0, x.run(120, 1), x.run(120, 2), x.run(120, 3), x.run(120, 4), x.run(120, 5), x.run(120, 6));
        answers("new: she floats", NONE, x.free(120), x.best(0, 60, 0));
        answers("new: nothing", 0, x.best(0, 60, 1), x.helps(60), x.most(0), x.most(1), x.upright(0), x.upright(1), x.upright(2),
            x.men(0), x.go(120));
        Check.due("new: no HOLD is full", 1, x.together(0));
        Check.due("new: no ORDER to choose", STATE, x.best(1, 60, 0));
    }

    /** "An object is used for at most 512 calls": the 512th answers as any other. */
    private static void the512thCall() {
        WhichHold x = new WhichHold();
        for (int i = 0; i < 511; i++) {
            x.go(120);
        }
        Check.due("the 512th call", 511 * 120, x.now(0));
        WhichHold y = Check.ship(HOLD);
        int made = 4;
        for (; made < 511; made++) {
            Check.due("call " + made, 0, y.keep(1) - (made == 4 ? 0 : 1));
        }
        Check.due("the 512th call", 0, y.back(1));
    }

    // ---- promises 2 and 3

    /** "THE TAPE has 400 bytes": 50 times eight. */
    private static void tapeHas400Bytes() {
        WhichHold x = new WhichHold();
        for (int i = 1; i <= 50; i++) {
            Check.due("feed " + i, 8 * i, x.feed(i));
        }
        answers("feed beyond", FULL, x.feed(0), x.feed(-1), x.feed(Long.MAX_VALUE), x.feed(Long.MIN_VALUE));
        Check.due("count(7)", 400, x.count(7));
    }

    private static WhichHold taped(int bytes) {
        WhichHold x = new WhichHold();
        for (int i = 0; i < 50; i++) {
            x.feed(Check.packed(i == 0 ? "crews 2;" : "        "));
        }
        x.end(bytes);
        return x;
    }

    /** "FULL: more than 400." */
    private static void feedAbove400() {
        for (int bytes = 385; bytes <= 392; bytes++) {
            Check.due("feed behind " + bytes, bytes + 8, taped(bytes).feed(0));
        }
        for (int bytes = 393; bytes <= 400; bytes++) {
            int had = bytes;
            Edge.refused("feed behind " + bytes, () -> taped(had), FULL, x -> x.feed(Check.packed("crews 9;")));
        }
    }

    /** "Eight bytes come behind THE TAPE, the highest first." */
    private static void feedHighestFirst() {
        WhichHold x = new WhichHold();
        x.feed(0x637265777320323BL);
        x.feed(0x6C6973747320373BL);
        Check.due("crews 2;lists 7;", 2, x.text());
        Check.due("rule(0)", 2, x.rule(0));
        Check.due("rule(2)", 7, x.rule(2));
        for (int at = 0; at < 8; at++) {
            // the byte with the highest bit alone is no TOKEN
            x.feed(0x2020202020202020L & ~(0xFFL << 56 - 8 * at) | 0x80L << 56 - 8 * at);
            Check.due("byte " + at, -10 - at, x.text());
            Check.due("byte " + at, 1, x.fault());
        }
    }

    /** "BAD (n above that, too)." */
    private static void endOutside() {
        for (int bytes : new int[] {0, 1, 8, 399, 400}) {
            for (int n : new int[] {-1, bytes + 1, 401, Edge.FAR, Edge.LOW, -400}) {
                Edge.refused("end(" + n + ") of " + bytes, () -> taped(bytes), BAD, x -> x.end(n));
            }
            Check.due("end(" + bytes + ")", bytes, taped(bytes).end(bytes));
            Check.due("end(0) of " + bytes, bytes, taped(bytes).end(0));
        }
    }

    /** "how many it had": not how many it keeps. */
    private static void endHadSoMany() {
        WhichHold x = taped(400);
        Check.due("end(399)", 400, x.end(399));
        Check.due("end(399) again", 399, x.end(399));
        Check.due("end(1)", 399, x.end(1));
        Check.due("end(2) is above", BAD, x.end(2));
        Check.due("end(0)", 1, x.end(0));
        Check.due("end(0) again", 0, x.end(0));
        Check.due("count(7)", 0, x.count(7));
    }

    /** "THE TAPE keeps its first n bytes": what comes next comes behind these. */
    private static void endKeepsTheFirst() {
        WhichHold x = taped(8);
        x.feed(Check.packed("lists 7;"));
        x.end(8);
        x.feed(Check.packed("trims 8;"));
        Check.due("text()", 2, x.text());
        Check.due("rule(0)", 2, x.rule(0));
        Check.due("rule(2)", 40, x.rule(2));
        Check.due("rule(3)", 8, x.rule(3));
        Check.type(x, "crews 1;");
        x.end(7);
        Check.due("its last byte is gone", -17, x.text());
    }

    /** "places from 0", "the end: the length": FAULTS at 0, at 399, at 400. */
    private static void placesGoTo400() {
        String blanks = " ".repeat(399);
        refused("?" + blanks, 1, 0);
        refused(blanks + "?", 1, 399);
        refused(blanks + ";", 2, 399);
        taken(" ".repeat(392) + "crews 3;", 1);
        refused(" ".repeat(393) + "crews 3", 2, 400);
        refused(" ".repeat(395) + "crews", 2, 400);
        refused("crews" + " ".repeat(395), 2, 400);
        taken(blanks + " ", 0);
    }

    // ---- tokens

    /** NAMES (a .. z), NUMBERS, the sign ";", blanks; "1 no TOKEN". */
    private static void eachByteAlone() {
        for (int sign = 0; sign < 256; sign++) {
            String text = String.valueOf((char) sign);
            boolean letter = sign >= 97 && sign <= 122;
            boolean figure = sign >= 48 && sign <= 57;
            if (sign == 32) {
                taken(text, 0);
            } else {
                refused(text, letter || figure || sign == 59 ? 2 : 1, 0);
            }
        }
    }

    /** "blanks (32)": no other byte stands between TOKENS. */
    private static void blankIs32Alone() {
        for (int sign = 0; sign < 256; sign++) {
            boolean letter = sign >= 97 && sign <= 122;
            boolean figure = sign >= 48 && sign <= 57;
            String text = "crews" + (char) sign + "1;";
            if (sign == 32 || sign == 48) {
                taken(text, 1);
            } else if (letter) {
                refused(text, 2, 0);
            } else if (figure) {
                refused(text, 3, 5);
            } else {
                refused(text, sign == 59 ? 2 : 1, 5);
            }
        }
    }

    /** "ahead, between, behind, as many as wanted (at least one between two NAMES, between two NUMBERS; else none is needed)". */
    private static void blanksBetween() {
        taken("hold9 1 9 0;hold9 1 9 0;door0 1 0 1 1shut;hole0 1 1;pump1 0;crews1;safe0;", 7);
        taken("   hold   9   1   9   0   ;   crews   1   ;   ", 2);
        taken(HOLD + HOLD + "door 0 1 0 1 1 shut ;", 3);
        taken(HOLD + HOLD + "door 0 1 0 1 1shut;", 3);
        refused("hold9190;", 1, 4);
        refused("hold 9 190;", 3, 7);
        refused("hold crews 1;", 2, 5);
        refused("holdcrews 1;", 2, 0);
    }

    /** "TOKENS, each as long as may be." */
    private static void tokensAsLongAsMayBe() {
        refused("holds 9 1 9 0;", 2, 0);
        refused("hol 9 1 9 0;", 2, 0);
        refused("ahold 9 1 9 0;", 2, 0);
        refused("crew 1;", 2, 0);
        refused("crewss 1;", 2, 0);
        refused("shold 9 1 9 0;", 2, 0);
        refused(HOLD + HOLD + "door 0 1 0 1 1 shutt;", 2, 41);
        refused(HOLD + HOLD + "door 0 1 0 1 1 shu;", 2, 41);
        refused(HOLD + HOLD + "door 0 1 0 1 1shutshut;", 2, 40);
        refused("crews 11;", 3, 6);
        refused(";;", 2, 0);
        refused("crews 1;;", 2, 8);
    }

    /** "NUMBERS (1 to 3 figures)", "a NUMBER that is too long (its first byte)". */
    private static void figures() {
        for (String two : new String[] {"2", "02", "002"}) {
            WhichHold x = Check.ship("crews " + two + ";");
            Check.due("crews " + two, 2, x.rule(0));
        }
        refused("crews 0002;", 1, 6);
        refused("crews 00000000000000000002;", 1, 6);
        refused("crews 999;", 3, 6);
        refused("crews 1000;", 1, 6);
        refused("sinks 9999999999;", 1, 6);
        refused("0000", 1, 0);
        refused("000", 2, 0);
        refused("hold 9 1 9 0 1234;", 1, 13);
        refused("crews 1 123;", 2, 8);
    }

    // ---- lines

    /** Each NUMBER from one below its least to one above its greatest. */
    private static void bounds(String ahead, String behind, int least, int greatest, Told told) {
        for (int v = Math.max(0, least - 1); v <= greatest + 1; v++) {
            String text = ahead + v + behind;
            WhichHold x = new WhichHold();
            int answer = Check.tell(x, text);
            if (v >= least && v <= greatest) {
                Check.due("taken: " + text, 1, answer > 0 ? 1 : 0);
                Check.due("told by " + text, v, told.of(x));
            } else {
                Check.due("out of its bounds: " + text, -10 - ahead.length(), answer);
                Check.due("FAULT of " + text, 3, x.fault());
            }
        }
        refused(ahead + "999" + behind, 3, ahead.length());
        refused(ahead + "-1" + behind, 1, ahead.length());
        refused(ahead + "x" + behind, 2, ahead.length());
        refused(ahead + ";" + behind, 2, ahead.length());
        refused(ahead, 2, ahead.length());
    }

    /** "TONS (1 to 99), a SIDE (0 .. 2), an ARM (0 to 18), WATER (0 to TONS)". */
    private static void holdLine() {
        bounds("hold ", " 1 9 0;", 1, 99, x -> x.hold(0, 0));
        bounds("hold 9 ", " 9 0;", 0, 2, x -> x.hold(0, 1));
        bounds("hold 9 1 ", " 0;", 0, 18, x -> x.hold(0, 2));
        bounds("hold 1 1 9 ", ";", 0, 1, x -> x.hold(0, 3));
        bounds("hold 50 1 9 ", ";", 0, 50, x -> x.hold(0, 3));
        bounds("hold 99 1 9 ", ";", 0, 99, x -> x.hold(0, 3));
    }

    /** "SILL (0 to 12), RATE (1 to 9 tons a minute), minutes (1 to 9)". */
    private static void doorLine() {
        bounds(THREE + "door 0 1 ", " 1 1;", 0, 12, x -> x.door(0, 2));
        bounds(THREE + "door 0 1 0 ", " 1;", 1, 9, x -> x.door(0, 3));
        bounds(THREE + "door 0 1 0 1 ", ";", 1, 9, x -> x.door(0, 4));
    }

    /** "two HOLDS (told ahead, unlike)", "the second HOLD of a door like the first". */
    private static void doorsHolds() {
        for (int a = 0; a <= 3; a++) {
            for (int b = 0; b <= 3; b++) {
                String text = THREE + "door " + a + " " + b + " 0 1 1;";
                if (a == 3) {
                    refused(text, 3, 44);
                } else if (b == 3 || a == b) {
                    refused(text, 3, 46);
                } else {
                    WhichHold x = Check.ship(text);
                    Check.due("first HOLD", a, x.door(0, 0));
                    Check.due("second HOLD", b, x.door(0, 1));
                }
            }
        }
        refused(HOLD + "door 0 0 99 99 99;", 3, 20);
    }

    /** "[ shut ]": "open, if not shut." */
    private static void doorShut() {
        WhichHold x = Check.ship(HOLD + HOLD + "door 0 1 0 1 1;door 0 1 0 1 1 shut;door 0 1 0 1 1;");
        Check.due("not told: open", 1, x.door(0, 5));
        Check.due("shut", 0, x.door(1, 5));
        Check.due("the next is open", 1, x.door(2, 5));
        refused(HOLD + HOLD + "door 0 1 0 1 1 shut shut;", 2, 46);
        refused(HOLD + HOLD + "door 0 1 0 1 1 2;", 2, 41);
        refused(HOLD + HOLD + "door 0 1 0 1 shut;", 2, 39);
        refused(HOLD + HOLD + "door shut 0 1 0 1 1;", 2, 31);
        refused(HOLD + HOLD + "door 0 1 0 1 1 shut 2;", 2, 46);
        refused(HOLD + HOLD + "door 0 1 0 1 1 shut", 2, 45);
        refused(HOLD + HOLD + "door 0 1 0 1 1 hold", 2, 41);
    }

    /** "hole: a HOLD (told ahead), RATE (1 to 20), minutes that a sail takes (1 to 20)". */
    private static void holeLine() {
        bounds(THREE + "hole ", " 1 1;", 0, 2, x -> x.hole(0, 0));
        bounds(THREE + "hole 0 ", " 1;", 1, 20, x -> x.hole(0, 1));
        bounds(THREE + "hole 0 1 ", ";", 1, 20, x -> x.hole(0, 2));
    }

    /** "pump: RATE (1 to 9), a HOLD (told ahead) at which it is." */
    private static void pumpLine() {
        bounds(THREE + "pump ", " 0;", 1, 9, x -> x.pump(0, 0));
        bounds(THREE + "pump 1 ", ";", 0, 2, x -> x.pump(0, 1));
    }

    /** "crews: 1 to 3. sinks: 1 to 800. lists: 1 to 99, trims: 1 to 99. safe: a HOLD (told ahead)." */
    private static void ruleLines() {
        bounds("crews ", ";", 1, 3, x -> x.rule(0));
        bounds("sinks ", ";", 1, 800, x -> x.rule(1));
        bounds("lists ", ";", 1, 99, x -> x.rule(2));
        bounds("trims ", ";", 1, 99, x -> x.rule(3));
        bounds(THREE + "safe ", ";", 0, 2, x -> x.rule(4));
    }

    /** "told ahead": a HOLD that is told behind is none yet, nor one of an earlier text. */
    private static void toldAhead() {
        refused("door 0 1 0 1 1;" + HOLD + HOLD, 3, 5);
        refused(HOLD + "door 0 1 0 1 1;" + HOLD, 3, 20);
        refused(HOLD + "door 1 0 0 1 1;" + HOLD, 3, 18);
        refused("hole 0 1 1;" + HOLD, 3, 5);
        refused(HOLD + "hole 1 1 1;" + HOLD, 3, 18);
        refused("pump 1 0;" + HOLD, 3, 7);
        refused(HOLD + "pump 1 1;" + HOLD, 3, 20);
        refused("safe 0;" + HOLD, 3, 5);
        refused(HOLD + "safe 1;" + HOLD, 3, 18);
        WhichHold x = Check.ship(THREE);
        Check.due("a HOLD of the text before", -15, Check.tell(x, "safe 0;"));
        Check.due("its FAULT", 3, x.fault());
        Check.due("a HOLD of the text before", -23, Check.tell(x, "hold 9 1 9 0;hole 2 1 1;") + 5);
    }

    /** A line that ends too early or goes on too long: "2 a TOKEN that can not stand there". */
    private static void lineNeedsAll() {
        String[] whole = {"hold 9 1 9 0;", "door 0 1 0 1 1;", "hole 0 1 1;", "pump 1 0;", "crews 1;", "sinks 9;", "lists 9;",
            "trims 9;", "safe 0;"};
        for (String line : whole) {
            String text = THREE + line;
            taken(text, 4);
            int end = text.length() - 1;
            refused(text.substring(0, end), 2, end);
            refused(text.substring(0, end) + " 0;", 2, end + 1);
            refused(text.substring(0, end - 2) + ";", 2, end - 2);
            refused(text.substring(0, end) + " shut" + (line.startsWith("door") ? " shut;" : ";"), 2,
                line.startsWith("door") ? end + 6 : end + 1);
        }
    }

    private static String most(int doors, int holes, int pumps) {
        return HOLD.repeat(8) + "door0 7 0 1 1;".repeat(doors) + "hole7 1 1;".repeat(holes) + "pump1 7;".repeat(pumps);
    }

    /** "HOLDS (8), DOORS (10), HOLES (4), PUMPS (3)". */
    private static void asManyAsMayBe() {
        WhichHold x = Check.ship(most(10, 4, 3));
        int[] counts = {8, 10, 4, 3};
        for (int what = 0; what < 4; what++) {
            Check.due("count(" + what + ")", counts[what], x.count(what));
        }
        Check.due("HOLD 7", 9, x.hold(7, 0));
        Check.due("DOOR 9", 7, x.door(9, 1));
        Check.due("HOLE 3", 7, x.hole(3, 0));
        Check.due("PUMP 2", 7, x.pump(2, 1));
        answers("there is none behind the last", BAD, x.hold(8, 0), x.door(10, 0), x.hole(4, 0), x.pump(3, 0));
    }

    /** "5 the 9th hold, the 11th door, the 5th hole, the 4th pump (its NAME)", whatever stands behind it. */
    private static void oneTooMany() {
        for (String behind : new String[] {"", " ", ".", ";", " 0", " 999 999 999 999 999;", "hold"}) {
            String rest = behind.equals("hold") ? " hold" : behind;
            refused(HOLD.repeat(8) + "hold" + rest, 5, 104);
            refused(most(10, 0, 0) + "door" + rest, 5, 244);
            refused(most(0, 4, 0) + "hole" + rest, 5, 144);
            refused(most(0, 0, 3) + "  pump" + rest, 5, 130);
        }
        taken(most(10, 4, 3), 25);
    }

    /** "are numbered as they come". */
    private static void numberedAsTheyCome() {
        WhichHold x = Check.ship("hold 11 0 1 1;hold 12 1 2 2;pump 1 1;hole 1 7 3;door 1 0 5 1 1;hold 13 2 3 3;pump 2 2;"
            + "hole 2 8 4;door 2 0 6 2 2;hole 0 9 5;");
        for (int i = 0; i < 3; i++) {
            Check.due("TONS of HOLD " + i, 11 + i, x.hold(i, 0));
            Check.due("SIDE of HOLD " + i, i, x.hold(i, 1));
            Check.due("ARM of HOLD " + i, 1 + i, x.hold(i, 2));
            Check.due("WATER of HOLD " + i, 1 + i, x.hold(i, 3));
            Check.due("RATE of HOLE " + i, 7 + i, x.hole(i, 1));
            Check.due("minutes of HOLE " + i, 3 + i, x.hole(i, 2));
        }
        for (int i = 0; i < 2; i++) {
            Check.due("SILL of DOOR " + i, 5 + i, x.door(i, 2));
            Check.due("RATE of DOOR " + i, 1 + i, x.door(i, 3));
            Check.due("minutes of DOOR " + i, 1 + i, x.door(i, 4));
            Check.due("RATE of PUMP " + i, 1 + i, x.pump(i, 0));
        }
    }

    /** "4 crews, sinks, lists, trims, safe for the second time (its NAME)", whatever stands behind it. */
    private static void secondTime() {
        for (String name : new String[] {"crews", "sinks", "lists", "trims", "safe"}) {
            String value = name.equals("safe") ? " 0;" : " 1;";
            taken(HOLD + name + value, 2);
            for (String behind : new String[] {value, "", ".", ";", " 999;"}) {
                refused(HOLD + name + value + HOLD + name + behind, 4, 26 + name.length() + 3);
            }
        }
        taken("crews 1;sinks 1;lists 1;trims 1;" + HOLD + "safe 0;", 6);
    }

    /** A second time is one in the same text; a refused text has told nothing. */
    private static void onceInEachText() {
        WhichHold x = Check.ship("crews 2;");
        Check.due("in the next text", 1, Check.tell(x, "crews 3;"));
        Check.due("a FAULT behind it", -18, Check.tell(x, "crews 1;."));
        Check.due("behind a refused text", 1, Check.tell(x, "crews 2;"));
        Check.due("rule(0)", 2, x.rule(0));
    }

    // ---- faults

    /** "the first met as it is read". */
    private static void firstMet() {
        refused("crews 9 . crews 9;", 3, 6);
        refused("crews 1.;crews 2;", 1, 7);
        refused("crews 1;crews 2.", 4, 8);
        refused("crews 1;;.", 2, 8);
        refused("hold 0 3 19 1;", 3, 5);
        refused("hold 9 3 19 10;", 3, 7);
        refused("hold 9 1 19 10;", 3, 9);
        refused("hold 9 1 9 10.", 3, 11);
    }

    /** "a TOKEN is read when the one before has been taken": what can not be taken stands ahead of what is no TOKEN. */
    private static void readWhenTaken() {
        refused("hold 0.", 3, 5);
        refused("hold 1.", 1, 6);
        refused("flood.", 2, 0);
        refused("hold.", 1, 4);
        refused("hold;.", 2, 4);
        refused(THREE + "door 1 1.", 3, 46);
        refused(THREE + "door 1 2.", 1, 47);
        refused(THREE + "door 0 1 0 1 1 open.", 2, 54);
        refused(THREE + "door 0 1 0 1 1 shut.", 1, 58);
        refused("crews 1 1.", 2, 8);
        refused("crews 1 .", 1, 8);
        refused("crews 1 1234", 1, 8);
    }

    /** "a NAME that begins no line". */
    private static void nameThatBeginsNoLine() {
        for (String name : new String[] {"a", "z", "shut", "text", "line", "n", "tons", "doors", "holes", "pumps", "sink", "list", "trim", "save"}) {
            refused(name + " 1;", 2, 0);
            refused(HOLD + " " + name, 2, 14);
        }
    }

    /** "or the end: the length": blanks behind count. */
    private static void endIsALength() {
        for (String text : new String[] {"hold", "hold 9", "hold 9 1 9 0", "crews", "crews 1", HOLD + "crews 1   ", "  safe  "}) {
            refused(text, 2, text.length());
        }
        taken("crews 1;   ", 1);
    }

    /** Promise 5: "The FAULT of the latest text(); 0." */
    private static void faultOfTheLatest() {
        WhichHold x = new WhichHold();
        Check.due("none yet", 0, x.fault());
        String[] texts = {".", ";", "crews 0;", "crews 1;crews 1;", HOLD.repeat(9)};
        for (int i = 0; i < texts.length; i++) {
            Check.tell(x, texts[i]);
            Check.due("FAULT " + (i + 1), i + 1, x.fault());
            x.feed(0);
            x.end(0);
            x.go(1);
            Check.due("it stays by other calls", i + 1, x.fault());
        }
        Check.tell(x, HOLD);
        Check.due("none by a text that is taken", 0, x.fault());
        Check.tell(x, ".");
        Check.due("an empty text is taken", 0, x.text());
        Check.due("none by an empty text", 0, x.fault());
    }

    // ---- whole texts

    /** "how many lines": none, and she is as a new one. */
    private static void emptyText() {
        WhichHold x = Check.ship(Edge.SHIP);
        Check.due("an empty THE TAPE", 0, x.text());
        for (int what = 0; what < 6; what++) {
            Check.due("count(" + what + ")", 0, x.count(what));
        }
        Edge.alike("an empty text", Edge::empty, () -> {
            WhichHold y = Check.ship(Edge.SHIP);
            y.go(5);
            y.text();
            return y;
        });
    }

    /** All lines that there may be: 8, 10, 4, 3 and 5. */
    private static void mostLines() {
        taken(most(10, 4, 3) + "crews1;sinks9;lists9;trims9;safe0;", 30);
        taken("crews 1;", 1);
    }

    /** "A text that is taken tells all, in place of what there was": nothing of a greater ship is left. */
    private static void tellsAllInPlace() {
        String small = "hold 9 1 9 3;hold 8 2 9 0;hole 1 2 1;";
        Edge.alike("a small ship behind a great one", () -> Check.ship(small), () -> {
            WhichHold y = Check.ship("hold 9 0 0 9;".repeat(8) + "door0 7 0 9 9;".repeat(10) + "hole7 9 9;".repeat(4) + "pump9 7;".repeat(3)
                + "safe7;");
            y.order(0, 4, 0, 1);
            y.order(2, 4, 7, 1);
            y.go(4);
            Check.tell(y, small);
            return y;
        });
    }

    /** "what it does not tell is as at first": also two texts later. */
    private static void asAtFirst() {
        String rules = HOLD + HOLD + "crews 3;sinks 800;lists 99;trims 99;safe 1;";
        int[] first = {1, 400, 40, 60, 0};
        for (int texts = 1; texts <= 3; texts++) {
            WhichHold x = Check.ship(rules);
            for (int i = 0; i < texts; i++) {
                Check.due("text", 1, Check.tell(x, HOLD));
            }
            for (int what = 0; what < 5; what++) {
                Check.due("rule(" + what + ") as at first", first[what], x.rule(what));
            }
        }
        WhichHold x = Check.ship(HOLD);
        Check.tell(x, rules + ".");
        for (int i = 0; i < 2; i++) {
            Check.tell(x, HOLD);
            for (int what = 0; what < 5; what++) {
                Check.due("behind a refused text: rule(" + what + ")", first[what], x.rule(what));
            }
        }
    }

    /** "MINUTE 0, no ORDERS; IMAGES are gone". */
    private static void imagesAreGone() {
        WhichHold x = Edge.busy();
        Check.due("IMAGES", 2, x.count(5));
        x.end(0);
        Check.due("text", 0, x.text());
        Check.due("MINUTE", 0, x.now(0));
        Check.due("ORDERS", 0, x.count(4));
        Check.due("IMAGES", 0, x.count(5));
        answers("no IMAGE", STATE, x.back(0), x.back(1));
        answers("there was none", 0, x.keep(0), x.keep(1));
    }

    /** "(what was SOUNDED, SHEETS stay)". */
    private static void soundedAndSheetsStay() {
        WhichHold x = Edge.busy();
        x.end(0);
        Check.tell(x, HOLD + "hold 20 1 9 0;door 0 1 0 1 1;hole 0 1 1;");
        Check.due("SOUNDED", 2, x.count(6));
        Check.due("CELLS", 9, x.count(8));
        Check.due("torn", 1, x.torn());
        Check.due("SHEET 1", 1, x.read(1, 1, 0, 1));
        Check.due("its CELLS", 300, x.given(0, 3));
        Check.due("SHEET 2", 1, x.read(2, 2, 0, 1));
        Check.due("its CELLS", 70000, x.given(1, 3));
        // 5 and 8 in 20 tons: HEIGHT 3, RATE 3 or 4 times 9 by 12, up
        Check.due("what was SOUNDED", 1 << 3 | 1 << 4, x.rates(1));
    }

    /** Promise 4: "-10 less the place of its FAULT: that which was told stays." */
    private static void refusedTextStays() {
        String[] texts = {HOLD + "crews 3;.", HOLD + ";", "hold 9 1 9 10;", "lists 9;lists 9;", HOLD.repeat(9)};
        for (String text : texts) {
            Edge.alikeButFault("refused: " + text, () -> {
                WhichHold x = Edge.busy();
                x.end(0);
                return x;
            }, () -> {
                WhichHold x = Edge.busy();
                x.end(0);
                Check.tell(x, text);
                return x;
            });
        }
        for (String text : texts) {
            WhichHold x = Edge.busy();
            int[] was = {x.now(0), x.now(1), x.count(0), x.count(4), x.count(5), x.rule(0), x.rule(2), x.hold(0, 0)};
            x.end(0);
            Check.tell(x, text);
            int[] is = {x.now(0), x.now(1), x.count(0), x.count(4), x.count(5), x.rule(0), x.rule(2), x.hold(0, 0)};
            for (int i = 0; i < was.length; i++) {
                Check.due("stays by " + text + " [" + i + "]", was[i], is[i]);
            }
            Check.due("THE TAPE is empty", 0, x.count(7));
        }
    }

    /** What a refused text had told is not there in the next one. */
    private static void refusedTextLeavesNoTrace() {
        String rest = "hold 12 1 9 0;hold 12 1 9 0;door 0 1 0 1 1;";
        Edge.alike("a text behind a refused one", () -> Check.ship(rest), () -> {
            WhichHold y = new WhichHold();
            Check.tell(y, "hold 9 0 0 9;".repeat(8) + "door0 7 0 9 9shut;".repeat(10) + "hole7 9 9;".repeat(4) + "pump9 7;".repeat(2) + "safe7;.");
            Check.tell(y, rest);
            return y;
        });
    }

    /** "it is seen whether she SINKS (also when .. a text is told)": in MINUTE 0. */
    private static void seenWhenTold() {
        WhichHold x = Check.ship("hold 40 1 9 39;sinks 40;");
        Check.due("a ton below sinks", 0, x.now(4));
        Check.due("not seen", NONE, x.now(5));
        x.go(3);
        Check.tell(x, "hold 40 1 9 40;sinks 40;");
        Check.due("sinks", 1, x.now(4));
        Check.due("seen in MINUTE 0", 0, x.now(5));
        Check.tell(x, "hold 40 1 9 39;sinks 40;");
        Check.due("she floats again", 0, x.now(4));
        Check.due("not seen", NONE, x.now(5));
    }
}
