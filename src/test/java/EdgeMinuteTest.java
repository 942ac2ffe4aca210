/** The edges of A MINUTE, of who has SUNK, and of promises 12 to 15, a sentence of the document each. */
public final class EdgeMinuteTest {
    private static final int BAD = Edge.BAD, STATE = Edge.STATE, NONE = Edge.NONE;

    public static void main(String[] args) {
        holeUp();
        holeRoom();
        holesOneByOne();
        valveFiveTons();
        valveBehindHoles();
        doorAboveItsSill();
        doorBelowItsSill();
        doorOfLikeHeights();
        doorRateTimes();
        doorBothWays();
        doorsOneByOne();
        doorBehindValve();
        shutDoorLetsNothing();
        pumpAsFarAsThereIsSome();
        pumpsOneByOne();
        pumpAtNone();
        pumpIsLast();
        goOutside();
        goSoManyMinutes();
        nowAnswers();
        sinksInTheNextMinute();
        sunkStays();
        sunkOrdersStay();
        keepAnswers();
        keepOutside();
        backAnswers();
        backOutside();
        imageIsAll();
        imageIsACopy();
        imageHasNoMore();
        imagesAreTwo();
        imageOfTheSunk();
        Check.finish("EdgeMinuteTest");
    }

    private static void waters(String name, WhichHold x, int... due) {
        for (int h = 0; h < due.length; h++) {
            Check.due(name + ": WATER of HOLD " + h, due[h], x.hold(h, 3));
        }
    }

    private static WhichHold gone(String text, int minutes) {
        WhichHold x = Check.ship(text);
        x.go(minutes);
        return x;
    }

    // ---- HOLES and VALVES

    /** "RATE times (12 less HEIGHT), by 12, up, comes in". */
    private static void holeUp() {
        waters("1 times 12 by 12", gone("hold 24 1 9 0;hole 0 1 1;", 1), 1);
        waters("1 times 11 by 12, up", gone("hold 24 1 9 2;hole 0 1 1;", 1), 3);
        waters("1 times 1 by 12, up", gone("hold 24 1 9 22;hole 0 1 1;", 1), 23);
        waters("12 times 1 by 12", gone("hold 48 1 9 44;hole 0 12 1;", 1), 45);
        waters("13 times 1 by 12, up", gone("hold 48 1 9 44;hole 0 13 1;", 1), 46);
        waters("12 times 0", gone("hold 24 1 9 24;hole 0 12 1;", 1), 24);
        waters("20 times 12 by 12", gone("hold 99 1 9 0;hole 0 20 1;", 1), 20);
    }

    /** "as far as there is room". */
    private static void holeRoom() {
        waters("room for one less", gone("hold 19 1 9 0;hole 0 20 1;", 1), 19);
        waters("room for just these", gone("hold 20 1 9 0;hole 0 20 1;", 1), 20);
        waters("room for one more", gone("hold 21 1 9 0;hole 0 20 1;", 1), 20);
        waters("room for one", gone("hold 1 1 9 0;hole 0 20 1;", 1), 1);
        waters("no room", gone("hold 1 1 9 1;hole 0 20 1;", 5), 1);
        // HEIGHT 11 of 99: 20 times 1 by 12, up, are 2
        waters("room for one of two", gone("hold 99 1 9 98;hole 0 20 1;", 1), 99);
        waters("room for two", gone("hold 99 1 9 97;hole 0 20 1;", 1), 99);
        waters("room for three", gone("hold 99 1 9 96;hole 0 20 1;", 1), 98);
    }

    /** "HOLES one by one": the HEIGHT is looked at again for each. */
    private static void holesOneByOne() {
        // 12, then HEIGHT 6: 12 times 6 by 12
        waters("the second sees the WATER of the first", gone("hold 24 1 9 0;hole 0 12 1;hole 0 12 1;", 1), 18);
        // 6, HEIGHT 3: 9; 12, HEIGHT 6: 3
        waters("0 then 1", gone("hold 24 1 9 0;hole 0 6 1;hole 0 12 1;", 1), 15);
        waters("1 then 0", gone("hold 24 1 9 0;hole 0 12 1;hole 0 6 1;", 1), 15);
        waters("full by the first", gone("hold 12 1 9 0;hole 0 12 1;hole 0 12 1;", 1), 12);
        waters("four", gone("hold 48 1 9 0;hole 0 1 1;hole 0 1 1;hole 0 1 1;hole 0 1 1;", 1), 4);
    }

    private static WhichHold valved(String text) {
        WhichHold x = Check.ship(text);
        x.order(0, 4, 0, 1);
        x.go(1);
        return x;
    }

    /** "VALVES that are open, by HOLDS: 5 tons, as far as there is room." */
    private static void valveFiveTons() {
        int[][] edges = {{99, 0, 5}, {6, 0, 5}, {5, 0, 5}, {4, 0, 4}, {1, 0, 1}, {99, 93, 98}, {99, 94, 99}, {99, 95, 99}, {99, 99, 99}};
        for (int[] e : edges) {
            WhichHold x = valved("hold " + e[0] + " 1 9 " + e[1] + ";");
            waters("not yet open", x, e[1]);
            x.go(1);
            waters("VALVE of " + e[0] + " tons", x, e[2]);
        }
        WhichHold y = valved("hold 99 1 9 0;hold 99 1 9 0;");
        y.go(3);
        waters("the other VALVE is shut", y, 15, 0);
    }

    /** VALVES come behind HOLES: HOLES see no WATER of theirs. */
    private static void valveBehindHoles() {
        WhichHold x = valved("hold 12 1 9 0;hole 0 1 1;");
        waters("a minute ahead", x, 1);
        x.go(1);
        // HEIGHT 1: 11 by 12, up
        waters("1 of the HOLE, 5 of the VALVE", x, 7);
        WhichHold y = valved("hold 24 1 9 0;hole 0 12 1;");
        y.put(0, 0);
        y.go(1);
        waters("12 and 5", y, 17);
    }

    // ---- DOORS

    /** "if that HEIGHT is above the SILL". */
    private static void doorAboveItsSill() {
        for (int sill = 0; sill <= 12; sill++) {
            for (int height = 1; height <= 12; height++) {
                int due = height > sill ? 1 : 0;
                String holds = "hold 12 1 9 " + height + ";hold 96 1 9 0;";
                waters("HEIGHT " + height + ", SILL " + sill, gone(holds + "door 0 1 " + sill + " 1 1;", 1), height - due, due);
                waters("the other way round", gone(holds + "door 1 0 " + sill + " 1 1;", 1), height - due, due);
            }
        }
    }

    /** Neither HEIGHT is above the SILL: nothing goes, also far below it. */
    private static void doorBelowItsSill() {
        waters("4 and 2, SILL 5", gone("hold 12 1 9 4;hold 12 1 9 2;door 0 1 5 9 1;", 3), 4, 2);
        waters("6 and 2, SILL 5", gone("hold 12 1 9 6;hold 12 1 9 2;door 0 1 5 9 1;", 3), 5, 3);
        waters("9 and 6, SILL 5", gone("hold 12 1 9 9;hold 12 1 9 6;door 0 1 5 1 1;", 1), 8, 7);
        waters("stops at the SILL within a minute", gone("hold 12 1 9 12;hold 96 1 9 0;door 0 1 7 9 1;", 1), 7, 5);
    }

    /** "from the HOLD with the greater HEIGHT to the other one": none is greater, nothing goes. */
    private static void doorOfLikeHeights() {
        waters("like WATER", gone("hold 24 1 9 10;hold 24 1 9 10;door 0 1 0 9 1;", 3), 10, 10);
        waters("like HEIGHTS of unlike WATER", gone("hold 24 1 9 11;hold 24 1 9 10;door 0 1 0 9 1;", 3), 11, 10);
        waters("like HEIGHTS of unlike TONS", gone("hold 12 1 9 6;hold 99 1 9 50;door 1 0 0 9 1;", 3), 6, 50);
        waters("both full", gone("hold 12 1 9 12;hold 99 1 9 99;door 0 1 0 9 1;", 3), 12, 99);
        waters("both empty", gone("hold 12 1 9 0;hold 99 1 9 0;door 0 1 0 9 1;", 3), 0, 0);
        waters("a ton that makes them like, no other", gone("hold 12 1 9 7;hold 12 1 9 5;door 0 1 0 9 1;", 1), 6, 6);
    }

    /** "RATE times: a ton goes". */
    private static void doorRateTimes() {
        for (int rate = 1; rate <= 9; rate++) {
            waters("RATE " + rate, gone("hold 60 1 9 60;hold 99 1 9 0;door 0 1 0 " + rate + " 1;", 1), 60 - rate, rate);
            waters("RATE " + rate + " twice", gone("hold 60 1 9 60;hold 99 1 9 0;door 1 0 0 " + rate + " 1;", 2), 60 - 2 * rate, 2 * rate);
        }
    }

    /** HEIGHTS are looked at for each ton: it may go back the way it came. */
    private static void doorBothWays() {
        int[] first = {1, 0, 1, 0, 1, 0, 1, 0, 1, 0};
        for (int rate = 1; rate <= 9; rate++) {
            waters("RATE " + rate, gone("hold 1 1 9 1;hold 1 1 9 0;door 0 1 0 " + rate + " 1;", 1), first[rate], 1 - first[rate]);
        }
        waters("12 is not above SILL 12", gone("hold 1 1 9 1;hold 1 1 9 0;door 0 1 12 9 1;", 1), 1, 0);
    }

    /** "DOORS that are open, one by one". */
    private static void doorsOneByOne() {
        waters("0, then 1", gone("hold 12 1 9 12;hold 12 1 9 0;hold 12 1 9 0;door 0 1 0 4 1;door 1 2 0 1 1;", 1), 8, 3, 1);
        waters("1, then 0", gone("hold 12 1 9 12;hold 12 1 9 0;hold 12 1 9 0;door 1 2 0 1 1;door 0 1 0 4 1;", 1), 8, 4, 0);
        waters("two between the same HOLDS", gone("hold 60 1 9 60;hold 99 1 9 0;door 0 1 0 4 1;door 1 0 0 3 1;", 1), 53, 7);
    }

    /** DOORS come behind VALVES and HOLES. */
    private static void doorBehindValve() {
        WhichHold x = valved("hold 12 1 9 0;hold 96 1 9 0;door 0 1 0 9 1;");
        x.go(1);
        // 5 tons; they go while the HEIGHT of HOLD 1 is less: 8 tons make HEIGHT 1
        waters("of the VALVE", x, 0, 5);
        waters("of the HOLE", gone("hold 12 1 9 0;hold 96 1 9 0;door 0 1 0 9 1;hole 0 5 1;", 1), 0, 5);
    }

    /** "DOORS that are open": through a shut one nothing goes, through one that is being shut it does. */
    private static void shutDoorLetsNothing() {
        waters("shut", gone("hold 60 1 9 60;hold 99 1 9 0;door 0 1 0 9 1 shut;", 9), 60, 0);
        for (int minutes = 1; minutes <= 9; minutes++) {
            WhichHold x = Check.ship("hold 60 1 9 60;hold 99 1 9 0;door 0 1 0 1 " + minutes + ";");
            x.order(0, 0, 0, 0);
            x.go(12);
            waters("SHUT takes " + minutes, x, 60 - minutes, minutes);
            WhichHold y = Check.ship("hold 60 1 9 60;hold 99 1 9 0;door 0 1 0 1 " + minutes + " shut;");
            y.order(0, 1, 0, 0);
            y.go(12);
            waters("OPEN takes " + minutes, y, 60 - 12 + minutes, 12 - minutes);
        }
    }

    // ---- PUMPS

    /** "RATE out of the HOLD at which it is, as far as there is some." */
    private static void pumpAsFarAsThereIsSome() {
        for (int rate = 1; rate <= 9; rate++) {
            for (int water = 0; water <= 11; water++) {
                waters("RATE " + rate + " of " + water, gone("hold 11 1 9 " + water + ";pump " + rate + " 0;", 1), Math.max(0, water - rate));
            }
        }
    }

    /** "PUMPS one by one". */
    private static void pumpsOneByOne() {
        waters("each its own", gone("hold 50 1 9 50;hold 50 1 9 50;hold 50 1 9 50;pump 1 2;pump 2 1;pump 3 0;", 1), 47, 48, 49);
        waters("all at one", gone("hold 50 1 9 50;hold 50 1 9 50;pump 9 1;pump 9 1;pump 9 1;", 1), 50, 23);
        waters("all at one that has too little", gone("hold 50 1 9 50;hold 50 1 9 20;pump 9 1;pump 9 1;pump 9 1;", 1), 50, 0);
    }

    /** "(NONE: to none)": a PUMP at none takes nothing. */
    private static void pumpAtNone() {
        WhichHold x = Check.ship("hold 50 1 9 50;hold 50 1 9 50;pump 9 0;");
        x.order(0, 3, 0, NONE);
        x.go(1);
        waters("still at HOLD 0", x, 41, 50);
        x.go(5);
        waters("at none", x, 41, 50);
        x.order(6, 3, 0, 1);
        x.go(1);
        waters("not yet at HOLD 1", x, 41, 50);
        x.go(1);
        waters("at HOLD 1", x, 41, 41);
    }

    /** PUMPS come last: what has come in this MINUTE goes out in it. */
    private static void pumpIsLast() {
        waters("a HOLE of 9 and a PUMP of 9", gone("hold 99 1 9 0;hole 0 9 1;pump 9 0;", 20), 0);
        waters("full, then pumped", gone("hold 12 1 9 12;hole 0 12 1;pump 4 0;", 1), 8);
        waters("DOOR, then PUMP", gone("hold 12 1 9 12;hold 12 1 9 0;door 0 1 0 4 1;pump 9 1;", 1), 8, 0);
        WhichHold x = Check.ship("hold 99 1 9 0;hole 0 9 1;pump 9 0;sinks 1;");
        x.go(20);
        Check.due("seen behind the PUMPS", 0, x.now(4));
    }

    // ---- promises 12 and 13

    /** "n minutes (1 to 120) go", "BAD". */
    private static void goOutside() {
        for (int n : new int[] {0, -1, 121, 122, 376, Edge.FAR, Edge.LOW, Edge.LOW + 1}) {
            Edge.refused("go(" + n + ")", Edge::busy, BAD, x -> x.go(n));
            Edge.refused("go(" + n + ") of the sunk", Edge::sunk, BAD, x -> x.go(n));
        }
    }

    /** "tons of WATER in all then". */
    private static void goSoManyMinutes() {
        for (int n : new int[] {1, 2, 60, 119, 120}) {
            WhichHold x = Check.ship("hold 99 1 9 99;hold 99 1 9 99;pump 1 1;");
            Check.due("go(" + n + ")", 99 + Math.max(0, 99 - n), x.go(n));
            Check.due("now(0)", n, x.now(0));
        }
        WhichHold x = new WhichHold();
        int minute = 0;
        for (int n = 1; n <= 120; n++) {
            x.go(n);
            minute += n;
            Check.due("MINUTE behind go(" + n + ")", minute, x.now(0));
        }
    }

    /** "Of now: 0 MINUTE .. 7 those that FAILED so far. BAD." */
    private static void nowAnswers() {
        WhichHold x = Edge.busy();
        // 4, 9 and 2 tons: LIST (2 less 4) by 2, TRIM 4 times -6 and 2 times 6 by 10; a PUMP found no crew
        int[] due = {3, 15, 1, 1, 0, NONE, 2, 1};
        for (int what = 0; what < 8; what++) {
            Check.due("now(" + what + ")", due[what], x.now(what));
        }
        for (int what : new int[] {-1, 8, 9, Edge.FAR, Edge.LOW}) {
            Check.due("now(" + what + ")", BAD, x.now(what));
            Check.due("now(" + what + ") of a new one", BAD, new WhichHold().now(what));
        }
    }

    /** "Then the next MINUTE is; it is seen whether she SINKS". */
    private static void sinksInTheNextMinute() {
        WhichHold x = Check.ship("hold 99 1 9 0;pump 1 0;hole 0 1 1;hold 99 1 9 0;hole 1 2 1;sinks 10;");
        for (int minute = 1; minute <= 4; minute++) {
            Check.due("go(1)", 2 * minute, x.go(1));
            Check.due("she floats", 0, x.now(4));
            Check.due("not seen", NONE, x.now(5));
        }
        Check.due("go(1)", 10, x.go(1));
        Check.due("why", 1, x.now(4));
        Check.due("seen in the next MINUTE", 5, x.now(5));
        Check.due("MINUTE", 5, x.now(0));
        WhichHold y = Check.ship("hold 99 1 9 0;hole 0 2 1;sinks 10;");
        y.go(120);
        Check.due("seen within many", 5, y.now(5));
        Check.due("MINUTE", 120, y.now(0));
    }

    /** "Who has SUNK: nothing changes any more but the MINUTE". */
    private static void sunkStays() {
        WhichHold x = Edge.sunk();
        Check.due("why", 1, x.now(4));
        Check.due("seen", 2, x.now(5));
        // 12 and 10 come in, 2 of 3 go out
        int[] due = {3, 23, 0, 0, 1, 2, 1, 0};
        for (int minutes : new int[] {0, 1, 120}) {
            Check.due("go of the sunk", minutes == 0 ? BAD : 23, x.go(minutes));
            due[0] += minutes;
            for (int what = 0; what < 8; what++) {
                Check.due("now(" + what + ")", due[what], x.now(what));
            }
        }
        waters("the sunk", x, 22, 1);
    }

    /** "ORDERS neither": none ends, none begins, none FAILS. */
    private static void sunkOrdersStay() {
        WhichHold x = Edge.sunk();
        x.go(60);
        Check.due("under way", 1, x.given(0, 4));
        Check.due("it would have ended", 5, x.given(0, 5));
        Check.due("to come", 0, x.given(1, 4));
        Check.due("never begun", NONE, x.given(1, 5));
        Check.due("the DOOR is open", 1, x.door(0, 5));
        Check.due("an ORDER for it is under way", 1, x.door(0, 6));
        Check.due("the VALVE is shut", 0, x.hold(1, 5));
        Check.due("told when it had SUNK", 2, x.order(63, 4, 0, 1));
        x.go(5);
        Check.due("to come for ever", 0, x.given(2, 4));
        Check.due("recall()", 2, x.recall());
        Check.due("FAILED", 2, x.now(7));
    }

    // ---- promises 14 and 15

    /** "IMAGE i (0, 1)": "whether there was one (1, 0)". */
    private static void keepAnswers() {
        for (int i = 0; i < 2; i++) {
            WhichHold x = Edge.sunk();
            x.end(0);
            x.text();
            Check.due("keep(" + i + ")", 0, x.keep(i));
            Check.due("keep(" + i + ") again", 1, x.keep(i));
            Check.due("count(5)", 1, x.count(5));
            Check.due("there is no other", STATE, x.back(1 - i));
            Check.due("keep of the other", 0, x.keep(1 - i));
            Check.due("count(5)", 2, x.count(5));
        }
    }

    /** "BAD". */
    private static void keepOutside() {
        for (int i : new int[] {-1, 2, 3, Edge.FAR, Edge.LOW}) {
            Edge.refused("keep(" + i + ")", Edge::busy, BAD, x -> x.keep(i));
            Edge.refused("keep(" + i + ") of a new one", Edge::empty, BAD, x -> x.keep(i));
        }
    }

    /** "All is as IMAGE i: its MINUTE." */
    private static void backAnswers() {
        WhichHold x = Edge.busy();
        Check.due("back(0)", 0, x.back(0));
        Check.due("MINUTE", 0, x.now(0));
        Check.due("back(1)", 2, x.back(1));
        Check.due("MINUTE", 2, x.now(0));
        Check.due("back(1) again", 2, x.back(1));
        Check.due("IMAGES stay", 2, x.count(5));
    }

    /** "BAD; STATE: there is none." */
    private static void backOutside() {
        for (int i : new int[] {-1, 2, 3, Edge.FAR, Edge.LOW}) {
            Edge.refused("back(" + i + ")", Edge::busy, BAD, x -> x.back(i));
            Edge.refused("back(" + i + ") of a new one", Edge::empty, BAD, x -> x.back(i));
        }
        Edge.refused("back(1) of none", Edge::sunk, STATE, x -> x.back(1));
        Edge.refused("back(0) of a new one", Edge::empty, STATE, x -> x.back(0));
        Edge.refused("back(1) of a new one", Edge::empty, STATE, x -> x.back(1));
    }

    /** "is all as it is (ORDERS, too ..)": whatever comes between, back() undoes it. */
    private static void imageIsAll() {
        for (int i = 0; i < 2; i++) {
            int image = i;
            Edge.alike("kept, changed, back", () -> {
                WhichHold x = Edge.busy();
                x.keep(image);
                return x;
            }, () -> {
                WhichHold x = Edge.busy();
                x.keep(image);
                x.recall();
                for (int k = 0; k < 6; k++) {
                    x.order(3 + k, 4, 2 - k % 3, 1);
                }
                x.go(30);
                x.put(0, 24);
                x.go(120);
                x.back(image);
                return x;
            });
        }
        WhichHold x = Edge.busy();
        x.keep(0);
        x.back(1);
        x.order(2, 0, 0, 1);
        x.order(2, 1, 1, 2);
        x.go(9);
        x.back(0);
        int[][] due = {{1, 0, 0, 7, 1, 3}, {1, 4, 1, 1, 2, 2}, {2, 2, 0, 0, 1, 4}, {2, 3, 1, NONE, 3, NONE}, {9, 1, 1, 5, 0, NONE},
            {40, 2, 1, 3, 0, NONE}};
        for (int k = 0; k < due.length; k++) {
            for (int what = 0; what < 6; what++) {
                Check.due("given(" + k + ", " + what + ")", due[k][what], x.given(k, what));
            }
        }
        Check.due("there are six", BAD, x.given(6, 0));
    }

    /** An IMAGE is as it was when it was kept: what comes then does not change it, nor what is done behind back(). */
    private static void imageIsACopy() {
        WhichHold x = Check.ship("hold 50 1 9 0;hold 50 1 9 0;door 0 1 0 1 1;hole 0 6 1;pump 1 0;crews 3;");
        x.keep(0);
        x.order(0, 0, 0, 0);
        x.order(0, 2, 0, 0);
        x.order(0, 3, 0, 1);
        for (int again = 0; again < 3; again++) {
            x.go(9);
            Check.due("back(0)", 0, x.back(0));
            waters("as it was", x, 0, 0);
            Check.due("no ORDERS", 0, x.count(4));
            Check.due("open", 1, x.door(0, 5));
            Check.due("no sail", 0, x.hole(0, 3));
            Check.due("PUMP", 0, x.pump(0, 1));
            x.order(0, 0, 0, 0);
            x.order(0, 2, 0, 0);
            x.order(1, 4, 0, 1);
        }
    }

    /** "(.. not what was SOUNDED, SHEETS, THE TAPE: these stay by back())". */
    private static void imageHasNoMore() {
        WhichHold x = Edge.busy();
        x.keep(0);
        x.wipe();
        x.sound(7);
        x.sheet(0, 1, 40);
        x.lay(0, 0, 77);
        x.sheet(3, 0, 2);
        x.end(0);
        Check.tell(x, "?");
        x.feed(0);
        x.feed(0);
        x.read(0, 0, 0, 1);
        x.back(0);
        Check.due("SOUNDED", 1, x.count(6));
        Check.due("THE TAPE", 16, x.count(7));
        Check.due("SHEET 0", 40, x.count(8));
        Check.due("SHEET 3", -12, x.lay(3, 2, 0));
        Check.due("FAULT", 1, x.fault());
        Check.due("torn", 3, x.torn());
        Check.due("IMAGES", 2, x.count(5));
    }

    /** "IMAGE i (0, 1)": two that are apart from one another. */
    private static void imagesAreTwo() {
        WhichHold x = Check.ship("hold 50 1 9 0;hole 0 6 1;");
        x.keep(0);
        x.go(1);
        x.keep(1);
        x.go(1);
        Check.due("back(0)", 0, x.back(0));
        waters("IMAGE 0", x, 0);
        Check.due("back(1)", 1, x.back(1));
        waters("IMAGE 1", x, 6);
        x.put(0, 50);
        x.keep(0);
        Check.due("back(1)", 1, x.back(1));
        waters("IMAGE 1 stays", x, 6);
        Check.due("back(0)", 1, x.back(0));
        waters("IMAGE 0 is another", x, 50);
    }

    /** An IMAGE of who floats lets her float again; one of the sunk lets her be sunk. */
    private static void imageOfTheSunk() {
        WhichHold x = Edge.sunk();
        x.keep(1);
        Check.due("back(0)", 0, x.back(0));
        Check.due("she floats", 0, x.now(4));
        Check.due("not seen", NONE, x.now(5));
        Check.due("ORDERS", 0, x.count(4));
        Check.due("put", 0, x.put(0, 1));
        Check.due("back(1)", 3, x.back(1));
        Check.due("why", 1, x.now(4));
        Check.due("seen", 2, x.now(5));
        Check.due("ORDERS", 2, x.count(4));
        Check.due("put", STATE, x.put(0, 1));
        Check.due("go", 23, x.go(1));
    }
}
