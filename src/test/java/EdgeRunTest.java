/** The edges of a RUN, of WITHOUT ORDERS, BEST, LATEST, and of promises 19 to 24, a sentence of the document each. */
public final class EdgeRunTest {
    private static final int BAD = Edge.BAD, STATE = Edge.STATE, NONE = Edge.NONE;
    /** 2 tons a minute, 10 are too many: she SINKS after 5 minutes. */
    private static final String FIVE = "hold 99 1 9 0;hole 0 2 1;sinks 10;";
    private static final String A_TON_A_MINUTE = "hold 99 1 9 0;hold 99 1 9 0;door 0 1 0 9 1;hole 0 1 1;";
    /** 12 tons a minute at first; through the DOOR they run over to the right. */
    private static final String LIST = "hold 60 1 9 0;hold 60 2 9 0;door 0 1 0 9 1;hole 0 12 3;lists 9;";

    public static void main(String[] args) {
        runs();
        bests();
        latests();
        help();
        Check.finish("EdgeRunTest");
    }

    private static void runs() {
        runOutside();
        waterOutside();
        freeOutside();
        runUntilJustThen();
        runOfTheSunk();
        runOfWhoFloats();
        runWhy();
        runAtTheEnd();
        runFailed();
        runGreatestList();
        runGoesByItself();
        runIsThatOfGo();
        freeIsWithoutOrders();
    }

    private static void bests() {
        bestOutside();
        bestFewerThanK();
        bestWithinN();
        bestOfNone();
        bestAmongAll();
        bestLatestThenLeastWater();
        bestFirstByOrders();
        bestWhenCrewsAreFree();
        bestInEachOrder();
        bestIsWithoutOthers();
        bestOfTheSunk();
        bestAsSheIsNow();
        bestOfEachKAsSheIsNow();
        bestNotOfAGreaterShip();
    }

    private static void latests() {
        latestOutside();
        latestState();
        latestIsTheGreatest();
        latestZeroAndN();
        latestNever();
        latestIsWithoutOthers();
    }

    private static void help() {
        helpsOutside();
        helpsWhoFloatsLonger();
        helpsOpenAndIdle();
        helpsIsWithoutOthers();
        helpsNotByDoorsOfAGreaterShip();
    }

    // ---- promises 19 to 21

    /** "A RUN goes from now on n minutes (1 to 120) on", "BAD". */
    private static void runOutside() {
        for (int what = 0; what < 7; what++) {
            int w = what;
            for (int n : new int[] {0, -1, 121, 122, Edge.FAR, Edge.LOW}) {
                Edge.refused("run(" + n + ", " + what + ")", Edge::busy, BAD, x -> x.run(n, w));
            }
            for (int n : new int[] {1, 60, 119, 120}) {
                Check.due("run(" + n + ", " + what + ")", w == 0 ? NONE : 0, Check.ship("hold 9 1 9 0;").run(n, w));
            }
        }
        for (int what : new int[] {-1, 7, 8, Edge.FAR, Edge.LOW}) {
            Edge.refused("run(1, " + what + ")", Edge::busy, BAD, x -> x.run(1, what));
            Check.due("run(120, " + what + ") of the sunk", BAD, Edge.sunk().run(120, what));
        }
    }

    /** Promise 20: "BAD". */
    private static void waterOutside() {
        for (int n : new int[] {0, -1, 121, Edge.FAR, Edge.LOW}) {
            Edge.refused("water(" + n + ", 0)", Edge::busy, BAD, x -> x.water(n, 0));
        }
        for (int h : new int[] {-1, 3, 8, Edge.FAR, Edge.LOW}) {
            Edge.refused("water(1, " + h + ")", Edge::busy, BAD, x -> x.water(1, h));
        }
        WhichHold x = Check.ship("hold 99 1 9 99;".repeat(7) + "hold 99 1 9 99;pump 1 7;sinks 800;");
        for (int n : new int[] {1, 60, 98, 99, 100, 119, 120}) {
            Check.due("water(" + n + ", 7)", Math.max(0, 99 - n), x.water(n, 7));
            Check.due("water(" + n + ", 0)", 99, x.water(n, 0));
        }
        Check.due("water(1, 8)", BAD, x.water(1, 8));
        Check.due("water of a new one", BAD, new WhichHold().water(1, 0));
    }

    /** Promise 21: "minutes until she SINKS within n. BAD; NONE." */
    private static void freeOutside() {
        for (int n : new int[] {0, -1, 121, 122, Edge.FAR, Edge.LOW}) {
            Edge.refused("free(" + n + ")", Edge::busy, BAD, x -> x.free(n));
            Check.due("free(" + n + ") of the sunk", BAD, Edge.sunk().free(n));
        }
        int[] within = {1, 4, 5, 6, 119, 120};
        for (int n : within) {
            Check.due("free(" + n + ")", n < 5 ? NONE : 5, Check.ship(FIVE).free(n));
        }
        for (int until = 119; until <= 121; until++) {
            WhichHold x = Check.ship(A_TON_A_MINUTE + "sinks " + until + ";");
            for (int n = 118; n <= 120; n++) {
                Check.due("free(" + n + ") of " + until, n < until ? NONE : until, x.free(n));
                Check.due("run(" + n + ", 0) of " + until, n < until ? NONE : until, x.run(n, 0));
                Check.due("run(" + n + ", 2) of " + until, Math.min(n, until), x.run(n, 2));
            }
        }
    }

    /** "0 minutes until she SINKS (NONE: not)": at n of them, not at one less. */
    private static void runUntilJustThen() {
        for (int gone = 0; gone < 5; gone++) {
            WhichHold x = Check.ship(FIVE);
            if (gone > 0) {
                x.go(gone);
            }
            for (int n = 1; n <= 7; n++) {
                boolean sinks = n >= 5 - gone;
                Check.due("run(" + n + ", 0) behind " + gone, sinks ? 5 - gone : NONE, x.run(n, 0));
                Check.due("run(" + n + ", 1) behind " + gone, sinks ? 1 : 0, x.run(n, 1));
                Check.due("run(" + n + ", 2) behind " + gone, Math.min(10, 2 * (gone + n)), x.run(n, 2));
                Check.due("free(" + n + ") behind " + gone, sinks ? 5 - gone : NONE, x.free(n));
                Check.due("best(0, " + n + ", 0) behind " + gone, sinks ? 5 - gone : NONE, x.best(0, n, 0));
            }
        }
    }

    /** "Minutes until she SINKS: 0, if she has SUNK." */
    private static void runOfTheSunk() {
        WhichHold x = Edge.sunk();
        for (int n : new int[] {1, 2, 60, 120}) {
            int[] due = {0, 1, 23, 0, 0, 0, 0};
            for (int what = 0; what < 7; what++) {
                Check.due("run(" + n + ", " + what + ") of the sunk", due[what], x.run(n, what));
            }
            Check.due("free(" + n + ") of the sunk", 0, x.free(n));
            Check.due("water(" + n + ", 0) of the sunk", 22, x.water(n, 0));
        }
        WhichHold y = Check.ship("hold 99 2 0 90;lists 20;");
        int[] due = {0, 2, 90, 45, 81, 0, 45};
        for (int what = 0; what < 7; what++) {
            Check.due("run(120, " + what + ") of one sunk in MINUTE 0", due[what], y.run(120, what));
        }
        x.back(0);
        Check.due("she floats again: free", 2, x.free(9));
    }

    /** "(NONE: not)", "1 why (0)". */
    private static void runOfWhoFloats() {
        WhichHold x = Check.ship("hold 99 2 0 40;hold 99 0 9 3;");
        int[] due = {NONE, 0, 43, 18, 36, 0, 18};
        for (int n : new int[] {1, 120}) {
            for (int what = 0; what < 7; what++) {
                Check.due("run(" + n + ", " + what + ")", due[what], x.run(n, what));
            }
        }
    }

    /** "1 why": each of the three. */
    private static void runWhy() {
        Check.due("all WATER", 1, Check.ship(FIVE).run(9, 1));
        Check.due("LIST", 2, Check.ship("hold 99 2 9 0;hole 0 4 1;lists 5;").run(9, 1));
        Check.due("TRIM", 3, Check.ship("hold 99 1 18 0;hole 0 4 1;trims 5;").run(9, 1));
    }

    /** "2 WATER in all at the end, 3 LIST, 4 TRIM": of her who SINKS as she is then. */
    private static void runAtTheEnd() {
        WhichHold x = Check.ship("hold 99 2 18 0;hole 0 4 1;lists 5;");
        // 4 tons a minute: LIST 2, 4, 6; TRIM 3, 7, 10
        int[][] due = {{4, 2, 3}, {8, 4, 7}, {12, 6, 10}, {12, 6, 10}, {12, 6, 10}};
        for (int n = 1; n <= 5; n++) {
            for (int what = 2; what <= 4; what++) {
                Check.due("run(" + n + ", " + what + ")", due[n - 1][what - 2], x.run(n, what));
            }
            Check.due("water(" + n + ", 0)", due[n - 1][0], x.water(n, 0));
        }
    }

    /** "5 ORDERS that FAILED in it": not those ahead of it, not those behind it. */
    private static void runFailed() {
        WhichHold x = Check.ship("hold 99 1 9 0;hold 99 1 9 0;door 0 1 0 1 2;");
        x.order(0, 1, 0, 0);
        x.order(2, 1, 0, 0);
        x.order(3, 1, 0, 0);
        x.order(9, 1, 0, 0);
        int[] fromNow = {1, 1, 2, 3, 3, 3, 3, 3, 3, 4};
        for (int n = 1; n <= 10; n++) {
            Check.due("run(" + n + ", 5)", fromNow[n - 1], x.run(n, 5));
        }
        x.go(1);
        for (int n = 1; n <= 9; n++) {
            Check.due("a minute later: run(" + n + ", 5)", fromNow[n] - 1, x.run(n, 5));
        }
        x.recall();
        Check.due("all recalled", 0, x.run(120, 5));
        WhichHold y = Check.ship(FIVE);
        y.order(4, 4, 0, 0);
        y.order(4, 4, 0, 0);
        y.order(5, 4, 0, 0);
        Check.due("in the last minute", 1, y.run(5, 5));
        Check.due("the sunk FAIL no more", 1, y.run(120, 5));
    }

    /** "6 the greatest LIST on the way (now, too)". */
    private static void runGreatestList() {
        WhichHold x = Check.ship("hold 60 0 9 60;pump 9 0;trims 99;");
        for (int again = 0; again < 3; again++) {
            Check.due("that of now", 30, x.run(20, 6));
            Check.due("at the end", 0, x.run(20, 3));
        }
        // left falls, right rises: LIST 10, 7, 4, 1, 2, 5, 8, 10, 12
        WhichHold y = Check.ship("hold 99 0 9 20;hold 99 2 9 0;pump 3 0;hole 1 3 1;");
        int[] due = {10, 10, 10, 10, 10, 10, 10, 12};
        for (int n = 1; n <= 8; n++) {
            Check.due("greatest of " + n, due[n - 1], y.run(n, 6));
        }
        y.go(3);
        Check.due("from MINUTE 3 on: now", 2, y.run(1, 6));
        // 20 tons on the right, that go out again over the DOOR: on the way only
        WhichHold z = Check.ship("hold 20 0 9 0;hold 20 2 9 0;hole 1 20 1;crews 2;");
        z.order(1, 4, 0, 1);
        z.order(1, 2, 0, 0);
        Check.due("on the way", 10, z.run(30, 6));
        Check.due("at the end", 0, z.run(30, 3));
        WhichHold s = Check.ship("hold 99 2 9 0;hole 0 20 1;lists 5;");
        Check.due("as she SINKS", 10, s.run(9, 6));
    }

    /** "by itself (all stays as it is)". */
    private static void runGoesByItself() {
        Edge.Past[] pasts = {Edge::busy, Edge::sunk, Edge::empty};
        for (Edge.Past past : pasts) {
            Edge.changesNothing("run, water, free", past, x -> x.run(120, 0) + x.run(1, 5) + x.run(60, 6) + x.water(30, 0) + x.free(120));
            Edge.changesNothing("best, latest, helps", past, x -> x.best(2, 20, 0) + x.best(1, 9, 10) + x.best(3, 9, 1) + x.latest(0, 60)
                + x.latest(1, 60) + x.helps(60));
        }
    }

    /** "A RUN goes .. with all ORDERS": as go() would. */
    private static void runIsThatOfGo() {
        for (int n : new int[] {1, 2, 3, 7, 8, 20, 38, 60, 120}) {
            WhichHold x = Edge.busy();
            x.order(4, 4, 2, 1);
            int[] due = new int[7];
            for (int what = 0; what < 7; what++) {
                due[what] = x.run(n, what);
            }
            int[] waters = {x.water(n, 0), x.water(n, 1), x.water(n, 2)};
            int failed = x.now(7);
            int greatest = x.now(2);
            for (int i = 0; i < n; i++) {
                x.go(1);
                greatest = Math.max(greatest, x.now(2));
            }
            Check.due("minutes", due[0], x.now(4) == 0 ? NONE : x.now(5) - 3);
            Check.due("why", due[1], x.now(4));
            Check.due("WATER in all", due[2], x.now(1));
            Check.due("LIST", due[3], x.now(2));
            Check.due("TRIM", due[4], x.now(3));
            Check.due("FAILED", due[5], x.now(7) - failed);
            Check.due("greatest LIST", due[6], greatest);
            for (int h = 0; h < 3; h++) {
                Check.due("WATER of HOLD " + h, waters[h], x.hold(h, 3));
            }
        }
    }

    /** "WITHOUT ORDERS: as if none were told or under way." */
    private static void freeIsWithoutOrders() {
        WhichHold x = Check.ship(FIVE);
        x.order(0, 2, 0, 0);
        Check.due("told", 5, x.free(9));
        Check.due("with it: 2, then a ton a minute", 9, x.run(9, 0));
        x.go(1);
        Check.due("under way", 4, x.free(9));
        Check.due("with it", 8, x.run(9, 0));
        x.go(1);
        Check.due("done: the sail stays", 7, x.free(9));
        x.order(2, 4, 0, 1);
        Check.due("told", 7, x.free(9));
    }

    // ---- promise 22

    private static WhichHold three() {
        return Check.ship("hold 60 1 9 0;hold 60 1 9 0;door 0 1 0 1 1;door 1 0 0 1 1 shut;door 0 1 0 2 1;hole 0 3 2;");
    }

    /** "BEST of k ORDERS for n minutes (1 to 60)", k 0 to 3, "BAD: also i not below k". */
    private static void bestOutside() {
        for (int n : new int[] {0, -1, 61, 62, 120, Edge.FAR, Edge.LOW}) {
            for (int k = 0; k < 4; k++) {
                int of = k;
                Edge.refused("best(" + k + ", " + n + ", 0)", Edge::busy, BAD, x -> x.best(of, n, 0));
            }
        }
        for (int k : new int[] {-1, 4, 5, Edge.FAR, Edge.LOW}) {
            Edge.refused("best(" + k + ", 9, 0)", Edge::busy, BAD, x -> x.best(k, 9, 0));
            Check.due("best(" + k + ", 9, 10)", BAD, three().best(k, 9, 10));
        }
        for (int what : new int[] {-1, 2, 9, 12, Edge.FAR, Edge.LOW}) {
            Edge.refused("best(2, 9, " + what + ")", Edge::busy, BAD, x -> x.best(2, 9, what));
            Edge.refused("best(2, 9, " + what + ") of the sunk", Edge::sunk, BAD, x -> x.best(2, 9, what));
        }
        for (int k = 0; k < 4; k++) {
            WhichHold x = three();
            for (int n : new int[] {1, 2, 59, 60}) {
                Check.due("best(" + k + ", " + n + ", 0)", NONE, x.best(k, n, 0));
            }
            for (int what : new int[] {-1, 2, 3, 8, 9, 10 + k, 11 + k, 13, 14, 20, Edge.FAR, Edge.LOW}) {
                Check.due("best(" + k + ", 9, " + what + ")", BAD, x.best(k, 9, what));
            }
            for (int i = 0; i < k; i++) {
                Check.due("best(" + k + ", 9, " + (10 + i) + ") is an ORDER", 1, x.best(k, 9, 10 + i) >= 0 ? 1 : 0);
            }
            Check.due("best(" + k + ", 9, 1) is WATER", 1, x.best(k, 9, 1) >= 0 ? 1 : 0);
        }
    }

    /** "STATE: there are fewer than k", BAD ahead of it. */
    private static void bestFewerThanK() {
        String holds = "hold 60 1 9 0;hold 60 1 9 0;";
        String[] lines = {"door 0 1 0 1 1;", "hole 0 3 2;", "door 0 1 0 1 1;", "hole 0 1 1;"};
        for (int many = 0; many <= 4; many++) {
            StringBuilder text = new StringBuilder(holds).append("door 0 1 0 1 1 shut;");
            for (int i = 0; i < many; i++) {
                text.append(lines[i]);
            }
            for (int k = 0; k <= 3; k++) {
                WhichHold x = Check.ship(text.toString());
                Check.due("best of " + k + " among " + many, k <= many ? NONE : STATE, x.best(k, 9, 0));
                Check.due("WATER of " + k + " among " + many, 1, (x.best(k, 9, 1) == STATE) == (k > many) ? 1 : 0);
                Check.due("BAD of " + k + " among " + many, BAD, x.best(k, 9, 10 + k));
                Check.due("BAD of " + k + " among " + many, BAD, x.best(k, 61, 0));
            }
        }
        Edge.refused("best of 3 among 2", Edge::sunk, STATE, x -> x.best(3, 9, 0));
        Edge.refused("best of 3 among 2", () -> Check.ship(holds + lines[0] + lines[1]), STATE, x -> x.best(3, 9, 12));
        WhichHold sailed = Check.ship(holds + "hole 0 3 1;door 0 1 0 1 1;");
        sailed.order(0, 2, 0, 0);
        sailed.order(1, 0, 0, 0);
        Check.due("a HOLE without a sail, a DOOR that is open", NONE, sailed.best(2, 9, 0));
        sailed.go(1);
        Check.due("under way", NONE, sailed.best(2, 9, 0));
        sailed.go(1);
        Check.due("a sail is over it", STATE, sailed.best(2, 9, 0));
        Check.due("the DOOR is left", 0, sailed.best(1, 9, 10));
        sailed.go(1);
        Check.due("nothing is left", STATE, sailed.best(1, 9, 0));
        Check.due("none of nothing", NONE, sailed.best(0, 9, 0));
    }

    /** "she SINKS latest within n minutes": in the last of them, one behind. */
    private static void bestWithinN() {
        for (int until = 58; until <= 61; until++) {
            WhichHold x = Check.ship(A_TON_A_MINUTE + "sinks " + until + ";");
            for (int n = 58; n <= 60; n++) {
                for (int k = 0; k <= 2; k++) {
                    Check.due("best(" + k + ", " + n + ", 0) of " + until, n < until ? NONE : until, x.best(k, n, 0));
                    Check.due("best(" + k + ", " + n + ", 1) of " + until, Math.min(n, until), x.best(k, n, 1));
                }
                Check.due("latest(0, " + n + ") of " + until, n < until ? n : NONE, x.latest(0, n));
                Check.due("helps(" + n + ") of " + until, 0, x.helps(n));
            }
        }
    }

    /** k 0: no ORDERS at all. */
    private static void bestOfNone() {
        WhichHold x = Check.ship(FIVE);
        for (int n : new int[] {1, 4, 5, 60}) {
            Check.due("best(0, " + n + ", 0)", x.free(n), x.best(0, n, 0));
            Check.due("best(0, " + n + ", 1)", x.run(n, 2), x.best(0, n, 1));
            Check.due("best(0, " + n + ", 10)", BAD, x.best(0, n, 10));
        }
    }

    /** "DOOR d as d, HOLE h as 20 and h": also the last of all. */
    private static void bestAmongAll() {
        StringBuilder text = new StringBuilder("hold 99 1 9 0;".repeat(8));
        text.append("door 6 7 0 1 1;".repeat(9)).append("door 0 1 0 9 1;").append("hole 0 1 9;".repeat(3)).append("hole 0 20 1;lists 99;");
        WhichHold x = Check.ship(text.toString());
        Check.due("HOLE 3", 23, x.best(1, 9, 10));
        WhichHold y = Check.ship("hold 99 1 9 0;hold 99 2 9 0;" + "door 0 1 12 1 1;".repeat(9) + "door 0 1 0 9 1;hole 0 20 9;lists 7;");
        Check.due("DOOR 9", 9, y.best(1, 9, 10));
        Check.due("DOOR 9 keeps her", NONE, y.best(1, 9, 0));
        Check.due("not so of none", 2, y.best(0, 9, 0));
    }

    /** "that by which she SINKS latest within n minutes (not at all is latest), of several the one with the least WATER". */
    private static void bestLatestThenLeastWater() {
        // HOLE 0 less by its sail keeps her off her LIST, HOLE 1 lets more in
        WhichHold x = Check.ship("hold 99 2 9 0;hold 99 1 9 0;hole 1 20 1;hole 0 4 1;lists 6;");
        Check.due("within 4 minutes: the LIST", 21, x.best(1, 4, 10));
        Check.due("not at all", NONE, x.best(1, 4, 0));
        Check.due("within 3 minutes: the least WATER", 20, x.best(1, 3, 10));
        Check.due("20 and twice 10, 9, and three times 4", NONE, x.best(1, 3, 0));
        Check.due("within 9 minutes: the latest", 21, x.best(1, 9, 10));
        // 4, then 2 a minute: above 13 tons in the sixth
        Check.due("within 9 minutes", 6, x.best(1, 9, 0));
        Check.due("WATER when she SINKS", x.best(1, 9, 1), x.best(1, 60, 1));
    }

    /** "then the first by ORDERS (SHUT 0, 1, .. ahead of SAIL 0, 1, ..)". */
    private static void bestFirstByOrders() {
        String holds = "hold 60 1 9 0;hold 60 1 9 0;hold 60 1 9 0;";
        WhichHold x = Check.ship(holds + "hole 0 1 9;hole 0 1 9;door 1 2 0 1 1;door 1 2 0 1 1;door 1 2 0 1 1;");
        for (int k = 1; k <= 3; k++) {
            for (int i = 0; i < k; i++) {
                Check.due("best(" + k + ", 5, " + (10 + i) + ") of many as good", i, x.best(k, 5, 10 + i));
            }
        }
        WhichHold y = Check.ship(holds + "hole 0 1 9;hole 0 1 9;door 1 2 0 1 1 shut;door 1 2 0 1 1;");
        int[] due = {1, 20, 21};
        for (int k = 1; k <= 3; k++) {
            for (int i = 0; i < k; i++) {
                Check.due("SHUT ahead of SAIL", due[i], y.best(k, 5, 10 + i));
            }
        }
    }

    /** "each given as soon as a crew is free (the first ones now)". */
    private static void bestWhenCrewsAreFree() {
        String text = "hold 99 1 9 0;hold 99 1 9 0;hold 99 1 9 0;hole 0 20 3;hole 1 20 2;hole 2 20 4;sinks 800;";
        int[][] given = {{1, 2, 0, 2, 5}, {2, 1, 0, 0, 2}, {3, 1, 0, 0, 0}};
        for (int[] g : given) {
            WhichHold x = Check.ship(text + "crews " + g[0] + ";");
            int best = x.best(3, 7, 1);
            int[] row = {x.best(3, 7, 10), x.best(3, 7, 11), x.best(3, 7, 12)};
            int least = Edge.FAR;
            int[][] orders = {{0, 1, 2}, {0, 2, 1}, {1, 0, 2}, {1, 2, 0}, {2, 0, 1}, {2, 1, 0}};
            int[] takes = {3, 2, 4};
            int first = 0;
            for (int[] o : orders) {
                int t1 = g[0] > 1 ? 0 : takes[o[0]];
                int t2 = g[0] > 2 ? 0 : g[0] == 2 ? Math.min(takes[o[0]], takes[o[1]]) : takes[o[0]] + takes[o[1]];
                WhichHold y = Check.ship(text + "crews " + g[0] + ";");
                y.order(0, 2, o[0], 0);
                y.order(t1, 2, o[1], 0);
                y.order(t2, 2, o[2], 0);
                Check.due("none FAILS", 0, y.run(7, 5));
                if (y.run(7, 2) < least) {
                    least = y.run(7, 2);
                    first = 100 * o[0] + 10 * o[1] + o[2];
                }
            }
            Check.due(g[0] + " crews: WATER", least, best);
            Check.due(g[0] + " crews: the row", first, 100 * (row[0] - 20) + 10 * (row[1] - 20) + row[2] - 20);
        }
    }

    /** A row is told in the order in which its ORDERS are given: the greater HOLE first. */
    private static void bestInEachOrder() {
        WhichHold x = Check.ship("hold 99 1 9 0;hold 99 1 9 0;hole 0 2 5;hole 1 20 5;");
        Check.due("first", 21, x.best(2, 8, 10));
        Check.due("second", 20, x.best(2, 8, 11));
        WhichHold y = Check.ship("hold 99 1 9 0;hold 99 1 9 0;hole 0 2 5;hole 1 20 5;crews 2;");
        Check.due("both now: first", 20, y.best(2, 8, 10));
        Check.due("both now: second", 21, y.best(2, 8, 11));
    }

    /** "WITHOUT others": whatever is told or under way. */
    private static void bestIsWithoutOthers() {
        WhichHold x = Check.ship(LIST);
        WhichHold y = Check.ship(LIST);
        y.order(0, 2, 0, 0);
        y.order(1, 0, 0, 0);
        y.order(5, 4, 1, 1);
        for (int minute = 0; minute < 3; minute++) {
            for (int what : new int[] {0, 1, 10, 11}) {
                Check.due("best(2, 9, " + what + ") in MINUTE " + minute, x.best(2, 9, what), y.best(2, 9, what));
            }
            Check.due("best(1, 9, 1) in MINUTE " + minute, x.best(1, 9, 1), y.best(1, 9, 1));
            x.go(1);
            y.go(1);
        }
    }

    /** Who has SUNK: 0 minutes by each row, the first one. */
    private static void bestOfTheSunk() {
        WhichHold x = Edge.sunk();
        Check.due("best(0, 9, 0)", 0, x.best(0, 9, 0));
        Check.due("best(2, 9, 0)", 0, x.best(2, 9, 0));
        Check.due("best(2, 9, 1)", 23, x.best(2, 9, 1));
        Check.due("best(2, 9, 10)", 0, x.best(2, 9, 10));
        Check.due("best(2, 9, 11)", 20, x.best(2, 9, 11));
        Check.due("best(3, 9, 0)", STATE, x.best(3, 9, 0));
    }

    /** BEST is of now: put, go, back, text change it; another k, another n too. */
    private static void bestAsSheIsNow() {
        WhichHold x = Check.ship("hold 99 1 9 0;hold 99 1 9 0;door 0 1 0 9 1;hole 0 12 1;sinks 300;");
        x.keep(0);
        int now = x.best(1, 9, 1);
        Check.due("again", now, x.best(1, 9, 1));
        Check.due("another n", 1, x.best(1, 10, 1) > now ? 1 : 0);
        Check.due("another k", 1, x.best(0, 9, 1) > now ? 1 : 0);
        Check.due("and back", now, x.best(1, 9, 1));
        x.put(1, 50);
        Check.due("behind put", 1, x.best(1, 9, 1) > now ? 1 : 0);
        Check.due("a refused put", BAD, x.put(1, 100));
        x.back(0);
        Check.due("behind back", now, x.best(1, 9, 1));
        x.go(1);
        int later = x.best(1, 9, 1);
        Check.due("behind go", 1, later > now ? 1 : 0);
        x.order(1, 2, 0, 0);
        Check.due("behind order: WITHOUT it", later, x.best(1, 9, 1));
        x.recall();
        x.keep(1);
        Check.due("behind recall, keep", later, x.best(1, 9, 1));
        Check.tell(x, "hold 9 1 9 5;hold 9 1 9 0;door 0 1 0 1 1;");
        Check.due("behind text", 5, x.best(1, 9, 1));
        Check.due("behind text: the DOOR", 0, x.best(1, 9, 10));
    }

    /** BEST is of now, for each k: what was BEST before she changed is not told again. */
    private static void bestOfEachKAsSheIsNow() {
        String text = "hold 99 1 9 0;hold 99 1 9 0;hold 99 1 9 0;door 0 1 0 9 1;hole 0 12 1;hole 1 3 1;";
        for (int k = 0; k <= 3; k++) {
            WhichHold x = Check.ship(text);
            int[] was = {x.best(k, 9, 1), 0, 0, 0};
            x.keep(0);
            x.put(2, 7);
            was[1] = x.best(k, 9, 1);
            x.go(2);
            was[2] = x.best(k, 9, 1);
            x.back(0);
            was[3] = x.best(k, 9, 1);
            Check.due("7 tons more by put", was[0] + 7, was[1]);
            Check.due("later more comes in", 1, was[2] > was[1] ? 1 : 0);
            Check.due("as it was", was[0], was[3]);
            Check.tell(x, text.replaceFirst("0;door", "5;door"));
            Check.due("5 tons more by a text", was[0] + 5, x.best(k, 9, 1));
        }
    }

    /** The DOORS and HOLES of an earlier text are none. */
    private static void bestNotOfAGreaterShip() {
        WhichHold x = Check.ship("hold 9 1 9 0;hold 9 1 9 0;" + "door 0 1 0 1 1;".repeat(10) + "hole 0 1 1;".repeat(4));
        Check.due("14 to choose from", NONE, x.best(3, 5, 0));
        for (int again = 0; again < 2; again++) {
            Check.tell(x, "hold 9 1 9 0;hold 9 1 9 0;door 0 1 0 1 1;hole 0 1 1;");
            Check.due("two to choose from", NONE, x.best(2, 5, 0));
            Check.due("not three", STATE, x.best(3, 5, 0));
        }
    }

    // ---- promise 23

    /** "LATEST for a DOOR within n minutes (1 to 60). BAD". */
    private static void latestOutside() {
        for (int n : new int[] {0, -1, 61, 62, Edge.FAR, Edge.LOW}) {
            Edge.refused("latest(0, " + n + ")", Edge::busy, BAD, x -> x.latest(0, n));
            Edge.refused("latest(1, " + n + ") of a shut one", Edge::busy, BAD, x -> x.latest(1, n));
        }
        for (int d : new int[] {-1, 2, 10, Edge.FAR, Edge.LOW}) {
            Edge.refused("latest(" + d + ", 1)", Edge::busy, BAD, x -> x.latest(d, 1));
        }
        WhichHold x = Check.ship("hold 9 1 9 0;hold 9 1 9 0;" + "door 0 1 0 1 1;".repeat(10));
        for (int n : new int[] {1, 2, 59, 60}) {
            Check.due("latest(9, " + n + ")", n, x.latest(9, n));
        }
        Check.due("latest(10, 1)", BAD, x.latest(10, 1));
        Check.due("latest of a new one", BAD, new WhichHold().latest(0, 1));
    }

    /** "STATE: it is shut, or an ORDER for it is under way". */
    private static void latestState() {
        Edge.refused("latest of a shut one", () -> Check.ship(Edge.SHIP), STATE, x -> x.latest(1, 9));
        Edge.refused("latest of one under way", Edge::busy, STATE, x -> x.latest(0, 9));
        WhichHold x = Check.ship(Edge.SHIP);
        x.order(1, 0, 0, 0);
        x.order(5, 1, 0, 0);
        int[] due = {9, 9, STATE, STATE, STATE, STATE, STATE, STATE, 9};
        for (int minute = 0; minute < 9; minute++) {
            Check.due("latest(0, 9) in MINUTE " + minute, due[minute], x.latest(0, 9));
            x.go(1);
        }
    }

    private static int minutesIfShut(String text, int gone, int after, int n) {
        WhichHold x = Check.ship(text);
        if (gone > 0) {
            x.go(gone);
        }
        x.order(gone + after, 0, 0, 0);
        return x.run(n, 0);
    }

    /** "the greatest number of minutes from now (0 to n) at which SHUT of it can be given .. so that she does not SINK". */
    private static void latestIsTheGreatest() {
        String slow = "hold 99 1 9 0;hold 99 2 9 0;door 0 1 0 2 3;hole 0 20 20;lists 9;";
        for (String text : new String[] {LIST, slow}) {
            for (int gone = 0; gone < 2; gone++) {
                for (int n : new int[] {1, 2, 5, 8, 9, 10, 11, 12, 30, 60}) {
                    int due = NONE;
                    for (int after = 0; after <= n; after++) {
                        due = minutesIfShut(text, gone, after, n) == NONE ? after : due;
                    }
                    WhichHold x = Check.ship(text);
                    if (gone > 0) {
                        x.go(gone);
                    }
                    Check.due("latest(0, " + n + ") behind " + gone, due, x.latest(0, n));
                }
            }
        }
    }

    /** "(0 to n)": now and no later; at the end of all. */
    private static void latestZeroAndN() {
        // 9 tons a minute go to the right: LIST 4, 9; she SINKS at LIST 5
        String text = "hold 99 1 9 90;hold 99 2 9 0;door 0 1 0 9 1;lists 4;";
        Check.due("now, not a minute later", 0, Check.ship(text).latest(0, 60));
        Check.due("now, not a minute later", 0, Check.ship(text).latest(0, 2));
        Check.due("she does not SINK within 1", 1, Check.ship(text).latest(0, 1));
        WhichHold calm = Check.ship("hold 9 1 9 0;hold 9 1 9 0;door 0 1 0 1 9;");
        for (int n = 1; n <= 60; n++) {
            Check.due("latest(0, " + n + ")", n, calm.latest(0, n));
        }
    }

    /** "NONE: never". */
    private static void latestNever() {
        String text = "hold 99 1 9 90;hold 99 2 9 0;door 0 1 0 9 2;lists 4;";
        Check.due("it takes two minutes", NONE, Check.ship(text).latest(0, 60));
        Check.due("it takes two minutes", NONE, Check.ship(text).latest(0, 2));
        Edge.refused("latest of the sunk, under way", Edge::sunk, STATE, x -> x.latest(0, 9));
        Edge.refused("latest of who SINKS anyhow", () -> {
            WhichHold x = Edge.sunk();
            x.back(0);
            x.order(0, 4, 0, 0);
            x.order(50, 4, 0, 1);
            x.keep(1);
            return x;
        }, NONE, x -> x.latest(0, 60));
        WhichHold x = Check.ship("hold 9 1 9 9;hold 9 1 9 0;door 0 1 0 1 1;sinks 9;");
        for (int n : new int[] {1, 60}) {
            Check.due("latest(0, " + n + ") of the sunk", NONE, x.latest(0, n));
        }
    }

    /** "WITHOUT others", also such as would hinder or help. */
    private static void latestIsWithoutOthers() {
        for (int n : new int[] {5, 60}) {
            int due = Check.ship(LIST).latest(0, n);
            WhichHold x = Check.ship(LIST);
            x.order(0, 0, 0, 0);
            x.order(0, 2, 0, 0);
            x.order(due < 0 ? 0 : due, 4, 0, 1);
            Check.due("latest(0, " + n + ")", due, x.latest(0, n));
        }
        WhichHold x = Check.ship(LIST);
        x.order(0, 2, 0, 0);
        x.go(1);
        WhichHold y = Check.ship(LIST);
        y.go(1);
        Check.due("a SAIL under way takes its crew not", y.latest(0, 60), x.latest(0, 60));
    }

    // ---- promise 24

    /** "within n minutes (1 to 60; bits). BAD." */
    private static void helpsOutside() {
        for (int n : new int[] {0, -1, 61, 62, Edge.FAR, Edge.LOW}) {
            Edge.refused("helps(" + n + ")", Edge::busy, BAD, x -> x.helps(n));
            Check.due("helps(" + n + ") of a new one", BAD, new WhichHold().helps(n));
        }
        for (int n : new int[] {1, 2, 59, 60}) {
            Check.due("helps(" + n + ") of a new one", 0, new WhichHold().helps(n));
            Check.due("helps(" + n + ") of the sunk", 0, Edge.sunk().helps(n));
        }
    }

    /** "by whose SHUT alone .. she floats longer within n minutes": not as long. */
    private static void helpsWhoFloatsLonger() {
        WhichHold x = Check.ship("hold 99 1 9 90;hold 99 2 9 0;hold 99 1 9 90;door 0 2 0 9 1;door 0 1 0 4 1;door 2 1 0 1 1;lists 4;");
        // 5 and 10 tons on the right; 5 and 6 without DOOR 1; 5, 9 and 13 without DOOR 2
        Check.due("as it is", 2, x.free(60));
        Check.due("within 1 she floats anyhow", 0, x.helps(1));
        Check.due("within 2 both help", 6, x.helps(2));
        Check.due("within 60 both help, DOOR 0 does not", 6, x.helps(60));
        WhichHold y = Check.ship("hold 99 1 9 90;hold 99 2 9 0;" + "door 0 1 0 9 1;".repeat(2) + "door 0 1 0 9 1 shut;lists 8;");
        Check.due("18 tons at once", 1, y.free(60));
        Check.due("each takes a minute: none", 0, y.helps(60));
        StringBuilder all = new StringBuilder("hold 99 1 9 90;hold 99 2 9 0;" + "door 0 1 12 9 1;".repeat(9) + "door 0 1 0 9 1;lists 4;");
        Check.due("DOOR 9", 1 << 9, Check.ship(all.toString()).helps(60));
    }

    /** "DOORS that are open and under no ORDER": none that is shut or under way; one for later does not matter. */
    private static void helpsOpenAndIdle() {
        String text = "hold 99 1 9 90;hold 99 2 9 0;door 0 1 0 4 1;lists 4;";
        WhichHold x = Check.ship(text);
        Check.due("open and idle", 1, x.helps(60));
        x.order(9, 0, 0, 0);
        Check.due("told for later", 1, x.helps(60));
        x.order(0, 0, 0, 0);
        Check.due("told for now", 1, x.helps(60));
        x.go(1);
        Check.due("under way", 0, x.helps(60));
        WhichHold y = Check.ship("hold 99 1 9 90;hold 99 2 9 0;door 0 1 0 4 1 shut;lists 4;");
        Check.due("shut", 0, y.helps(60));
        y.order(0, 1, 0, 0);
        y.go(1);
        Check.due("being opened", 0, y.helps(60));
        y.go(1);
        Check.due("open", 1, y.helps(60));
    }

    /** "given now WITHOUT others". */
    private static void helpsIsWithoutOthers() {
        WhichHold x = Check.ship(LIST);
        int due = x.helps(60);
        Check.due("the DOOR", 1, due);
        x.order(0, 2, 0, 0);
        x.order(0, 4, 1, 1);
        Check.due("with others told", due, x.helps(60));
        x.go(1);
        WhichHold y = Check.ship(LIST);
        y.go(1);
        Check.due("with others under way", y.helps(60), x.helps(60));
    }

    /** The DOORS of an earlier text are none. */
    private static void helpsNotByDoorsOfAGreaterShip() {
        String one = "hold 99 1 9 90;hold 99 2 9 0;door 0 1 0 4 1;lists 4;";
        WhichHold x = Check.ship("hold 9 1 9 0;hold 9 1 9 0;" + "door 0 1 0 1 1;".repeat(10));
        for (int again = 0; again < 2; again++) {
            Check.tell(x, one);
            Check.due("helps(60)", 1, x.helps(60));
            Check.due("latest(1, 9)", BAD, x.latest(1, 9));
        }
    }
}
