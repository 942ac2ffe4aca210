/** The edges of ORDERS and of promises 16 to 18, a sentence of the document each. */
public final class EdgeOrderTest {
    private static final int BAD = Edge.BAD, FULL = Edge.FULL, NONE = Edge.NONE;
    private static final int TO_COME = 0, UNDER_WAY = 1, DONE = 2, FAILED = 3;
    private static final String HOLDS = "hold 50 0 9 0;hold 50 1 9 0;hold 50 2 9 0;";
    private static final String SHIP = HOLDS + "door 0 1 12 3 2;door 1 2 12 3 4 shut;hole 0 6 3;hole 1 6 1;pump 2 0;";

    public static void main(String[] args) {
        minuteNotAheadOfNow();
        minuteNotAbove999();
        minutesBehind999();
        kindOutside();
        doorOutside();
        holeOutside();
        pumpOutside();
        valveOutside();
        whereIsNotLookedAt();
        twelveOrders();
        badAheadOfFull();
        refusedOrdersChangeNothing();
        orderToTheSunk();
        givenOutside();
        givenAsTold();
        howItIs();
        endsOf();
        minutesThatTheyTake();
        begunInTheirMinute();
        endsAheadOfBeginnings();
        endsByOrders();
        fewerThanCrews();
        crewFreeAtItsEnd();
        failedTakesNoCrew();
        shutNeedsAnOpenDoor();
        openNeedsAShutDoor();
        oneOrderForADoor();
        sailNeedsNone();
        pumpAndValveNeedNothing();
        byNumbersNotByTelling();
        failedIsAsNeverTold();
        recallOfThoseToCome();
        recallOfNone();
        Check.finish("EdgeOrderTest");
    }

    private static WhichHold ship(int crews) {
        return Check.ship(SHIP + "crews " + crews + ";");
    }

    private static void bad(WhichHold x, int minute, int kind, int what, int where) {
        int had = x.count(4);
        String name = "order(" + minute + ", " + kind + ", " + what + ", " + where + ")";
        Check.due(name, BAD, x.order(minute, kind, what, where));
        Check.due(name + " does not come", had, x.count(4));
    }

    private static void good(WhichHold x, int minute, int kind, int what, int where) {
        int had = x.count(4);
        Check.due("order(" + minute + ", " + kind + ", " + what + ", " + where + ")", had, x.order(minute, kind, what, where));
        Check.due("it comes", had + 1, x.count(4));
    }

    private static void how(String name, WhichHold x, int... due) {
        for (int k = 0; k < due.length; k++) {
            Check.due(name + ": ORDER " + k, due[k], x.given(k, 4));
        }
    }

    // ---- promise 16

    /** "a MINUTE, not ahead of the MINUTE that is", "BAD: also an earlier MINUTE". */
    private static void minuteNotAheadOfNow() {
        WhichHold x = ship(1);
        for (int minute = 0; minute < 4; minute++) {
            bad(x, minute - 1, 4, 0, 1);
            bad(x, -1, 4, 0, 1);
            good(x, minute, 4, 0, 1);
            good(x, minute + 1, 4, 0, 1);
            x.go(1);
        }
        bad(x, Edge.LOW, 4, 0, 1);
        bad(x, -4, 4, 0, 1);
        x.keep(0);
        x.go(9);
        bad(x, 12, 4, 0, 1);
        x.back(0);
        good(x, 4, 4, 0, 1);
        bad(x, 3, 4, 0, 1);
    }

    /** "BAD: .. above 999". */
    private static void minuteNotAbove999() {
        WhichHold x = ship(1);
        for (int kind = 0; kind < 5; kind++) {
            good(x, 999, kind, 0, 0);
            good(x, 998, kind, 0, 0);
            bad(x, 1000, kind, 0, 0);
            bad(x, 1001, kind, 0, 0);
            bad(x, Edge.FAR, kind, 0, 0);
        }
    }

    /** In MINUTE 999 an ORDER can still be told and is begun; in MINUTE 1000 none can. */
    private static void minutesBehind999() {
        WhichHold x = ship(1);
        for (int i = 0; i < 8; i++) {
            x.go(120);
        }
        x.go(39);
        Check.due("MINUTE", 999, x.now(0));
        bad(x, 998, 4, 0, 1);
        bad(x, 1000, 4, 0, 1);
        good(x, 999, 4, 0, 1);
        x.go(1);
        how("begun in MINUTE 999", x, UNDER_WAY);
        bad(x, 999, 4, 0, 1);
        bad(x, 1000, 4, 0, 1);
        x.go(1);
        how("it ends in MINUTE 1000", x, DONE);
        Check.due("ends", 1000, x.given(0, 5));
        Check.due("open", 1, x.hold(0, 5));
    }

    /** "kind .. 0 SHUT .. 4 VALVE". */
    private static void kindOutside() {
        WhichHold x = ship(1);
        for (int kind : new int[] {-1, 5, 6, 256, Edge.FAR, Edge.LOW}) {
            bad(x, 0, kind, 0, 0);
            bad(x, 0, kind, 0, 1);
        }
        for (int kind = 0; kind < 5; kind++) {
            good(x, 0, kind, 0, 0);
        }
    }

    private static void whatOutside(int kind, int many) {
        WhichHold x = ship(1);
        for (int what : new int[] {-1, -4, many, many + 1, Edge.FAR, Edge.LOW}) {
            bad(x, 0, kind, what, 0);
        }
        for (int what = 0; what < many; what++) {
            good(x, 0, kind, what, 0);
        }
    }

    /** "0 SHUT a DOOR, 1 OPEN a DOOR": of the DOORS that there are. */
    private static void doorOutside() {
        whatOutside(0, 2);
        whatOutside(1, 2);
        WhichHold x = Check.ship(HOLDS + "door 0 1 0 1 1;".repeat(10));
        good(x, 0, 0, 9, 0);
        bad(x, 0, 0, 10, 0);
        WhichHold none = Check.ship(HOLDS + "hole 0 1 1;pump 1 0;");
        bad(none, 0, 0, 0, 0);
        bad(none, 0, 1, 0, 0);
    }

    /** "2 SAIL over a HOLE". */
    private static void holeOutside() {
        whatOutside(2, 2);
        WhichHold x = Check.ship(HOLDS + "hole 0 1 1;".repeat(4));
        good(x, 0, 2, 3, 0);
        bad(x, 0, 2, 4, 0);
        bad(Check.ship(HOLDS + "door 0 1 0 1 1;pump 1 0;"), 0, 2, 0, 0);
    }

    /** "3 PUMP what to HOLD where (NONE: to none)". */
    private static void pumpOutside() {
        whatOutside(3, 1);
        WhichHold x = ship(1);
        for (int where : new int[] {-1, -2, -3, -5, 3, 4, 8, Edge.FAR, Edge.LOW}) {
            bad(x, 0, 3, 0, where);
        }
        for (int where : new int[] {0, 1, 2, NONE}) {
            good(x, 0, 3, 0, where);
        }
        WhichHold three = Check.ship("hold 9 1 9 0;".repeat(8) + "pump 1 0;".repeat(3));
        good(three, 0, 3, 2, 7);
        bad(three, 0, 3, 3, 7);
        bad(three, 0, 3, 2, 8);
        bad(Check.ship(HOLDS + "door 0 1 0 1 1;hole 0 1 1;"), 0, 3, 0, 0);
    }

    /** "4 VALVE of a HOLD (where 1 opens, 0 shuts it)". */
    private static void valveOutside() {
        whatOutside(4, 3);
        WhichHold x = ship(1);
        for (int where : new int[] {-1, 2, 3, NONE, Edge.FAR, Edge.LOW}) {
            bad(x, 0, 4, 0, where);
        }
        good(x, 0, 4, 0, 0);
        good(x, 0, 4, 0, 1);
        WhichHold eight = Check.ship("hold 9 1 9 0;".repeat(8));
        good(eight, 0, 4, 7, 1);
        bad(eight, 0, 4, 8, 1);
        bad(new WhichHold(), 0, 4, 0, 1);
    }

    /** "where of SHUT, OPEN, SAIL is not looked at". */
    private static void whereIsNotLookedAt() {
        for (int kind = 0; kind < 3; kind++) {
            WhichHold x = ship(1);
            int[] wheres = {0, -1, NONE, 3, 1000, Edge.FAR, Edge.LOW};
            for (int i = 0; i < wheres.length; i++) {
                good(x, 0, kind, 0, wheres[i]);
                Check.due("as told", wheres[i], x.given(i, 3));
            }
        }
    }

    /** "ORDERS (12 ..)", "its number", "FULL". */
    private static void twelveOrders() {
        WhichHold x = ship(1);
        for (int k = 0; k < 12; k++) {
            Check.due("the number of ORDER " + k, k, x.order(k / 2, k % 5, 0, 0));
        }
        Check.due("the 13th", FULL, x.order(0, 0, 0, 0));
        Check.due("count(4)", 12, x.count(4));
        x.go(60);
        Check.due("those that are done or FAILED are ORDERS still", FULL, x.order(60, 0, 0, 0));
        x.recall();
        Check.due("those that were recalled too", FULL, x.order(60, 0, 0, 0));
        Check.due("ORDER 11", 5, x.given(11, 0));
        Check.tell(x, SHIP);
        Check.due("a text takes them away", 0, x.order(0, 0, 0, 0));
    }

    private static WhichHold fullShip() {
        WhichHold x = ship(2);
        for (int k = 0; k < 12; k++) {
            x.order(k, k % 5, 0, 1);
        }
        x.go(2);
        return x;
    }

    /** "the first that fits": BAD ahead of FULL. */
    private static void badAheadOfFull() {
        int[][] bads = {{1, 0, 0, 0}, {1000, 0, 0, 0}, {2, 5, 0, 0}, {2, -1, 0, 0}, {2, 0, 2, 0}, {2, 2, 2, 0}, {2, 3, 1, 0}, {2, 3, 0, 3},
            {2, 4, 3, 0}, {2, 4, 0, 2}};
        for (int[] b : bads) {
            Edge.refused("BAD, also if there is no room", EdgeOrderTest::fullShip, BAD, x -> x.order(b[0], b[1], b[2], b[3]));
        }
        for (int kind = 0; kind < 5; kind++) {
            int k = kind;
            Edge.refused("the 13th of kind " + k, EdgeOrderTest::fullShip, FULL, x -> x.order(2, k, 0, 1));
            Edge.refused("the 13th of kind " + k, EdgeOrderTest::fullShip, FULL, x -> x.order(999, k, 0, 0));
        }
    }

    private static void refusedOrdersChangeNothing() {
        int[][] bads = {{2, 0, 0, 0}, {1000, 0, 0, 0}, {3, 5, 0, 0}, {3, 0, 2, 0}, {3, 1, -1, 0}, {3, 2, 2, 0}, {3, 3, 2, 0}, {3, 3, 0, 3},
            {3, 4, 3, 0}, {3, 4, 0, 2}, {Edge.LOW, Edge.LOW, Edge.LOW, Edge.LOW}, {Edge.FAR, Edge.FAR, Edge.FAR, Edge.FAR}};
        for (int[] b : bads) {
            Edge.refused("order", Edge::busy, BAD, x -> x.order(b[0], b[1], b[2], b[3]));
        }
        Edge.refused("order without a ship", Edge::empty, BAD, x -> x.order(0, 0, 0, 0));
    }

    /** An ORDER can be told to who has SUNK: it stays to come. */
    private static void orderToTheSunk() {
        WhichHold x = Edge.sunk();
        bad(x, 2, 4, 0, 1);
        good(x, 3, 4, 0, 1);
        x.go(5);
        Check.due("to come", TO_COME, x.given(2, 4));
        Check.due("FAILED", 0, x.now(7));
    }

    // ---- promise 17

    /** "BAD": another ORDER, another what. */
    private static void givenOutside() {
        for (int told = 0; told <= 12; told += 4) {
            WhichHold x = ship(1);
            for (int k = 0; k < told; k++) {
                x.order(5, 0, 0, 0);
            }
            for (int k = 0; k < told; k++) {
                Check.due("given(" + k + ", 0) of " + told, 5, x.given(k, 0));
                Check.due("given(" + k + ", 6)", BAD, x.given(k, 6));
                Check.due("given(" + k + ", -1)", BAD, x.given(k, -1));
            }
            for (int k : new int[] {-1, NONE, told, told + 1, 12, Edge.FAR, Edge.LOW}) {
                for (int what = 0; what < 6; what++) {
                    Check.due("given(" + k + ", " + what + ") of " + told, BAD, x.given(k, what));
                }
            }
        }
        WhichHold x = fullShip();
        for (int wrong : new int[] {-1, 6, 7, Edge.FAR, Edge.LOW}) {
            Check.due("given(11, " + wrong + ")", BAD, x.given(11, wrong));
            Edge.refused("given(" + wrong + ", 4)", Edge::busy, BAD, y -> y.given(wrong, 4));
            Edge.refused("given(0, " + wrong + ")", Edge::busy, BAD, y -> y.given(0, wrong));
        }
    }

    /** "0 MINUTE, 1 kind, 2 what, 3 where": as told. */
    private static void givenAsTold() {
        WhichHold x = ship(1);
        int[][] told = {{0, 0, 1, 9}, {999, 1, 0, -9}, {7, 2, 1, Edge.LOW}, {8, 3, 0, NONE}, {9, 3, 0, 2}, {10, 4, 2, 1}, {11, 4, 0, 0}};
        for (int[] t : told) {
            x.order(t[0], t[1], t[2], t[3]);
        }
        for (int minute = 0; minute < 2; minute++) {
            for (int k = 0; k < told.length; k++) {
                for (int what = 0; what < 4; what++) {
                    Check.due("given(" + k + ", " + what + ")", told[k][what], x.given(k, what));
                }
            }
            x.go(60);
        }
    }

    /** "4 how it is (0 to come, 1 under way, 2 done, 3 FAILED)". */
    private static void howItIs() {
        WhichHold x = ship(1);
        x.order(1, 0, 0, 0);
        x.order(2, 4, 0, 1);
        int[] first = {TO_COME, TO_COME, UNDER_WAY, UNDER_WAY, DONE, DONE};
        int[] second = {TO_COME, TO_COME, TO_COME, FAILED, FAILED, FAILED};
        for (int minute = 0; minute < 6; minute++) {
            how("MINUTE " + minute, x, first[minute], second[minute]);
            Check.due("under way", first[minute] == UNDER_WAY ? 1 : 0, x.now(6));
            Check.due("FAILED", second[minute] == FAILED ? 1 : 0, x.now(7));
            x.go(1);
        }
    }

    /** "5 the MINUTE at which it ends (NONE: it was not begun)". */
    private static void endsOf() {
        WhichHold x = ship(1);
        x.order(1, 0, 0, 0);
        x.order(2, 4, 0, 1);
        for (int minute = 0; minute < 6; minute++) {
            Check.due("ends, in MINUTE " + minute, minute < 2 ? NONE : 3, x.given(0, 5));
            Check.due("never begun", NONE, x.given(1, 5));
            x.go(1);
        }
        x.order(9, 4, 0, 1);
        x.recall();
        x.go(9);
        Check.due("recalled", NONE, x.given(2, 5));
    }

    // ---- how ORDERS go

    /** "Minutes that they take: 0, 1: the DOOR's; 2: the HOLE's; 3, 4: 1." */
    private static void minutesThatTheyTake() {
        for (int minutes = 1; minutes <= 20; minutes++) {
            int door = Math.min(9, minutes);
            WhichHold x = Check.ship(HOLDS + "door 0 1 0 1 1;door 0 1 0 1 " + door + ";door 0 1 0 1 " + door + " shut;hole 0 1 1;hole 0 1 " + minutes
                + ";pump 1 0;crews 3;");
            x.order(2, 0, 1, 0);
            x.order(2, 1, 2, 0);
            x.order(2, 2, 1, 0);
            x.order(30, 3, 0, 1);
            x.order(30, 4, 1, 1);
            x.go(31);
            int[] ends = {2 + door, 2 + door, 2 + minutes, 31, 31};
            for (int k = 0; k < 5; k++) {
                Check.due("ORDER " + k + " ends", ends[k], x.given(k, 5));
            }
            how("in MINUTE 31", x, DONE, DONE, DONE, UNDER_WAY, UNDER_WAY);
            x.go(1);
            how("in MINUTE 32", x, DONE, DONE, DONE, DONE, DONE);
        }
    }

    /** "then ORDERS told for this MINUTE are begun": neither ahead of it nor behind. */
    private static void begunInTheirMinute() {
        for (int minute : new int[] {0, 1, 2, 119, 120, 121}) {
            WhichHold x = ship(1);
            x.order(minute, 4, 0, 1);
            if (minute > 0) {
                x.go(Math.min(minute, 120));
            }
            if (minute > 120) {
                x.go(minute - 120);
            }
            how("ahead of MINUTE " + minute, x, TO_COME);
            x.go(1);
            how("behind MINUTE " + minute, x, UNDER_WAY);
            Check.due("ends", minute + 1, x.given(0, 5));
        }
    }

    /** "first what ORDERS that end now did takes place .. then ORDERS told for this MINUTE are begun". */
    private static void endsAheadOfBeginnings() {
        WhichHold x = ship(1);
        x.order(2, 1, 0, 0);
        x.order(0, 0, 0, 0);
        x.go(2);
        how("SHUT under way", x, TO_COME, UNDER_WAY);
        x.go(1);
        how("OPEN begins as SHUT ends, though its number is less", x, UNDER_WAY, DONE);
        Check.due("shut", 0, x.door(0, 5));
        x.go(2);
        Check.due("ends", 4, x.given(0, 5));
        Check.due("open", 1, x.door(0, 5));
    }

    /** "takes place, by ORDERS": of several that end at once the last one's word stays. */
    private static void endsByOrders() {
        WhichHold x = ship(3);
        x.order(0, 4, 0, 0);
        x.order(0, 4, 0, 1);
        x.order(0, 3, 0, 1);
        x.order(3, 4, 0, 1);
        x.order(3, 4, 0, 0);
        x.order(3, 3, 0, NONE);
        x.go(2);
        Check.due("opened last", 1, x.hold(0, 5));
        Check.due("PUMP", 1, x.pump(0, 1));
        x.go(3);
        Check.due("shut last", 0, x.hold(0, 5));
        Check.due("PUMP", NONE, x.pump(0, 1));
        WhichHold y = ship(2);
        y.order(0, 3, 0, 1);
        y.order(0, 3, 0, 2);
        y.go(2);
        Check.due("the PUMP is where it was sent last", 2, y.pump(0, 1));
    }

    /** "One can be BEGUN, if fewer ORDERS are under way than crews". */
    private static void fewerThanCrews() {
        for (int crews = 1; crews <= 3; crews++) {
            WhichHold x = ship(crews);
            int[][] orders = {{0, 0, 0}, {1, 1, 0}, {2, 0, 0}, {3, 0, 1}, {4, 0, 1}, {4, 1, 1}};
            for (int[] o : orders) {
                x.order(0, o[0], o[1], o[2]);
            }
            x.go(1);
            for (int k = 0; k < 6; k++) {
                Check.due(crews + " crews: ORDER " + k, k < crews ? UNDER_WAY : FAILED, x.given(k, 4));
            }
            Check.due("under way", crews, x.now(6));
            Check.due("FAILED", 6 - crews, x.now(7));
        }
    }

    /** A crew is free again in the MINUTE in which its ORDER ends, not in the one ahead. */
    private static void crewFreeAtItsEnd() {
        for (int begin = 1; begin <= 4; begin++) {
            WhichHold x = ship(1);
            x.order(0, 2, 0, 0);
            x.order(begin, 4, 0, 1);
            x.go(begin + 1);
            Check.due("told for MINUTE " + begin, begin < 3 ? FAILED : UNDER_WAY, x.given(1, 4));
        }
    }

    /** An ORDER that FAILS in a MINUTE leaves its crew to the next one. */
    private static void failedTakesNoCrew() {
        WhichHold x = ship(1);
        x.order(0, 0, 1, 0);
        x.order(0, 1, 0, 0);
        x.order(0, 4, 0, 1);
        x.order(0, 4, 1, 1);
        x.go(1);
        how("the first that can be begun", x, FAILED, FAILED, UNDER_WAY, FAILED);
    }

    /** "SHUT: the DOOR is open, and no ORDER for it is under way". */
    private static void shutNeedsAnOpenDoor() {
        WhichHold x = ship(3);
        x.order(0, 0, 1, 0);
        x.order(0, 0, 0, 0);
        x.order(0, 0, 0, 0);
        x.order(1, 0, 0, 0);
        x.order(2, 0, 0, 0);
        x.go(3);
        how("shut; open; under way; under way; shut by then", x, FAILED, DONE, FAILED, FAILED, FAILED);
    }

    /** "OPEN: it is shut, likewise". */
    private static void openNeedsAShutDoor() {
        WhichHold x = ship(3);
        x.order(0, 1, 0, 0);
        x.order(0, 1, 1, 0);
        x.order(0, 1, 1, 0);
        x.order(3, 1, 1, 0);
        x.order(4, 1, 1, 0);
        x.go(5);
        how("open; shut; under way; under way; open by then", x, FAILED, DONE, FAILED, FAILED, FAILED);
    }

    /** "no ORDER for it is under way": neither SHUT nor OPEN; ORDERS for what bears its number do not matter. */
    private static void oneOrderForADoor() {
        WhichHold x = ship(3);
        x.order(0, 0, 0, 0);
        x.order(1, 1, 0, 0);
        x.order(0, 1, 1, 0);
        x.order(1, 0, 1, 0);
        x.order(2, 1, 0, 0);
        x.order(4, 0, 1, 0);
        x.go(5);
        how("the other way while under way", x, DONE, FAILED, DONE, FAILED, DONE, UNDER_WAY);
        WhichHold y = ship(3);
        y.order(0, 2, 0, 0);
        y.order(0, 4, 0, 1);
        y.order(0, 0, 0, 0);
        y.go(1);
        how("SAIL 0, VALVE 0, SHUT 0", y, UNDER_WAY, UNDER_WAY, UNDER_WAY);
        WhichHold z = ship(3);
        z.order(0, 0, 0, 0);
        z.order(0, 2, 0, 0);
        z.order(0, 3, 0, 1);
        z.go(1);
        how("SHUT 0, SAIL 0, PUMP 0", z, UNDER_WAY, UNDER_WAY, UNDER_WAY);
    }

    /** "SAIL: there is none over it, nor one under way". */
    private static void sailNeedsNone() {
        WhichHold x = ship(3);
        x.order(0, 2, 0, 0);
        x.order(0, 2, 0, 0);
        x.order(0, 2, 1, 0);
        x.order(2, 2, 0, 0);
        x.order(3, 2, 0, 0);
        x.order(99, 2, 1, 0);
        x.go(4);
        how("one; under way; another HOLE; under way; over it", x, DONE, FAILED, DONE, FAILED, FAILED, TO_COME);
        Check.due("over it", 1, x.hole(0, 3));
        x.go(96);
        how("for ever", x, DONE, FAILED, DONE, FAILED, FAILED, FAILED);
    }

    /** PUMP and VALVE need but a crew: also to where it is, also twice at once. */
    private static void pumpAndValveNeedNothing() {
        WhichHold x = ship(3);
        x.order(0, 3, 0, 0);
        x.order(0, 3, 0, 0);
        x.order(0, 4, 0, 0);
        x.order(1, 4, 0, 1);
        x.order(1, 4, 0, 1);
        x.order(2, 4, 0, 1);
        x.go(4);
        how("none FAILS", x, DONE, DONE, DONE, DONE, DONE, DONE);
        Check.due("FAILED", 0, x.now(7));
    }

    /** "of one MINUTE by numbers": but MINUTES go ahead of numbers. */
    private static void byNumbersNotByTelling() {
        WhichHold x = ship(1);
        x.order(3, 0, 0, 0);
        x.order(2, 4, 0, 1);
        x.order(2, 4, 1, 1);
        x.order(1, 4, 2, 1);
        x.go(4);
        how("3, 2, 2, 1", x, UNDER_WAY, DONE, FAILED, DONE);
    }

    /** "else it FAILS (it is as if it was never told)": WATER goes as without it. */
    private static void failedIsAsNeverTold() {
        WhichHold x = ship(1);
        WhichHold y = ship(1);
        x.order(0, 2, 0, 0);
        y.order(0, 2, 0, 0);
        x.order(1, 4, 0, 1);
        x.order(2, 3, 0, NONE);
        x.order(2, 2, 1, 0);
        for (int minute = 0; minute < 20; minute++) {
            Check.due("WATER in all", y.go(1), x.go(1));
        }
        Check.due("three FAILED", 3, x.now(7));
        Check.due("the VALVE", 0, x.hold(0, 5));
        Check.due("the PUMP", 0, x.pump(0, 1));
        Check.due("the HOLE", 0, x.hole(1, 3));
    }

    // ---- promise 18

    /** "ORDERS to come FAIL at once: how many." */
    private static void recallOfThoseToCome() {
        WhichHold x = ship(2);
        x.order(0, 4, 0, 1);
        x.order(0, 0, 0, 0);
        x.order(0, 4, 1, 1);
        x.order(2, 4, 1, 1);
        x.order(1, 2, 0, 0);
        x.order(999, 0, 0, 0);
        x.go(1);
        how("ahead of it", x, UNDER_WAY, UNDER_WAY, FAILED, TO_COME, TO_COME, TO_COME);
        Check.due("recall()", 3, x.recall());
        how("at once", x, UNDER_WAY, UNDER_WAY, FAILED, FAILED, FAILED, FAILED);
        Check.due("FAILED so far", 4, x.now(7));
        x.go(20);
        how("what was under way is done", x, DONE, DONE, FAILED, FAILED, FAILED, FAILED);
        WhichHold y = ship(1);
        for (int k = 0; k < 12; k++) {
            y.order(0, 4, 0, 1);
        }
        Check.due("recall() of all twelve", 12, y.recall());
        y.go(3);
        Check.due("none was begun", 0, y.hold(0, 5));
    }

    /** How many: none. */
    private static void recallOfNone() {
        Edge.refused("recall() of none told", Edge::empty, 0, x -> x.recall());
        WhichHold x = ship(1);
        x.order(0, 0, 0, 0);
        x.order(0, 4, 0, 1);
        x.go(1);
        Check.due("under way and FAILED", 0, x.recall());
        how("as they were", x, UNDER_WAY, FAILED);
        Edge.alike("recall() twice", () -> {
            WhichHold y = Edge.busy();
            y.recall();
            return y;
        }, () -> {
            WhichHold y = Edge.busy();
            Check.due("recall()", 2, y.recall());
            Check.due("recall() again", 0, y.recall());
            return y;
        });
    }
}
