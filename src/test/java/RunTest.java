/** Promises 19 to 24: run, water, free, best, latest, helps. */
public final class RunTest {
    /** 12 tons a minute at first; from hold 0 it goes to hold 1, whose side is right. */
    private static final String SHIP = "hold 48 1 9 0;hold 48 2 9 0;door 0 1 0 9 2;hole 0 12 3;lists 9;";

    public static void main(String[] args) {
        wrongNumbers();
        runs();
        runsWithOrders();
        sunkAlready();
        bestOfNone();
        bestByCrews();
        bestOfUnlike();
        bestLooksAtOrdersOfARow();
        bestIsNotKeptTooLong();
        underWay();
        latest();
        helps();
        Check.finish("RunTest");
    }

    private static void wrongNumbers() {
        WhichHold x = Check.ship(SHIP);
        for (int n : new int[] {0, -1, 121, Integer.MAX_VALUE, Integer.MIN_VALUE}) {
            Check.due("run n", -1, x.run(n, 0));
            Check.due("water n", -1, x.water(n, 0));
            Check.due("free n", -1, x.free(n));
        }
        for (int n : new int[] {0, -1, 61, Integer.MAX_VALUE, Integer.MIN_VALUE}) {
            Check.due("best n", -1, x.best(0, n, 0));
            Check.due("latest n", -1, x.latest(0, n));
            Check.due("helps n", -1, x.helps(n));
        }
        Check.due("run what", -1, x.run(1, 7));
        Check.due("run what", -1, x.run(1, -1));
        Check.due("water h", -1, x.water(1, 2));
        Check.due("water h", -1, x.water(1, -1));
        Check.due("latest d", -1, x.latest(1, 1));
        Check.due("latest d", -1, x.latest(-1, 1));
        Check.due("best k", -1, x.best(4, 1, 0));
        Check.due("best k", -1, x.best(-1, 1, 0));
        for (int what : new int[] {-1, 2, 9, 12, Integer.MAX_VALUE, Integer.MIN_VALUE}) {
            Check.due("best what " + what, -1, x.best(2, 1, what));
        }
        Check.due("best what 10 of none", -1, x.best(0, 1, 10));
        Check.due("BAD ahead of STATE", -1, x.best(3, 1, 13));
        Check.due("there are two", -2, x.best(3, 1, 12));
        WhichHold calm = Check.ship("hold 9 1 9 4;hold 9 1 9 0;door 0 1 0 1 1 ;");
        for (int n : new int[] {1, 60, 120}) {
            Check.due("run(" + n + ", 0)", -4, calm.run(n, 0));
            Check.due("water(" + n + ", 0) and (.., 1)", 4, calm.water(n, 0) + calm.water(n, 1));
            Check.due("free(" + n + ")", -4, calm.free(n));
            Check.due("best(0, " + n + ", 0)", n > 60 ? -1 : -4, calm.best(0, n, 0));
            Check.due("latest(0, " + n + ")", n > 60 ? -1 : n, calm.latest(0, n));
            Check.due("helps(" + n + ")", n > 60 ? -1 : 0, calm.helps(n));
        }
        Check.due("the longest", 1, x.run(120, 0) == -1 ? 0 : 1);
        Check.due("the longest", 1, x.best(0, 60, 0) == -1 ? 0 : 1);
        Check.due("the longest", 1, x.latest(0, 60) == -1 ? 0 : 1);
    }

    private static void runs() {
        WhichHold x = Check.ship(SHIP);
        // minute 1: 12 come, HEIGHTS 3 : 0; tons go until both are 1 : 1 (7 : 5), as far as 9 tons
        Check.due("run(1, 2)", 12, x.run(1, 2));
        Check.due("water(1, 1)", 5, x.water(1, 1));
        Check.due("run(1, 3)", 2, x.run(1, 3));
        Check.due("run(1, 4)", 0, x.run(1, 4));
        Check.due("run(1, 0)", -4, x.run(1, 0));
        Check.due("run(1, 1)", 0, x.run(1, 1));
        Check.due("all stays as it is", 0, x.now(0));
        Check.due("all stays as it is", 0, x.now(1));
        int until = x.run(30, 0);
        x.keep(0);
        x.go(until - 1);
        Check.due("the minute before", 0, x.now(4));
        Check.due("greatest LIST so far", 9, Math.max(9, x.now(2)));
        x.go(1);
        Check.due("then", 2, x.now(4));
        Check.due("seen", until, x.now(5));
        int all = x.now(1);
        int list = x.now(2);
        x.back(0);
        Check.due("run(30, 1)", 2, x.run(30, 1));
        Check.due("run(30, 2)", all, x.run(30, 2));
        Check.due("run(30, 3)", list, x.run(30, 3));
        Check.due("run(30, 6)", list, x.run(30, 6));
        Check.due("run(until - 1, 0)", -4, x.run(until - 1, 0));
        Check.due("run(until, 0)", until, x.run(until, 0));
        Check.due("free(until - 1)", -4, x.free(until - 1));
        Check.due("free(until)", until, x.free(until));
        WhichHold y = Check.ship("hold 20 0 0 20;pump 9 0;trims 99;");
        Check.due("greatest LIST is that of now", 10, y.run(5, 6));
        Check.due("LIST at the end", 0, y.run(5, 3));
        Check.due("TRIM at the end", 9, y.run(1, 4));
    }

    private static void runsWithOrders() {
        WhichHold x = Check.ship(SHIP);
        int free = x.free(60);
        x.order(0, 0, 0, 0);
        x.order(1, 2, 0, 0);
        x.order(2, 0, 0, 0);
        Check.due("shut in time", -4, x.run(60, 0));
        Check.due("free is without orders", free, x.free(60));
        Check.due("one fails for want of a crew, one as it is shut", 2, x.run(60, 5));
        Check.due("in one minute none", 0, x.run(1, 5));
        Check.due("the order is to come still", 0, x.given(0, 4));
        x.go(1);
        Check.due("free is without orders under way", free - 1, x.free(60));
        x.go(1);
        Check.due("those that failed before do not count", 1, x.run(60, 5));
    }

    private static void sunkAlready() {
        WhichHold x = Check.ship("hold 9 1 9 0;hold 9 1 9 9;sinks 9;hole 0 3 1;door 0 1 0 1 1;");
        x.go(5);
        Check.due("run(9, 0)", 0, x.run(9, 0));
        Check.due("run(9, 1)", 1, x.run(9, 1));
        Check.due("run(9, 2)", 9, x.run(9, 2));
        Check.due("free(9)", 0, x.free(9));
        Check.due("best(0, 9, 0)", 0, x.best(0, 9, 0));
        Check.due("best(1, 9, 0)", 0, x.best(1, 9, 0));
        Check.due("best(1, 9, 1)", 9, x.best(1, 9, 1));
        Check.due("best(2, 9, 11)", 20, x.best(2, 9, 11));
        Check.due("latest(0, 9)", -4, x.latest(0, 9));
        Check.due("helps(9)", 0, x.helps(9));
    }

    private static void bestOfNone() {
        WhichHold x = Check.ship(SHIP);
        Check.due("best(0, 60, 0)", x.free(60), x.best(0, 60, 0));
        Check.due("best(0, 3, 1)", x.run(3, 2), x.best(0, 3, 1));
        WhichHold y = new WhichHold();
        Check.due("no ship: best(0)", -4, y.best(0, 5, 0));
        Check.due("no ship: best(1)", -2, y.best(1, 5, 0));
        Check.due("no ship: best(1) BAD", -1, y.best(1, 5, 11));
    }

    /** The second order waits for the crew; with two crews it does not. */
    private static void bestByCrews() {
        String ship = "hold 99 1 9 0;hold 99 1 9 0;hole 0 12 2;hole 1 12 2;sinks 400;";
        WhichHold one = Check.ship(ship);
        // 5 minutes; each hole lets 12, 11 (HEIGHT 1), .. in; only the sum of a row tells
        Check.due("the first of two that are alike", 20, one.best(1, 5, 10));
        Check.due("the first row of two that are alike", 20, one.best(2, 5, 10));
        Check.due("the first row of two that are alike", 21, one.best(2, 5, 11));
        WhichHold two = Check.ship(ship + "crews 2;");
        int byOne = one.best(2, 5, 1);
        int byTwo = two.best(2, 5, 1);
        two.order(0, 2, 0, 0);
        two.order(0, 2, 1, 0);
        Check.due("both now", two.run(5, 2), byTwo);
        one.order(0, 2, 0, 0);
        one.order(2, 2, 1, 0);
        Check.due("one behind the other", one.run(5, 2), byOne);
        Check.due("none fails", 0, one.run(5, 5));
        Check.due("less water", 1, byTwo < byOne ? 1 : 0);
    }

    private static void bestOfUnlike() {
        WhichHold x = Check.ship("hold 9 1 9 0;hole 0 3 1;");
        Check.due("one order to choose", 20, x.best(1, 5, 10));
        Check.due("not the same twice", -2, x.best(2, 5, 0));
        x.order(0, 2, 0, 0);
        x.go(2);
        Check.due("a sail is over it", -2, x.best(1, 5, 0));
        WhichHold y = Check.ship("hold 9 1 9 0;hold 9 1 9 0;door 0 1 0 1 1 shut;");
        Check.due("a shut door is none", -2, y.best(1, 5, 0));
    }

    /** The greater hole first is better than the row that comes first. */
    private static void bestLooksAtOrdersOfARow() {
        WhichHold x = Check.ship("hold 99 1 9 0;hold 99 1 9 0;hole 0 2 5;hole 1 20 5;");
        // 81 and 16 tons against 87 and 13 in 8 minutes; in 12 minutes 90 and 22 against 95 and 17
        Check.due("first", 21, x.best(2, 8, 10));
        Check.due("second", 20, x.best(2, 8, 11));
        Check.due("WATER in all", 97, x.best(2, 8, 1));
        Check.due("first of two as good", 20, x.best(2, 12, 10));
        Check.due("second", 21, x.best(2, 12, 11));
        Check.due("WATER in all", 112, x.best(2, 12, 1));
        // latest sinking comes ahead of less water: only the door keeps her from listing
        WhichHold y = Check.ship("hold 60 1 9 0;hold 60 2 9 0;door 0 1 0 9 1;hole 0 12 1;lists 5;");
        Check.due("the door", 0, y.best(1, 20, 10));
        Check.due("not at all", -4, y.best(1, 20, 0));
    }

    private static void bestIsNotKeptTooLong() {
        WhichHold x = Check.ship("hold 60 1 9 0;hold 60 1 9 0;door 0 1 0 9 1;hole 0 12 1;");
        x.keep(0);
        int first = x.best(1, 9, 1);
        x.go(1);
        int second = x.best(1, 9, 1);
        Check.due("behind go", 1, second > first ? 1 : 0);
        x.back(0);
        Check.due("behind back", first, x.best(1, 9, 1));
        x.put(1, 50);
        Check.due("behind put", 1, x.best(1, 9, 1) > second ? 1 : 0);
        Check.due("asked twice", x.best(1, 9, 1), x.best(1, 9, 1));
        Check.tell(x, "hold 9 1 9 0;hold 9 1 9 1;door 0 1 0 9 1;");
        Check.due("behind text", 1, x.best(1, 9, 1));
    }

    private static void underWay() {
        WhichHold x = Check.ship(SHIP);
        x.order(0, 0, 0, 0);
        x.go(1);
        Check.due("latest: under way", -2, x.latest(0, 5));
        Check.due("helps: under way", 0, x.helps(60));
        Check.due("best looks away from what is under way", -4, x.best(2, 60, 0));
        x.go(2);
        Check.due("latest: shut", -2, x.latest(0, 5));
        WhichHold y = Check.ship(SHIP);
        y.order(50, 0, 0, 0);
        Check.due("an order to come does not matter", Check.ship(SHIP).latest(0, 60), y.latest(0, 60));
        Check.due("an order to come does not matter", 1, y.helps(60));
    }

    private static void latest() {
        WhichHold x = Check.ship(SHIP);
        int latest = x.latest(0, 60);
        Check.due("0 or more", 1, latest >= 0 ? 1 : 0);
        x.keep(0);
        x.order(latest, 0, 0, 0);
        Check.due("then she floats", -4, x.run(60, 0));
        for (int later = latest + 1; later <= 60; later++) {
            x.back(0);
            x.order(later, 0, 0, 0);
            Check.due("later she sinks", 1, x.run(60, 0) == -4 ? 0 : 1);
        }
        x.back(0);
        int until = x.free(60);
        Check.due("within less than that: at the end", until - 1, x.latest(0, until - 1));
        WhichHold y = Check.ship("hold 60 1 9 0;hold 60 1 9 0;door 0 1 0 9 1;hole 0 12 1;sinks 20;");
        Check.due("never", -4, y.latest(0, 30));
        // 10 come, 9 go on to the right, LIST is 4; more would go in the next minute, if it were not shut by then
        WhichHold z = Check.ship("hold 48 1 9 9;hold 99 2 9 0;door 0 1 0 9 1;hole 0 12 3;lists 4;");
        Check.due("now or never", 0, z.latest(0, 30));
        Check.due("it helps at once", 1, z.helps(30));
        Check.due("within one minute", 1, z.latest(0, 1));
    }

    private static void helps() {
        WhichHold x = Check.ship("hold 48 1 9 0;hold 48 2 9 0;hold 48 1 9 0;door 0 2 0 1 1;door 0 1 0 9 2;door 0 1 0 9 1 shut;hole 0 12 3;lists 9;");
        Check.due("door 1 alone", 2, x.helps(60));
        Check.due("within a minute none", 0, x.helps(1));
        WhichHold y = Check.ship("hold 60 1 9 0;hold 60 1 9 0;door 0 1 0 9 1;hole 0 12 1;sinks 20;");
        Check.due("as long as without is not longer", 0, y.helps(2));
        Check.due("no ship", 0, new WhichHold().helps(5));
    }
}
