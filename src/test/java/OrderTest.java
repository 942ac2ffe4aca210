/** Promises 16 to 18: order, given, recall; and how ORDERS are begun and end. */
public final class OrderTest {
    private static final String SHIP = "hold 50 0 9 0;hold 50 1 9 0;hold 50 2 9 0;door 0 1 12 3 2;door 1 2 12 3 4 shut;hole 0 6 3;pump 2 0;";

    public static void main(String[] args) {
        wrongNumbers();
        whatIsTold();
        full();
        crews();
        doors();
        sails();
        sameMinute();
        recalled();
        Check.finish("OrderTest");
    }

    private static void wrongNumbers() {
        WhichHold x = Check.ship(SHIP);
        x.go(3);
        int[][] wrong = {
            {2, 0, 0, 0}, {-1, 0, 0, 0}, {1000, 0, 0, 0}, {Integer.MAX_VALUE, 0, 0, 0}, {Integer.MIN_VALUE, 0, 0, 0},
            {3, -1, 0, 0}, {3, 5, 0, 0}, {3, 0, -1, 0}, {3, 0, 2, 0}, {3, 1, 2, 0}, {3, 2, 1, 0}, {3, 2, -1, 0},
            {3, 3, 1, 0}, {3, 3, -1, 0}, {3, 3, 0, 3}, {3, 3, 0, -1}, {3, 3, 0, -3}, {3, 3, 0, -5},
            {3, 4, 3, 0}, {3, 4, -1, 0}, {3, 4, 0, 2}, {3, 4, 0, -1}, {3, 4, 0, -4}};
        for (int[] w : wrong) {
            Check.due("order(" + w[0] + ", " + w[1] + ", " + w[2] + ", " + w[3] + ")", -1, x.order(w[0], w[1], w[2], w[3]));
        }
        Check.due("none came", 0, x.count(4));
        Check.due("given(0, 0)", -1, x.given(0, 0));
        Check.due("order(999)", 0, x.order(999, 0, 0, 0));
        Check.due("order(3)", 1, x.order(3, 3, 0, -4));
        Check.due("given(-1, 0)", -1, x.given(-1, 0));
        Check.due("given(2, 0)", -1, x.given(2, 0));
        Check.due("given(0, 6)", -1, x.given(0, 6));
        Check.due("given(0, -1)", -1, x.given(0, -1));
        for (int i = 0; i < 9; i++) {
            x.go(120);
        }
        Check.due("behind 999 none may be told", -1, x.order(1083, 0, 0, 0));
    }

    private static void whatIsTold() {
        WhichHold x = Check.ship(SHIP);
        x.order(4, 3, 0, -4);
        x.order(7, 2, 0, Integer.MIN_VALUE);
        int[] first = {4, 3, 0, -4, 0, -4};
        int[] second = {7, 2, 0, Integer.MIN_VALUE, 0, -4};
        for (int what = 0; what < 6; what++) {
            Check.due("given(0, " + what + ")", first[what], x.given(0, what));
            Check.due("given(1, " + what + ")", second[what], x.given(1, what));
        }
        x.go(5);
        Check.due("under way", 1, x.given(0, 4));
        Check.due("ends", 5, x.given(0, 5));
        x.go(1);
        Check.due("done", 2, x.given(0, 4));
        Check.due("ended", 5, x.given(0, 5));
    }

    private static void full() {
        WhichHold x = Check.ship(SHIP);
        for (int i = 0; i < 12; i++) {
            Check.due("order " + i, i, x.order(0, 4, 0, 0));
        }
        Check.due("the 13th", -3, x.order(0, 4, 0, 0));
        Check.due("BAD ahead of FULL", -1, x.order(0, 4, 0, 2));
        x.go(2);
        Check.due("those that failed count", -3, x.order(2, 4, 0, 0));
        Check.due("failed", 11, x.now(7));
        Check.due("count(4)", 12, x.count(4));
    }

    private static void crews() {
        WhichHold x = Check.ship(SHIP + "crews 2;");
        x.order(0, 0, 0, 0);
        x.order(0, 2, 0, 0);
        x.order(0, 3, 0, 1);
        x.order(1, 3, 0, 1);
        x.order(2, 3, 0, 1);
        x.order(2, 4, 1, 1);
        x.go(1);
        Check.due("SHUT under way", 1, x.given(0, 4));
        Check.due("SAIL under way", 1, x.given(1, 4));
        Check.due("no crew", 3, x.given(2, 4));
        Check.due("not begun", -4, x.given(2, 5));
        x.go(1);
        Check.due("no crew", 3, x.given(3, 4));
        x.go(1);
        Check.due("a crew is free in the minute in which SHUT ends", 1, x.given(4, 4));
        Check.due("but one", 3, x.given(5, 4));
        Check.due("SHUT is done", 2, x.given(0, 4));
        Check.due("SAIL ends at 3", 3, x.given(1, 5));
        Check.due("now(6)", 2, x.now(6));
        Check.due("now(7)", 3, x.now(7));
    }

    private static void doors() {
        WhichHold x = Check.ship(SHIP + "crews 3;");
        x.order(0, 1, 0, 0);
        x.order(0, 0, 1, 0);
        x.order(0, 0, 0, 0);
        x.order(0, 0, 0, 0);
        x.order(1, 1, 0, 0);
        x.order(0, 1, 1, 0);
        x.order(2, 1, 0, 0);
        x.go(1);
        Check.due("OPEN of an open one", 3, x.given(0, 4));
        Check.due("SHUT of a shut one", 3, x.given(1, 4));
        Check.due("SHUT", 1, x.given(2, 4));
        Check.due("SHUT of one under way", 3, x.given(3, 4));
        Check.due("door(0, 6)", 1, x.door(0, 6));
        Check.due("door(0, 5)", 1, x.door(0, 5));
        Check.due("OPEN of the other", 1, x.given(5, 4));
        Check.due("it ends", 4, x.given(5, 5));
        x.go(1);
        Check.due("OPEN while SHUT is under way", 3, x.given(4, 4));
        x.go(1);
        Check.due("OPEN as soon as it is shut", 1, x.given(6, 4));
        Check.due("shut now", 0, x.door(0, 5));
        x.go(2);
        Check.due("open again", 1, x.door(0, 5));
        Check.due("the other is open", 1, x.door(1, 5));
        Check.due("nothing under way", 0, x.door(0, 6));
    }

    private static void sails() {
        WhichHold x = Check.ship(SHIP + "crews 3;");
        x.order(0, 2, 0, 0);
        x.order(1, 2, 0, 0);
        x.order(4, 2, 0, 0);
        x.go(2);
        Check.due("one under way", 3, x.given(1, 4));
        Check.due("none over it yet", 0, x.hole(0, 3));
        x.go(2);
        Check.due("over it", 1, x.hole(0, 3));
        x.go(1);
        Check.due("one is over it", 3, x.given(2, 4));
    }

    private static void sameMinute() {
        WhichHold x = Check.ship(SHIP + "crews 3;");
        x.order(1, 4, 0, 1);
        x.order(1, 4, 0, 0);
        x.order(1, 3, 0, 1);
        x.go(3);
        Check.due("the later number is the last word", 0, x.hold(0, 5));
        WhichHold y = Check.ship(SHIP + "crews 1;");
        y.order(2, 4, 0, 1);
        y.order(1, 4, 1, 1);
        y.order(2, 4, 2, 1);
        y.go(4);
        Check.due("told first, begun later", 2, y.given(0, 4));
        Check.due("its minute is earlier", 2, y.given(1, 4));
        Check.due("no crew", 3, y.given(2, 4));
    }

    private static void recalled() {
        WhichHold x = Check.ship(SHIP);
        Check.due("nothing to recall", 0, x.recall());
        x.order(0, 0, 0, 0);
        x.order(5, 2, 0, 0);
        x.order(6, 3, 0, 1);
        x.go(1);
        Check.due("recall()", 2, x.recall());
        Check.due("under way goes on", 1, x.given(0, 4));
        Check.due("failed", 3, x.given(1, 4));
        Check.due("not begun", -4, x.given(1, 5));
        Check.due("now(7)", 2, x.now(7));
        Check.due("recall() again", 0, x.recall());
        WhichHold y = Check.ship(SHIP);
        y.order(0, 0, 0, 0);
        Check.due("recall() of the first", 1, y.recall());
        Check.due("failed", 3, y.given(0, 4));
        x.go(20);
        Check.due("no sail came", 0, x.hole(0, 3));
        Check.due("shut", 0, x.door(0, 5));
    }
}
