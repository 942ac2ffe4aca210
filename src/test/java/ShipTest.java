/** Promises 6 to 11: hold, door, hole, pump, rule, put. */
public final class ShipTest {
    private static final int FAR = Integer.MAX_VALUE, LOW = Integer.MIN_VALUE;

    public static void main(String[] args) {
        rows();
        wrongNumbers();
        heights();
        holes();
        putting();
        reasons();
        Check.finish("ShipTest");
    }

    private static WhichHold told() {
        return Check.ship("hold 10 0 3 4;hold 20 2 18 5;door 1 0 2 3 4;door 0 1 5 6 7 shut;hole 1 9 11;pump 8 1;"
            + "crews 2;sinks 500;lists 50;trims 70;safe 1;");
    }

    private static void rows() {
        WhichHold x = told();
        int[][] holds = {{10, 0, 3, 4, 4, 0}, {20, 2, 18, 5, 3, 0}};
        int[][] doors = {{1, 0, 2, 3, 4, 1, 0}, {0, 1, 5, 6, 7, 0, 0}};
        int[] hole = {1, 9, 11, 0, 7};
        int[] pump = {8, 1};
        int[] rules = {2, 500, 50, 70, 1};
        for (int h = 0; h < 2; h++) {
            for (int what = 0; what < 6; what++) {
                Check.due("hold(" + h + ", " + what + ")", holds[h][what], x.hold(h, what));
            }
            for (int what = 0; what < 7; what++) {
                Check.due("door(" + h + ", " + what + ")", doors[h][what], x.door(h, what));
            }
        }
        for (int what = 0; what < 5; what++) {
            Check.due("hole(0, " + what + ")", hole[what], x.hole(0, what));
            Check.due("rule(" + what + ")", rules[what], x.rule(what));
        }
        for (int what = 0; what < 2; what++) {
            Check.due("pump(0, " + what + ")", pump[what], x.pump(0, what));
        }
    }

    private static void wrongNumbers() {
        WhichHold x = told();
        for (int wrong : new int[] {-1, 2, FAR, LOW, -4}) {
            Check.due("hold", -1, x.hold(wrong, 0));
            Check.due("door", -1, x.door(wrong, 0));
            Check.due("put", -1, x.put(wrong, 0));
        }
        for (int wrong : new int[] {-1, 1, FAR, LOW}) {
            Check.due("hole", -1, x.hole(wrong, 0));
            Check.due("pump", -1, x.pump(wrong, 0));
        }
        for (int wrong : new int[] {-1, 7, FAR, LOW}) {
            Check.due("hold what", -1, x.hold(0, wrong));
            Check.due("door what", -1, x.door(0, wrong));
            Check.due("hole what", -1, x.hole(0, wrong));
            Check.due("pump what", -1, x.pump(0, wrong));
            Check.due("rule", -1, x.rule(wrong));
        }
        Check.due("hold(0, 6)", -1, x.hold(0, 6));
        Check.due("hole(0, 5)", -1, x.hole(0, 5));
        Check.due("pump(0, 2)", -1, x.pump(0, 2));
        Check.due("rule(5)", -1, x.rule(5));
    }

    private static void heights() {
        WhichHold x = Check.ship("hold 7 1 9 0;sinks 800;");
        int[] due = {0, 1, 3, 5, 6, 8, 10, 12};
        for (int w = 0; w <= 7; w++) {
            x.put(0, w);
            Check.due("height of " + w + " in 7", due[w], x.hold(0, 4));
        }
    }

    private static void holes() {
        WhichHold x = Check.ship("hold 12 1 9 0;hole 0 20 1;hole 0 7 1;");
        Check.due("20 into an empty one of 12", 12, x.hole(0, 4));
        Check.due("7 into an empty one", 7, x.hole(1, 4));
        x.put(0, 5);
        Check.due("7 times 7 by 12, up", 5, x.hole(1, 4));
        Check.due("20 times 7 by 12, up: room for 7", 7, x.hole(0, 4));
        x.put(0, 11);
        Check.due("room for one ton", 1, x.hole(0, 4));
        x.put(0, 12);
        Check.due("none comes into a full one", 0, x.hole(0, 4));
        x.put(0, 6);
        x.order(0, 2, 1, 0);
        x.go(1);
        Check.due("the sail is not yet over it", 0, x.hole(1, 3));
        x.put(0, 0);
        x.go(1);
        Check.due("a sail is over it", 1, x.hole(1, 3));
        x.put(0, 0);
        Check.due("half of 7, up", 4, x.hole(1, 4));
    }

    private static void putting() {
        WhichHold x = Check.ship("hold 10 2 9 3;lists 4;");
        Check.due("put(0, 11)", -1, x.put(0, 11));
        Check.due("put(0, -1)", -1, x.put(0, -1));
        Check.due("put(0, 9)", 3, x.put(0, 9));
        Check.due("LIST 4 is not above lists", 0, x.now(4));
        x.go(2);
        Check.due("put(0, 10)", 9, x.put(0, 10));
        Check.due("LIST 5 is above", 2, x.now(4));
        Check.due("seen at once", 2, x.now(5));
        Check.due("put of who has sunk", -2, x.put(0, 0));
        Check.due("BAD ahead of STATE", -1, x.put(0, 11));
        Check.due("water is as it was", 10, x.hold(0, 3));
    }

    private static void reasons() {
        Check.due("all water", 1, Check.ship("hold 99 2 18 50;sinks 50;lists 1;trims 1;").now(4));
        Check.due("a ton less: list", 2, Check.ship("hold 99 2 18 49;sinks 50;lists 1;trims 1;").now(4));
        Check.due("trim", 3, Check.ship("hold 99 1 18 49;sinks 50;lists 1;trims 1;").now(4));
        Check.due("trim 44 of 44", 0, Check.ship("hold 99 1 18 49;sinks 50;trims 44;").now(4));
        Check.due("trim 44 of 43", 3, Check.ship("hold 99 1 18 49;sinks 50;trims 43;").now(4));
        Check.due("trim ahead of the middle", 3, Check.ship("hold 99 1 0 49;sinks 50;trims 43;").now(4));
        Check.due("left and right", 0, Check.ship("hold 99 0 9 49;hold 99 2 9 46;lists 1;").now(4));
        Check.due("left and right", 2, Check.ship("hold 99 0 9 49;hold 99 2 9 45;lists 1;").now(4));
    }
}
