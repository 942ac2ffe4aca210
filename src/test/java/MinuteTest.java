/** Promises 12 to 15: go, now, keep, back; and how A MINUTE goes. */
public final class MinuteTest {
    public static void main(String[] args) {
        going();
        holesOneByOne();
        valves();
        doorsWithSills();
        doorsThatSwing();
        pumps();
        sunk();
        balance();
        images();
        imagesHoldOrders();
        Check.finish("MinuteTest");
    }

    private static void going() {
        WhichHold x = new WhichHold();
        Check.due("go(0)", -1, x.go(0));
        Check.due("go(121)", -1, x.go(121));
        Check.due("go(-1)", -1, x.go(-1));
        Check.due("go(120) of no ship", 0, x.go(120));
        Check.due("now(0)", 120, x.now(0));
        Check.due("now(-1)", -1, x.now(-1));
        Check.due("now(8)", -1, x.now(8));
    }

    private static void holesOneByOne() {
        WhichHold x = Check.ship("hold 24 1 9 0;hole 0 6 1;hole 0 12 1;");
        // 6 come; HEIGHT is 3 then, and 12 times 9 by 12 are 9
        Check.due("go(1)", 15, x.go(1));
        // HEIGHT 7: 6 * 5 / 12 up 3; HEIGHT 9: 12 * 3 / 12
        Check.due("go(1)", 21, x.go(1));
        Check.due("go(9)", 24, x.go(9));
    }

    private static void valves() {
        WhichHold x = Check.ship("hold 12 1 9 0;hold 7 1 9 0;crews 2;");
        x.order(0, 4, 0, 1);
        x.order(0, 4, 1, 1);
        Check.due("under way", 0, x.go(1));
        Check.due("not yet open", 0, x.hold(0, 5));
        Check.due("5 tons each", 10, x.go(1));
        Check.due("open", 1, x.hold(0, 5));
        Check.due("as far as there is room", 17, x.go(1));
        Check.due("hold(1, 3)", 7, x.hold(1, 3));
        x.order(3, 4, 0, 0);
        x.order(3, 4, 1, 0);
        x.go(1);
        x.put(0, 0);
        x.go(1);
        Check.due("shut before the water", 0, x.hold(0, 3));
        Check.due("valve", 0, x.hold(0, 5));
    }

    private static void doorsWithSills() {
        WhichHold x = Check.ship("hold 12 1 9 12;hold 12 1 9 0;door 1 0 8 2 1;");
        x.go(1);
        Check.due("RATE tons", 10, x.hold(0, 3));
        x.go(1);
        Check.due("down to the sill", 8, x.hold(0, 3));
        x.go(1);
        Check.due("HEIGHT 8 is not above the sill 8", 8, x.hold(0, 3));
        WhichHold y = Check.ship("hold 12 1 9 12;hold 12 1 9 0;door 0 1 12 9 1;");
        y.go(5);
        Check.due("no HEIGHT is above 12", 12, y.hold(0, 3));
        WhichHold z = Check.ship("hold 12 1 9 12;hold 12 1 9 0;door 0 1 0 9 1 shut;");
        z.go(5);
        Check.due("through a shut door nothing goes", 12, z.hold(0, 3));
        WhichHold a = Check.ship("hold 99 1 9 50;hold 12 1 9 0;hold 12 1 9 0;door 0 1 0 9 1;door 1 2 0 4 1;");
        a.go(1);
        // 50 of 99 to 45: HEIGHTS 5 : 5; then 5 : 0, 4 : 1, 3 : 2, 2 : 3, 3 : 2
        Check.due("doors one by one: 0", 45, a.hold(0, 3));
        Check.due("doors one by one: 1", 3, a.hold(1, 3));
        Check.due("doors one by one: 2", 2, a.hold(2, 3));
    }

    /** A ton may go back the way it came: HEIGHTS are looked at ton by ton. */
    private static void doorsThatSwing() {
        WhichHold x = Check.ship("hold 1 1 9 1;hold 2 1 9 0;door 0 1 0 3 1;");
        x.go(1);
        // 12 : 0, then 0 : 6, then 12 : 0 again, and once more
        Check.due("three tons of one", 0, x.hold(0, 3));
        x.go(1);
        Check.due("three more", 1, x.hold(0, 3));
    }

    private static void pumps() {
        WhichHold x = Check.ship("hold 24 1 9 24;hold 24 1 9 5;pump 9 0;pump 4 1;pump 3 1;crews 3;");
        Check.due("go(1)", 15, x.go(1));
        Check.due("as far as there is some", 0, x.hold(1, 3));
        x.order(1, 3, 0, 1);
        x.order(1, 3, 1, 0);
        x.order(1, 3, 2, -4);
        x.go(1);
        Check.due("still at hold 0", 6, x.hold(0, 3));
        Check.due("pump(0, 1)", 0, x.pump(0, 1));
        x.go(1);
        Check.due("the other one is at hold 0", 2, x.hold(0, 3));
        Check.due("pump(0, 1)", 1, x.pump(0, 1));
        Check.due("pump(1, 1)", 0, x.pump(1, 1));
        Check.due("pump(2, 1)", -4, x.pump(2, 1));
    }

    private static void sunk() {
        WhichHold x = Check.ship("hold 50 1 9 0;hole 0 12 1;sinks 20;hold 50 1 9 0;door 0 1 0 1 2;");
        x.order(0, 0, 0, 0);
        x.order(5, 1, 0, 0);
        Check.due("go(1)", 12, x.go(1));
        // HEIGHT 2: 10 come
        Check.due("go(1)", 22, x.go(1));
        Check.due("why", 1, x.now(4));
        Check.due("seen", 2, x.now(5));
        Check.due("go(10)", 22, x.go(10));
        Check.due("the minute goes on", 12, x.now(0));
        Check.due("seen stays", 2, x.now(5));
        Check.due("the order stays under way", 1, x.given(0, 4));
        Check.due("now(6)", 1, x.now(6));
        Check.due("the other stays to come", 0, x.given(1, 4));
        Check.due("now(7)", 0, x.now(7));
        Check.due("the door stays open", 1, x.door(0, 5));
    }

    private static void balance() {
        WhichHold x = Check.ship("hold 50 0 2 7;hold 50 2 18 4;hold 50 1 0 6;");
        Check.due("WATER in all", 17, x.now(1));
        Check.due("LIST", 1, x.now(2));
        // 7 * -7 + 4 * 9 + 6 * -9 = -67
        Check.due("TRIM", 6, x.now(3));
    }

    private static void images() {
        WhichHold x = Check.ship("hold 50 1 9 0;hole 0 12 1;");
        Check.due("back(0)", -2, x.back(0));
        Check.due("back(2)", -1, x.back(2));
        Check.due("back(-1)", -1, x.back(-1));
        Check.due("keep(2)", -1, x.keep(2));
        Check.due("keep(-1)", -1, x.keep(-1));
        Check.due("keep(0)", 0, x.keep(0));
        x.go(1);
        Check.due("keep(1)", 0, x.keep(1));
        x.go(1);
        Check.due("back(0)", 0, x.back(0));
        Check.due("water then", 0, x.now(1));
        Check.due("back(1)", 1, x.back(1));
        Check.due("water then", 12, x.now(1));
        Check.due("keep(0) again", 1, x.keep(0));
        x.go(5);
        Check.due("back(0)", 1, x.back(0));
        Check.due("count(5)", 2, x.count(5));
        x.put(0, 3);
        Check.due("back(0) twice", 1, x.back(0));
        Check.due("water then", 12, x.now(1));
    }

    private static void imagesHoldOrders() {
        WhichHold x = Check.ship("hold 50 1 9 0;hold 50 1 9 0;door 0 1 0 1 2;hole 0 6 2;pump 3 0;crews 3;");
        x.order(0, 0, 0, 0);
        x.order(0, 2, 0, 0);
        x.order(0, 3, 0, 1);
        x.order(0, 4, 0, 1);
        x.go(1);
        x.keep(0);
        Check.due("under way", 3, x.now(6));
        Check.due("failed", 1, x.now(7));
        x.order(1, 4, 1, 1);
        x.go(3);
        x.sound(5);
        x.sheet(0, 0, 3);
        x.feed(0);
        Check.due("shut", 0, x.door(0, 5));
        Check.due("back(0)", 1, x.back(0));
        Check.due("open", 1, x.door(0, 5));
        Check.due("no sail", 0, x.hole(0, 3));
        Check.due("pump at 0", 0, x.pump(0, 1));
        Check.due("under way", 3, x.now(6));
        Check.due("orders", 4, x.count(4));
        int[][] orders = {{0, 0, 0, 0, 1, 2}, {0, 2, 0, 0, 1, 2}, {0, 3, 0, 1, 1, 1}, {0, 4, 0, 1, 3, -4}};
        for (int k = 0; k < 4; k++) {
            for (int what = 0; what < 6; what++) {
                Check.due("given(" + k + ", " + what + ")", orders[k][what], x.given(k, what));
            }
        }
        Check.due("sounded stays", 1, x.count(6));
        Check.due("sheet stays", 3, x.count(8));
        Check.due("tape stays", 8, x.count(7));
        WhichHold y = Check.ship("hold 9 1 9 8;sinks 9;");
        y.keep(0);
        y.put(0, 9);
        Check.due("sunk", 1, y.now(4));
        y.keep(1);
        Check.due("back to when she floated", 0, y.back(0));
        Check.due("she floats", 0, y.now(4));
        Check.due("not seen", -4, y.now(5));
        y.back(1);
        Check.due("sunk again", 1, y.now(4));
    }
}
