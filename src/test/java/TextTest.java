/** Promises 1 to 5: a new object, feed, end, text, fault. */
public final class TextTest {
    private static final String HOLD = "hold 9 1 9 0;";

    public static void main(String[] args) {
        newObject();
        feedAndEnd();
        blanks();
        defaults();
        noToken();
        misplaced();
        bounds();
        twice();
        tooMany();
        firstFaultMet();
        whatStays();
        Check.finish("TextTest");
    }

    private static void newObject() {
        WhichHold x = new WhichHold();
        for (int what = 0; what < 8; what++) {
            Check.due("new: count(" + what + ")", 0, x.count(what));
        }
        Check.due("new: count(8)", WhichHold.NONE, x.count(8));
        Check.due("new: fault()", 0, x.fault());
        Check.due("new: torn()", 0, x.torn());
        Check.due("new: now(0)", 0, x.now(0));
        Check.due("new: now(4)", 0, x.now(4));
        Check.due("new: now(5)", WhichHold.NONE, x.now(5));
        int[] rules = {1, 400, 40, 60, 0};
        for (int what = 0; what < 5; what++) {
            Check.due("new: rule(" + what + ")", rules[what], x.rule(what));
        }
        for (int k = 0; k < 4; k++) {
            Check.due("new: lay(" + k + ", 0, 0)", -11, x.lay(k, 0, 0));
        }
        Check.due("new: back(0)", WhichHold.STATE, x.back(0));
    }

    private static void feedAndEnd() {
        WhichHold x = new WhichHold();
        Check.due("end(0) of nothing", 0, x.end(0));
        Check.due("end(1) of nothing", -1, x.end(1));
        for (int i = 1; i <= 50; i++) {
            Check.due("feed " + i, 8 * i, x.feed(Check.packed("        ")));
        }
        Check.due("feed beyond 400", -3, x.feed(0));
        Check.due("count(7)", 400, x.count(7));
        Check.due("end(-1)", -1, x.end(-1));
        Check.due("end(401)", -1, x.end(401));
        Check.due("end(393)", 400, x.end(393));
        Check.due("feed at 393", -3, x.feed(0));
        Check.due("end(392)", 393, x.end(392));
        Check.due("feed at 392", 400, x.feed(0));
        Check.due("end(392)", 400, x.end(392));
        Check.due("a tape of blanks", 0, x.text());
        Check.due("tape is empty", 0, x.count(7));
        // the highest byte is first: "crews 2;" read from its first sign on
        x.feed(0x637265777320323BL);
        Check.due("bytes in their order", 1, x.text());
        Check.due("rule(0)", 2, x.rule(0));
    }

    private static void taken(String text, int lines) {
        WhichHold x = new WhichHold();
        Check.due(text, lines, Check.tell(x, text));
        Check.due("fault() of " + text, 0, x.fault());
        Check.due("tape behind " + text, 0, x.count(7));
    }

    private static void refused(String text, int fault, int place) {
        WhichHold x = Check.ship(HOLD + "crews 3;");
        Check.due(text, -10 - place, Check.tell(x, text));
        Check.due("fault() of " + text, fault, x.fault());
        Check.due("tape behind " + text, 0, x.count(7));
        Check.due("what was told stays behind " + text, 3, x.rule(0));
        Check.due("holds stay behind " + text, 1, x.count(0));
    }

    private static void blanks() {
        taken("", 0);
        taken("   ", 0);
        taken("hold9 1 9 0;", 1);
        taken("  hold  9   1 9 0  ;  ", 1);
        taken("hold 9 1 9 0;hold 009 2 018 009;door 0 1 0 9 9shut;door0 1 0 9 9 shut ;", 4);
        taken(HOLD + HOLD + "door 1 0 12 1 1;safe1;crews3;", 5);
        refused("holdd 9 1 9 0;", 2, 0);
        refused("hold 9 1 90;", 3, 9);
        refused(HOLD + HOLD + "door 0 1 0 9 9shutshut;", 2, 40);
    }

    private static void defaults() {
        WhichHold x = Check.ship(HOLD + HOLD + "door 0 1 3 2 4;door 1 0 4 5 6 shut;hole 1 7 8;pump 4 1;crews 2;sinks 99;lists 7;trims 8;safe 1;");
        Check.due("lines", 1, Check.tell(x, "hold 5 0 1 2;"));
        int[] rules = {1, 400, 40, 60, 0};
        for (int what = 0; what < 5; what++) {
            Check.due("as at first: rule(" + what + ")", rules[what], x.rule(what));
        }
        Check.due("doors are gone", 0, x.count(1));
        Check.due("holes are gone", 0, x.count(2));
        Check.due("pumps are gone", 0, x.count(3));
        Check.due("hold(0, 3)", 2, x.hold(0, 3));
        Check.due("hold(1, 0)", -1, x.hold(1, 0));
        Check.due("an empty text tells all", 0, x.text());
        Check.due("holds are gone", 0, x.count(0));
    }

    private static void noToken() {
        refused(".", 1, 0);
        refused("  ,", 1, 2);
        refused("Hold 9 1 9 0;", 1, 0);
        refused("hold 9 1 9 0.", 1, 12);
        refused("hold 1000 1 9 0;", 1, 5);
        refused("hold 0001 1 9 0;", 1, 5);
        refused("1234", 1, 0);
        refused(HOLD + "\n", 1, 13);
        refused(HOLD + "\0", 1, 13);
        refused(HOLD + "\u00e9", 1, 13);
        refused("hold 9 1 9 -1;", 1, 11);
        refused("hold{", 1, 4);
        refused("hold`", 1, 4);
        refused("hold 9 1 9 0:", 1, 12);
        refused("hold 9 1 9 /;", 1, 11);
    }

    private static void misplaced() {
        refused("flood 1;", 2, 0);
        refused("shut;", 2, 0);
        refused("a", 2, 0);
        refused("  z", 2, 2);
        refused("told 9 1 9 0;", 2, 0);
        refused("hole", 2, 4);
        refused(";", 2, 0);
        refused("7", 2, 0);
        refused(HOLD + ";", 2, 13);
        refused("hold", 2, 4);
        refused("hold   ", 2, 7);
        refused("hold 9 1 9", 2, 10);
        refused("hold 9 1 9 0", 2, 12);
        refused("hold 9 1 9;", 2, 10);
        refused("hold 9 1 9 0 0;", 2, 13);
        refused("hold 9 1 shut 0;", 2, 9);
        refused(HOLD + HOLD + "door 0 1 1 1 1 open;", 2, 41);
        refused(HOLD + HOLD + "door 0 1 1 1 1 shut", 2, 45);
        refused(HOLD + HOLD + "door 0 1 1 1 1 shut 1;", 2, 46);
        refused(HOLD + HOLD + "door 0 1 1 1 1", 2, 40);
        refused(HOLD + "hole 0 1 1 1;", 2, 24);
        refused(HOLD + "pump 1 0 1;", 2, 22);
        refused("crews 1 1;", 2, 8);
        refused("crews;", 2, 5);
    }

    private static void bounds() {
        taken("hold 1 0 0 0;hold 99 2 18 99;", 2);
        refused("hold 0 0 0 0;", 3, 5);
        refused("hold 100 0 0 0;", 3, 5);
        refused("hold 9 3 0 0;", 3, 7);
        refused("hold 9 0 19 0;", 3, 9);
        refused("hold 9 0 0 10;", 3, 11);
        taken(HOLD + HOLD + "door 0 1 0 1 1;door 1 0 12 9 9;", 4);
        refused(HOLD + "door 1 0 0 1 1;", 3, 18);
        refused(HOLD + "door 0 1 0 1 1;" + HOLD, 3, 20);
        refused(HOLD + "door 0 0 0 1 1;", 3, 20);
        refused(HOLD + HOLD + "door 0 1 13 1 1;", 3, 35);
        refused(HOLD + HOLD + "door 0 1 0 0 1;", 3, 37);
        refused(HOLD + HOLD + "door 0 1 0 10 1;", 3, 37);
        refused(HOLD + HOLD + "door 0 1 0 1 0;", 3, 39);
        refused(HOLD + HOLD + "door 0 1 0 1 10;", 3, 39);
        taken(HOLD + "hole 0 1 1;hole 0 20 20;", 3);
        refused("hole 0 1 1;", 3, 5);
        refused(HOLD + "hole 1 1 1;", 3, 18);
        refused(HOLD + "hole 0 0 1;", 3, 20);
        refused(HOLD + "hole 0 21 1;", 3, 20);
        refused(HOLD + "hole 0 1 0;", 3, 22);
        refused(HOLD + "hole 0 1 21;", 3, 22);
        taken(HOLD + "pump 1 0;pump 9 0;", 3);
        refused(HOLD + "pump 0 0;", 3, 18);
        refused(HOLD + "pump 10 0;", 3, 18);
        refused(HOLD + "pump 1 1;", 3, 20);
        ruleBounds("crews", 1, 3);
        ruleBounds("sinks", 1, 800);
        ruleBounds("lists", 1, 99);
        ruleBounds("trims", 1, 99);
        refused("safe 0;", 3, 5);
        refused(HOLD + "safe 1;", 3, 18);
        taken(HOLD + HOLD + "safe 1;", 3);
    }

    private static void ruleBounds(String name, int least, int greatest) {
        taken(name + " " + least + ";", 1);
        taken(name + " " + greatest + ";", 1);
        refused(name + " " + (least - 1) + ";", 3, name.length() + 1);
        refused(name + " " + (greatest + 1) + ";", 3, name.length() + 1);
    }

    private static void twice() {
        for (String name : new String[] {"crews", "sinks", "lists", "trims"}) {
            refused(HOLD + name + " 1; " + name + " 2;", 4, 22);
        }
        refused(HOLD + "safe 0;safe 0;", 4, 20);
        refused("crews 1;crews", 4, 8);
        taken("crews 1;sinks 1;lists 1;trims 1;" + HOLD + "safe 0;", 6);
        WhichHold x = Check.ship("crews 2;");
        Check.due("once again in another text", 1, Check.tell(x, "crews 3;"));
        Check.due("rule(0)", 3, x.rule(0));
    }

    private static void tooMany() {
        String eight = HOLD.repeat(8);
        taken(eight, 8);
        refused(eight + "hold", 5, 104);
        String door = "door 0 1 0 1 1;";
        taken(HOLD + HOLD + door.repeat(10), 12);
        refused(HOLD + HOLD + door.repeat(10) + "door;", 5, 176);
        String hole = "hole 0 1 1;";
        taken(HOLD + hole.repeat(4), 5);
        refused(HOLD + hole.repeat(4) + "hole 9", 5, 57);
        String pump = "pump 1 0;";
        taken(HOLD + pump.repeat(3), 4);
        refused(HOLD + pump.repeat(3) + "  pump", 5, 42);
    }

    /** A token is read when the one before has been taken. */
    private static void firstFaultMet() {
        refused("hold 0 .", 3, 5);
        refused("hold 9 .", 1, 7);
        refused("flood .", 2, 0);
        refused("hold 9 1 9 10.", 3, 11);
        refused(HOLD + "door 0 0 .", 3, 20);
        refused(HOLD + HOLD + "door 0 1 1 1 1 open.", 2, 41);
        refused(HOLD + HOLD + "door 0 1 1 1 1 shut.", 1, 45);
        refused("crews 9 crews", 3, 6);
    }

    private static void whatStays() {
        WhichHold x = Check.ship(HOLD + HOLD + "door 0 1 0 1 1;");
        x.sound(4);
        x.sheet(0, 1, 7);
        x.order(5, 0, 0, 0);
        x.put(0, 4);
        x.go(3);
        x.keep(0);
        x.keep(1);
        Check.due("a fault", -10, Check.tell(x, "."));
        Check.due("minute stays", 3, x.now(0));
        Check.due("orders stay", 1, x.count(4));
        Check.due("images stay", 2, x.count(5));
        Check.due("back", 3, x.back(1));
        Check.due("fault() is still of the latest text", 1, x.fault());
        Check.due("a text", 1, Check.tell(x, HOLD));
        Check.due("fault() is 0 again", 0, x.fault());
        Check.due("minute is 0", 0, x.now(0));
        Check.due("orders are gone", 0, x.count(4));
        Check.due("images are gone", 0, x.count(5));
        Check.due("back", WhichHold.STATE, x.back(1));
        Check.due("sounded stays", 1, x.count(6));
        Check.due("sheets stay", 7, x.count(8));
        Check.due("safe is as at first", 0, x.rule(4));
        Check.tell(x, HOLD + HOLD + "hole 1 2 1;safe 1;crews 3;");
        x.order(0, 2, 0, 0);
        x.order(0, 4, 1, 1);
        x.go(3);
        Check.tell(x, HOLD + HOLD + "hole 1 2 1;");
        Check.due("no sail", 0, x.hole(0, 3));
        Check.due("no valve is open", 0, x.hold(1, 5));
        Check.due("no water", 0, x.now(1));
        Check.due("safe is as at first", 0, x.rule(4));
        Check.due("a text by which she sinks", 3, Check.tell(x, HOLD + "sinks 8;hold 9 1 9 8;"));
        Check.due("why", 1, x.now(4));
        Check.due("when", 0, x.now(5));
    }
}
