import java.util.Arrays;

/**
 * What is refused changes nothing: two ships with the same past, one of which was asked for something, are asked
 * the same things then, those that change her too. No ship is asked more than 512 times.
 */
final class Edge {
    /** A ship with some past, another one each time. */
    interface Past {
        WhichHold ship();
    }

    interface Call {
        int on(WhichHold x);
    }

    static final int FAR = Integer.MAX_VALUE, LOW = Integer.MIN_VALUE;
    static final int BAD = -1, STATE = -2, FULL = -3, NONE = -4;

    /** Three HOLDS, two DOORS (the second one shut), two HOLES, two PUMPS. */
    static final String SHIP = "hold 24 0 3 5;hold 30 1 9 0;hold 24 2 15 2;door 0 1 1 2 2;door 1 2 0 3 1 shut;"
        + "hole 0 3 2;hole 2 1 3;pump 2 0;pump 1 2;crews 2;safe 1;";

    private static final int PROBES = 12;
    private static final int[] answers = new int[520];
    private static int size;
    private static boolean faultCounts = true;

    private Edge() { }

    /** A ship with ORDERS of each kind and state, two IMAGES, SOUNDED, SHEETS, bytes on THE TAPE, a FAULT of both kinds. */
    static WhichHold busy() {
        WhichHold x = Check.ship(SHIP);
        Check.tell(x, ".");
        x.order(1, 0, 0, 7);
        x.order(1, 4, 1, 1);
        x.keep(0);
        x.go(2);
        x.order(2, 2, 0, 0);
        x.order(2, 3, 1, -4);
        x.keep(1);
        x.go(1);
        x.order(9, 1, 1, 5);
        x.order(40, 2, 1, 3);
        x.sound(5);
        x.sound(8);
        x.sheet(0, 0, 9);
        row(x, 0, 0, 3, 0, 1, -7, 5, 4, 3, 2, 1);
        x.sheet(1, 1, 40);
        row(x, 1, 0, 4, 2, 0, 300);
        x.sheet(2, 2, 4);
        row(x, 2, 0, 5, 1, 0, 70000);
        x.read(3, 0, 0, 1);
        x.feed(Check.packed("hold 7 1"));
        return x;
    }

    /** A ship that has SUNK in minute 2 with an ORDER under way, one to come, one IMAGE from before, and what busy() has. */
    static WhichHold sunk() {
        WhichHold x = Check.ship("hold 50 1 9 0;hold 50 1 9 3;door 0 1 9 1 5;hole 0 12 1;pump 1 1;sinks 23;");
        x.keep(0);
        x.order(0, 0, 0, 0);
        x.order(7, 4, 1, 1);
        x.go(3);
        x.sound(5);
        x.sound(8);
        x.sheet(0, 0, 9);
        row(x, 0, 0, 3, 0, 0, -7, 5, 4, 3, 2, 1);
        x.sheet(1, 1, 5);
        row(x, 1, 0, 4, 2, 0, 300);
        x.sheet(2, 2, 4);
        row(x, 2, 0, 5, 4, 1, 1);
        x.read(0, 1, 0, 1);
        x.feed(Check.packed("hold 7 1"));
        return x;
    }

    static WhichHold empty() {
        return new WhichHold();
    }

    static void row(WhichHold x, int k, int first, int... cells) {
        for (int j = 0; j < cells.length; j++) {
            x.lay(k, first + j, cells[j]);
        }
    }

    /** The call is answered so, and the ship is as if it had not been made. */
    static void refused(String name, Past past, int due, Call call) {
        Check.due(name, due, call.on(past.ship()));
        changesNothing(name, past, call);
    }

    static void changesNothing(String name, Past past, Call call) {
        alike(name, past, () -> {
            WhichHold x = past.ship();
            call.on(x);
            return x;
        });
    }

    /** Ships of two pasts answer alike, whatever they are asked. */
    static void alike(String name, Past one, Past other) {
        for (int probe = 0; probe < PROBES; probe++) {
            int[] due = probed(one.ship(), probe);
            int[] got = probed(other.ship(), probe);
            int at = Arrays.mismatch(due, got);
            Check.due(name + ": the first answer that tells the two apart (probe " + probe + ")", -1, at);
        }
    }

    /** As alike(), but for the FAULT of the latest text(). */
    static void alikeButFault(String name, Past one, Past other) {
        faultCounts = false;
        alike(name, one, other);
        faultCounts = true;
    }

    private static int[] probed(WhichHold x, int probe) {
        size = 0;
        switch (probe) {
            case 0: look(x); break;
            case 1: note(x.back(0)); look(x); break;
            case 2: note(x.back(1)); look(x); break;
            case 3: typeOn(x); look(x); break;
            case 4: sounded(x); break;
            case 5: ahead(x); break;
            case 6: onward(x); break;
            case 7: orders(x); break;
            default: sheet(x, probe - 8); break;
        }
        return Arrays.copyOf(answers, size);
    }

    private static void note(int answer) {
        answers[size++] = answer;
    }

    /** All that can be seen without changing anything, but for runs. */
    private static void look(WhichHold x) {
        for (int what = 0; what < 9; what++) {
            note(x.count(what));
            note(x.now(what));
        }
        for (int what = 0; what < 5; what++) {
            note(x.rule(what));
        }
        note(faultCounts ? x.fault() : 0);
        note(x.torn());
        for (int i = 0; i < x.count(0); i++) {
            for (int what = 0; what < 6; what++) {
                note(x.hold(i, what));
            }
        }
        for (int i = 0; i < x.count(1); i++) {
            for (int what = 0; what < 7; what++) {
                note(x.door(i, what));
            }
        }
        for (int i = 0; i < x.count(2); i++) {
            for (int what = 0; what < 5; what++) {
                note(x.hole(i, what));
            }
        }
        for (int i = 0; i < x.count(3); i++) {
            note(x.pump(i, 0));
            note(x.pump(i, 1));
        }
        for (int i = 0; i < x.count(4); i++) {
            for (int what = 0; what < 6; what++) {
                note(x.given(i, what));
            }
        }
    }

    /** What is on THE TAPE shows itself by the text that it begins. */
    private static void typeOn(WhichHold x) {
        note(x.feed(Check.packed(" 9 3;   ")));
        note(x.text());
    }

    private static void sounded(WhichHold x) {
        for (int h = 0; h < 8; h++) {
            note(x.rates(h));
        }
        for (int i = 0; i < 9; i++) {
            note(x.sound(0));
        }
        note(x.wipe());
        note(x.count(6));
    }

    private static void ahead(WhichHold x) {
        for (int what = 0; what < 7; what++) {
            note(x.run(1, what));
            note(x.run(60, what));
        }
        for (int h = 0; h < 8; h++) {
            note(x.water(30, h));
        }
        for (int k = 0; k < 3; k++) {
            for (int what : new int[] {0, 1, 10, 11}) {
                note(x.best(k, 20, what));
            }
        }
        for (int i = 0; i < 8; i++) {
            note(x.latest(i, 30));
            note(x.beside(i, 0));
            note(x.dry(i, 1));
            note(x.together(i));
            note(x.men(i));
        }
        note(x.free(120));
        note(x.helps(60));
        note(x.most(1));
        note(x.upright(0));
    }

    private static void onward(WhichHold x) {
        for (int i = 0; i < 12; i++) {
            note(x.go(i < 10 ? 1 : 40));
            for (int h = 0; h < 8; h++) {
                note(x.hold(h, 3));
            }
        }
        look(x);
    }

    private static void orders(WhichHold x) {
        for (int i = 0; i < 13; i++) {
            note(x.order(999, 4, 0, 0));
        }
        note(x.recall());
        look(x);
    }

    /** CELLS show themselves as the where of ORDERS for a DOOR, into which they are made one by one. */
    private static void sheet(WhichHold x, int k) {
        int lane = 0;
        for (int asked = 0; asked < 3; asked++) {
            note(x.read(k, asked, -1, 1));
            note(x.torn());
            lane = x.torn() == 2 ? asked : lane;
        }
        note(x.read(k, lane, 0, 1));
        for (int what = 0; what < 4; what++) {
            note(x.given(x.count(4) - 1, what));
        }
        for (int j = 4; j < 12; j++) {
            x.end(0);
            note(Check.tell(x, "hold 9 1 9 0;hold 9 1 9 0;door 0 1 0 1 1;"));
            note(x.lay(k, j - 3, 0) + x.lay(k, j - 2, 0) + x.lay(k, j - 1, 0));
            note(x.read(k, lane, j - 3, 1));
            note(x.given(0, 3));
        }
        for (int i = 0; i < 42; i++) {
            note(x.lay(k, i, 0));
        }
    }
}
