/** Promises 25 to 30: together, beside, most, upright, men, dry. */
public final class MayGoTest {
    public static void main(String[] args) {
        wrongNumbers();
        together();
        beside();
        most();
        upright();
        men();
        dry();
        noShip();
        Check.finish("MayGoTest");
    }

    private static void wrongNumbers() {
        WhichHold x = Check.ship("hold 9 1 9 0;hold 9 1 9 0;door 0 1 0 1 1;");
        for (int wrong : new int[] {-1, 4, Integer.MAX_VALUE, Integer.MIN_VALUE}) {
            Check.due("together", -1, x.together(wrong));
            Check.due("beside h", -1, x.beside(wrong, 0));
            Check.due("beside what", -1, x.beside(0, wrong));
            Check.due("most", -1, x.most(wrong));
            Check.due("upright", -1, x.upright(wrong));
            Check.due("men", -1, x.men(wrong));
            Check.due("dry h", -1, x.dry(wrong, 0));
            Check.due("dry what", -1, x.dry(0, wrong));
        }
        Check.due("beside h 2", -1, x.beside(2, 1));
        Check.due("beside what 2", -1, x.beside(0, 2));
        Check.due("most(2)", -1, x.most(2));
        Check.due("upright(3)", -1, x.upright(3));
        Check.due("men(2)", -1, x.men(2));
        Check.due("dry(2, 0)", -1, x.dry(2, 0));
        Check.due("dry(0, 2)", -1, x.dry(0, 2));
    }

    private static void together() {
        WhichHold x = Check.ship("hold 20 0 9 0;hold 20 1 9 5;hold 20 2 9 0;sinks 45;lists 9;");
        int[] due = {1, 0, 1, 0, 0, 0, 0, 0};
        for (int set = 0; set < 8; set++) {
            Check.due("together(" + set + ")", due[set], x.together(set));
        }
        x.put(1, 4);
        Check.due("20 and 20 and 4 are below 45", 1, x.together(5));
        x.put(0, 2);
        Check.due("LIST 9", 1, x.together(4));
        Check.due("nothing has changed", 6, x.now(1));
    }

    private static void beside() {
        WhichHold x = Check.ship("hold 20 0 9 0;hold 20 1 9 0;hold 20 2 9 0;lists 9;");
        Check.due("beside(0, 0)", 4, x.beside(0, 0));
        Check.due("beside(1, 0)", 0, x.beside(1, 0));
        Check.due("beside(2, 0)", 1, x.beside(2, 0));
        Check.due("beside(1, 1)", 0, x.beside(1, 1));
        WhichHold y = Check.ship("hold 20 0 9 0;hold 20 1 9 0;hold 20 2 9 0;lists 10;");
        for (int h = 0; h < 3; h++) {
            Check.due("beside(" + h + ", 0): not itself", 7 & ~(1 << h), y.beside(h, 0));
            Check.due("beside(" + h + ", 1)", 1, y.beside(h, 1));
        }
        WhichHold z = Check.ship("hold 20 0 9 0;sinks 5;");
        Check.due("no two", 0, z.beside(0, 0));
        Check.due("no two", 1, z.beside(0, 1));
    }

    private static void most() {
        WhichHold x = Check.ship("hold 20 0 9 0;hold 20 1 9 0;hold 20 2 9 0;hold 5 1 9 0;sinks 46;lists 9;");
        Check.due("most(0)", 3, x.most(0));
        Check.due("most(1)", 13, x.most(1));
        WhichHold y = Check.ship("hold 20 1 9 0;hold 20 1 9 0;hold 20 1 9 0;sinks 41;");
        Check.due("most(0)", 2, y.most(0));
        Check.due("most(1): the least", 3, y.most(1));
        WhichHold z = Check.ship("hold 20 1 9 20;sinks 20;");
        Check.due("not even none", -4, z.most(0));
        Check.due("not even none", -4, z.most(1));
        WhichHold a = Check.ship("hold 20 1 9 0;sinks 20;");
        Check.due("only none", 0, a.most(0));
        Check.due("only none", 0, a.most(1));
        WhichHold b = Check.ship("hold 40 0 9 40;hold 40 2 9 0;lists 9;");
        Check.due("together she would float", 2, b.most(0));
        Check.due("together she would float", 1, b.together(2));
        Check.due("as she is, not", 0, b.together(0));
    }

    private static void upright() {
        WhichHold x = Check.ship("hold 20 0 5 20;hold 12 2 2 0;hold 8 2 2 0;hold 20 2 5 0;hold 1 1 18 0;");
        // both {1, 2} and {3} make LIST 0: TRIM (-80 - 140) / 10 against (-80 - 80) / 10, less by hold 4
        Check.due("upright(1)", 0, x.upright(1));
        Check.due("upright(2)", 15, x.upright(2));
        Check.due("upright(0)", 24, x.upright(0));
        Check.due("nothing has changed", 10, x.now(2));
        WhichHold y = Check.ship("hold 20 0 9 20;hold 20 2 9 0;hold 20 2 9 0;hold 20 1 9 0;");
        Check.due("the fewest, then the least bits", 2, y.upright(0));
        WhichHold z = Check.ship("hold 20 1 9 20;sinks 20;");
        for (int what = 0; what < 3; what++) {
            Check.due("by none", -4, z.upright(what));
        }
        WhichHold a = Check.ship("hold 20 0 9 20;hold 20 2 9 0;sinks 40;");
        Check.due("so that she does not sink", 0, a.upright(0));
        Check.due("LIST stays", 10, a.upright(1));
        WhichHold b = Check.ship("hold 20 0 9 20;hold 20 2 9 20;");
        Check.due("what is full need not be let full", 0, b.upright(0));
    }

    private static void men() {
        WhichHold x = Check.ship("hold 9 1 9 0;hold 9 1 9 0;hold 9 1 9 0;hold 9 1 9 0;"
            + "door 0 1 12 1 1;door 1 2 12 1 1;door 3 2 12 1 1;door 3 0 12 1 1 shut;safe 2;");
        Check.due("men(0)", 0, x.men(0));
        Check.due("men(1)", 1, x.men(1));
        Check.due("men(2)", 3, x.men(2));
        Check.due("men(4)", 8, x.men(4));
        Check.due("a door that is shut may be named", 0, x.men(8));
        Check.due("all but safe", 11, x.men(15));
        x.order(0, 1, 3, 0);
        x.go(2);
        Check.due("by the other way", 0, x.men(2));
        Check.due("men(6)", 11, x.men(6));
        Check.due("nothing was shut", 1, x.door(0, 5));
    }

    private static void dry() {
        // a ring 0-1-2-3-0, and 4 at 2 by two doors
        WhichHold x = Check.ship("hold 9 1 9 0;hold 9 1 9 0;hold 9 1 9 0;hold 9 1 9 0;hold 9 1 9 0;"
            + "door 0 1 0 1 1;door 1 2 0 1 1;door 2 3 0 1 1;door 3 0 0 1 1;door 2 4 0 1 1;door 4 2 0 1 1;hole 0 1 1;");
        Check.due("it has a hole", -4, x.dry(0, 0));
        Check.due("it has a hole", -4, x.dry(0, 1));
        Check.due("dry(2, 0)", 2, x.dry(2, 0));
        Check.due("dry(2, 1): the least bits", 5, x.dry(2, 1));
        Check.due("dry(4, 0)", 2, x.dry(4, 0));
        Check.due("dry(4, 1): the least bits", 5, x.dry(4, 1));
        Check.due("dry(1, 1)", 3, x.dry(1, 1));
        x.order(0, 0, 0, 0);
        x.go(2);
        Check.due("only open ones", 1, x.dry(2, 0));
        Check.due("only open ones", 4, x.dry(2, 1));
        Check.due("dry(1, 1)", 2, x.dry(1, 1));
        x.order(2, 2, 0, 0);
        x.go(2);
        Check.due("a hole under a sail is one", -4, x.dry(0, 0));
        WhichHold y = Check.ship("hold 9 1 9 9;hold 9 1 9 0;door 0 1 0 1 1;");
        Check.due("without holes", 0, y.dry(1, 0));
        Check.due("without holes", 0, y.dry(1, 1));
    }

    private static void noShip() {
        WhichHold x = new WhichHold();
        Check.due("together(0)", 1, x.together(0));
        Check.due("together(1)", -1, x.together(1));
        Check.due("beside(0, 1)", -1, x.beside(0, 1));
        Check.due("most(0)", 0, x.most(0));
        Check.due("most(1)", 0, x.most(1));
        Check.due("upright(0)", 0, x.upright(0));
        Check.due("men(0)", 0, x.men(0));
        Check.due("men(1)", -1, x.men(1));
        Check.due("dry(0, 0)", -1, x.dry(0, 0));
    }
}
