/** The edges of promises 31 to 33: sound, wipe, rates, a sentence of the document each. */
public final class EdgeSoundTest {
    private static final int BAD = Edge.BAD, FULL = Edge.FULL;
    private static final int ALL = (1 << 21) - 2;

    public static void main(String[] args) {
        soundOutside();
        soundEight();
        badAheadOfFull();
        wipeHowMany();
        wipeLetsAgain();
        ratesOutside();
        ratesAboveTons();
        fewerThanTwo();
        bitsOneToTwenty();
        eachFollows();
        upNotDown();
        asFarAsThereIsRoom();
        fullStays();
        nothingElse();
        askingChangesNothing();
        Check.finish("EdgeSoundTest");
    }

    private static WhichHold sounded(String text, int... waters) {
        WhichHold x = Check.ship(text);
        for (int i = 0; i < waters.length; i++) {
            Check.due("sound(" + waters[i] + ")", i + 1, x.sound(waters[i]));
        }
        return x;
    }

    private static WhichHold eight() {
        return sounded("hold 99 1 9 0;", 1, 2, 3, 4, 5, 6, 7, 8);
    }

    /** "WATER (0 to 99)", "BAD". */
    private static void soundOutside() {
        for (int v : new int[] {-1, 100, 101, 256, Edge.FAR, Edge.LOW, Edge.LOW + 5}) {
            Edge.refused("sound(" + v + ")", Edge::busy, BAD, x -> x.sound(v));
            Edge.refused("sound(" + v + ") of a new one", Edge::empty, BAD, x -> x.sound(v));
        }
        WhichHold x = new WhichHold();
        int many = 0;
        for (int v : new int[] {0, 1, 98, 99}) {
            many++;
            Check.due("sound(" + v + ")", many, x.sound(v));
            Check.due("count(6)", many, x.count(6));
        }
    }

    /** "(8; told by hand)", "FULL". */
    private static void soundEight() {
        WhichHold x = new WhichHold();
        for (int many = 1; many <= 8; many++) {
            Check.due("sound " + many, many, x.sound(99));
        }
        Edge.refused("the 9th", EdgeSoundTest::eight, FULL, y -> y.sound(0));
        Edge.refused("the 9th", EdgeSoundTest::eight, FULL, y -> y.sound(99));
        Check.due("count(6)", 8, eight().count(6));
    }

    /** "BAD; FULL", "the first that fits". */
    private static void badAheadOfFull() {
        Edge.refused("sound(-1) beyond 8", EdgeSoundTest::eight, BAD, x -> x.sound(-1));
        Edge.refused("sound(100) beyond 8", EdgeSoundTest::eight, BAD, x -> x.sound(100));
    }

    /** "All that was SOUNDED is gone: how many there were." */
    private static void wipeHowMany() {
        for (int many = 0; many <= 8; many++) {
            WhichHold x = new WhichHold();
            for (int i = 0; i < many; i++) {
                x.sound(i);
            }
            Check.due("wipe() of " + many, many, x.wipe());
            Check.due("count(6)", 0, x.count(6));
            Check.due("wipe() again", 0, x.wipe());
        }
        Edge.refused("wipe() of none", () -> {
            WhichHold x = Edge.busy();
            x.wipe();
            return x;
        }, 0, x -> x.wipe());
    }

    /** What is sounded behind wipe() is the first again: of what was before nothing is left. */
    private static void wipeLetsAgain() {
        WhichHold x = eight();
        x.wipe();
        Check.due("all fit", ALL, x.rates(0));
        for (int many = 1; many <= 8; many++) {
            Check.due("sound " + many, many, x.sound(99));
        }
        Check.due("FULL again", FULL, x.sound(99));
        Check.due("a full one", ALL, x.rates(0));
    }

    /** "BAD": there is no such HOLD. */
    private static void ratesOutside() {
        for (int h : new int[] {-1, 3, 8, Edge.FAR, Edge.LOW}) {
            Edge.refused("rates(" + h + ")", Edge::busy, BAD, x -> x.rates(h));
        }
        Check.due("rates(7)", ALL, Check.ship("hold 9 1 9 0;".repeat(8)).rates(7));
        Check.due("rates(8)", BAD, Check.ship("hold 9 1 9 0;".repeat(8)).rates(8));
        Check.due("rates(0) of a new one", BAD, new WhichHold().rates(0));
        WhichHold x = Check.ship("hold 9 1 9 0;".repeat(8));
        Check.tell(x, "hold 9 1 9 0;");
        Check.due("a HOLD of an earlier text", BAD, x.rates(1));
    }

    /** "BAD: also WATER above its TONS", wherever it was sounded, also if it is the only one. */
    private static void ratesAboveTons() {
        String text = "hold 10 1 9 0;hold 11 1 9 0;";
        Check.due("10 in 10", ALL, sounded(text, 10).rates(0));
        Check.due("11 in 10", BAD, sounded(text, 11).rates(0));
        Check.due("11 in 11", ALL, sounded(text, 11).rates(1));
        Check.due("12 in 11", BAD, sounded(text, 12).rates(1));
        for (int at = 0; at < 8; at++) {
            int[] waters = {10, 10, 10, 10, 10, 10, 10, 10};
            waters[at] = 11;
            Check.due("the one above is number " + at, BAD, sounded(text, waters).rates(0));
        }
        Edge.refused("rates(0)", () -> sounded(text, 0, 11), BAD, x -> x.rates(0));
        WhichHold x = sounded(text, 11);
        x.wipe();
        Check.due("it is gone", ALL, x.rates(0));
    }

    /** "(Fewer than two: all.)" */
    private static void fewerThanTwo() {
        Check.due("none", ALL, sounded("hold 9 1 9 0;").rates(0));
        for (int v : new int[] {0, 5, 9}) {
            Check.due("one", ALL, sounded("hold 9 1 9 0;", v).rates(0));
        }
        Check.due("two", 1 << 5, sounded("hold 60 1 9 0;", 0, 5).rates(0));
    }

    /** "RATES (1 to 20)", "(bits 1 to 20)". */
    private static void bitsOneToTwenty() {
        for (int v = 0; v <= 22; v++) {
            int due = v >= 1 && v <= 20 ? 1 << v : 0;
            Check.due("0, then " + v, due, sounded("hold 99 1 9 0;", 0, v).rates(0));
        }
    }

    /** "by which each WATER follows from the one ahead": the second from the first as the last from the one ahead. */
    private static void eachFollows() {
        // HEIGHTS 0, 0, 1, 2, 3, 4, 4
        int[] run = {0, 7, 14, 21, 27, 33, 38, 43};
        Check.due("all eight of RATE 7", 1 << 7, sounded("hold 96 1 9 0;", run).rates(0));
        for (int at = 0; at < 8; at++) {
            for (int off = -1; off <= 1; off += 2) {
                int[] waters = run.clone();
                waters[at] += off;
                if (waters[at] >= 0) {
                    Check.due("number " + at + " is off by " + off, 0, sounded("hold 96 1 9 0;", waters).rates(0) & 1 << 7);
                }
            }
        }
        Check.due("it falls", 0, sounded("hold 96 1 9 0;", 7, 0).rates(0));
        Check.due("it stands still", 0, sounded("hold 96 1 9 0;", 7, 7).rates(0));
    }

    /** "RATE times (12 less HEIGHT), by 12, up". */
    private static void upNotDown() {
        // HEIGHT 11: a ton by RATES 1 to 12, two by 13 to 20
        Check.due("a ton", (1 << 13) - 2, sounded("hold 96 1 9 0;", 88, 89).rates(0));
        Check.due("two tons", ALL & ~((1 << 13) - 1), sounded("hold 96 1 9 0;", 88, 90).rates(0));
        Check.due("three tons", 0, sounded("hold 96 1 9 0;", 88, 91).rates(0));
        // HEIGHT 6: half of them, up
        Check.due("7 or 8", 1 << 7 | 1 << 8, sounded("hold 96 1 9 0;", 48, 52).rates(0));
        Check.due("HEIGHT 5 yet: 7 times 7", 1 << 7, sounded("hold 96 1 9 0;", 47, 52).rates(0) & 1 << 7);
    }

    /** "as far as there is room". */
    private static void asFarAsThereIsRoom() {
        Check.due("10 and above", ALL & ~((1 << 10) - 1), sounded("hold 10 1 9 0;", 0, 10).rates(0));
        Check.due("9 alone", 1 << 9, sounded("hold 10 1 9 0;", 0, 9).rates(0));
        Check.due("any, room for one", ALL, sounded("hold 10 1 9 0;", 9, 10).rates(0));
        Check.due("20 into 20", 1 << 20, sounded("hold 20 1 9 0;", 0, 20).rates(0));
        Check.due("19 and above into 19", 1 << 19 | 1 << 20, sounded("hold 19 1 9 0;", 0, 19).rates(0));
    }

    /** A full one stays so by each RATE. */
    private static void fullStays() {
        Check.due("full", ALL, sounded("hold 10 1 9 0;", 10, 10, 10, 10, 10, 10, 10, 10).rates(0));
        Check.due("not full", 0, sounded("hold 10 1 9 0;", 9, 9).rates(0));
        Check.due("full, then less", 0, sounded("hold 10 1 9 0;", 10, 9).rates(0));
    }

    /** "nothing else": her own WATER, HOLES, PUMPS, VALVES, sails do not matter, nor that she has SUNK. */
    private static void nothingElse() {
        String bare = "hold 60 1 9 0;hold 30 1 9 0;";
        WhichHold x = sounded(bare + "hole 0 9 1;hole 0 3 1;pump 9 0;door 0 1 0 9 1;crews 3;", 12, 16);
        x.order(0, 2, 0, 0);
        x.order(0, 4, 0, 1);
        int due = sounded(bare, 12, 16).rates(0);
        // HEIGHT 2: RATE 4 times 10 by 12, up
        Check.due("RATE 4", 1 << 4, due);
        Check.due("as of a bare one", due, x.rates(0));
        x.go(9);
        Check.due("as of a bare one", due, x.rates(0));
        WhichHold y = sounded("hold 60 1 9 40;hold 30 1 9 0;sinks 40;", 12, 16);
        Check.due("of the sunk", due, y.rates(0));
    }

    private static void askingChangesNothing() {
        Edge.changesNothing("rates", Edge::busy, x -> x.rates(0) + x.rates(1) + x.rates(2));
        Edge.changesNothing("rates", EdgeSoundTest::eight, x -> x.rates(0) + x.rates(1));
    }
}
