/** Promises 31 to 33: sound, wipe, rates. */
public final class SoundTest {
    private static final int ALL = (1 << 21) - 2;

    public static void main(String[] args) {
        sounding();
        rates();
        room();
        wrongNumbers();
        Check.finish("SoundTest");
    }

    private static void sounding() {
        WhichHold x = new WhichHold();
        Check.due("sound(-1)", -1, x.sound(-1));
        Check.due("sound(100)", -1, x.sound(100));
        Check.due("wipe() of none", 0, x.wipe());
        for (int i = 1; i <= 8; i++) {
            Check.due("sound " + i, i, x.sound(i % 2 * 99));
        }
        Check.due("the 9th", -3, x.sound(0));
        Check.due("BAD ahead of FULL", -1, x.sound(100));
        Check.due("count(6)", 8, x.count(6));
        Check.due("wipe()", 8, x.wipe());
        Check.due("count(6)", 0, x.count(6));
        Check.due("sound behind wipe", 1, x.sound(1));
    }

    private static void rates() {
        WhichHold x = Check.ship("hold 48 1 9 0;hold 24 1 9 7;hole 1 3 1;pump 4 1;");
        Check.due("none sounded", ALL, x.rates(0));
        x.sound(24);
        Check.due("one sounded", ALL, x.rates(1));
        // HEIGHT 6: half of RATE, up
        x.sound(28);
        Check.due("7 or 8", 1 << 7 | 1 << 8, x.rates(0));
        // HEIGHT 7: 35 / 12 or 40 / 12, up
        x.sound(31);
        Check.due("7 alone", 1 << 7, x.rates(0));
        x.sound(30);
        Check.due("water that falls follows from none", 0, x.rates(0));
        x.wipe();
        x.sound(0);
        x.sound(20);
        Check.due("20", 1 << 20, x.rates(0));
        x.wipe();
        x.sound(0);
        x.sound(1);
        Check.due("1", 2, x.rates(0));
        x.wipe();
        x.sound(5);
        x.sound(5);
        Check.due("none stands still", 0, x.rates(0));
    }

    private static void room() {
        WhichHold x = Check.ship("hold 10 1 9 0;");
        x.sound(9);
        x.sound(10);
        // HEIGHT 10: 2 tons of RATE 12 would come, there is room for one
        Check.due("as far as there is room", ALL, x.rates(0));
        x.sound(10);
        Check.due("a full one stays", ALL, x.rates(0));
        x.wipe();
        x.sound(0);
        x.sound(10);
        Check.due("10 and above", ALL & ~((1 << 10) - 1), x.rates(0));
    }

    private static void wrongNumbers() {
        WhichHold x = Check.ship("hold 10 1 9 0;hold 11 1 9 0;");
        Check.due("rates(2)", -1, x.rates(2));
        Check.due("rates(-1)", -1, x.rates(-1));
        x.sound(11);
        Check.due("one that is above TONS", -1, x.rates(0));
        Check.due("not above", ALL, x.rates(1));
        Check.due("no ship", -1, new WhichHold().rates(0));
    }
}
