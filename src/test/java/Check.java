/** What the tests share: told texts, answers that are due, the end with an exit code. */
final class Check {
    private static int wrong = 0;
    private static int made = 0;

    private Check() { }

    static void due(String call, long want, long got) {
        made++;
        if (got != want) {
            wrong++;
            if (wrong <= 40) {
                System.out.println(call + " answered " + got + ", due is " + want);
            }
        }
    }

    static boolean anyWrong() {
        return wrong != 0;
    }

    static void finish(String name) {
        System.out.println(name + ": " + made + " answers looked at, " + wrong + " wrong");
        if (wrong != 0) {
            System.exit(1);
        }
    }

    /** Eight signs as feed() takes them. */
    static long packed(String eight) {
        long v = 0;
        for (int i = 0; i < 8; i++) {
            v = v << 8 | eight.charAt(i) & 255;
        }
        return v;
    }

    /** Puts a text on an empty TAPE, cut to its length. */
    static void type(WhichHold x, String text) {
        StringBuilder padded = new StringBuilder(text);
        while (padded.length() % 8 != 0) {
            padded.append(' ');
        }
        for (int i = 0; i < padded.length(); i += 8) {
            x.feed(packed(padded.substring(i, i + 8)));
        }
        x.end(text.length());
    }

    static int tell(WhichHold x, String text) {
        type(x, text);
        return x.text();
    }

    /** A ship by her text, which must be taken. */
    static WhichHold ship(String text) {
        WhichHold x = new WhichHold();
        int answer = tell(x, text);
        if (answer < 0) {
            due("text of " + text, 0, answer);
        }
        return x;
    }
}
