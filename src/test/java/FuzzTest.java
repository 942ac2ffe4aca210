import java.util.Random;

/** Runs of calls by chance (always the same ones), each answer beside that of the Model; no object is used for more than 512. */
public final class FuzzTest {
    private static final int RUNS = 8000, MOST_CALLS = 512, LONGEST_STEP = 60, PORTRAIT = 250;
    private static final String[] LINES = {"hold", "door", "hole", "pump", "crews", "sinks", "lists", "trims", "safe"};

    private static Random chance;
    private static WhichHold x;
    private static Model m;
    private static int holds, doors, holes, pumps, made;
    private static StringBuilder history;

    public static void main(String[] args) {
        for (int r = 0; r < RUNS && !Check.anyWrong(); r++) {
            chance = new Random(r);
            x = new WhichHold();
            m = new Model();
            history = new StringBuilder();
            holds = doors = holes = pumps = 0;
            made = 0;
            boolean ends = chance.nextBoolean();
            int most = MOST_CALLS - LONGEST_STEP - (ends ? PORTRAIT : 0);
            for (int c = 0; made < most && !Check.anyWrong(); c++) {
                step(c);
            }
            if (ends) {
                portrait();
            }
            if (Check.anyWrong()) {
                System.out.println("run " + r + history);
            }
        }
        Check.finish("FuzzTest");
    }

    private static int upTo(int n) {
        return chance.nextInt(n + 1);
    }

    /** Mostly 0 to n, sometimes a little or far outside. */
    private static int about(int n) {
        int kind = upTo(19);
        if (kind == 0) {
            return -1 - upTo(3);
        }
        if (kind == 1) {
            return n + 1 + upTo(2);
        }
        if (kind == 2) {
            int[] far = {Integer.MIN_VALUE, Integer.MAX_VALUE, 1 << 16, 1000, -1000, Integer.MAX_VALUE - 2};
            return far[upTo(far.length - 1)];
        }
        return upTo(Math.max(0, n));
    }

    private static void due(String call, int want, int got) {
        history.append("\n  ").append(call).append(" = ").append(got);
        compare(call, want, got);
    }

    private static void compare(String call, int want, int got) {
        made++;
        Check.due(call, want, got);
    }

    private static String number(int least, int most) {
        int v = least + upTo(Math.max(0, most - least));
        if (upTo(150) == 0) {
            v = upTo(1) == 0 ? most + 1 : upTo(2000);
        }
        return (upTo(8) == 0 ? "  " : " ") + (upTo(30) == 0 && v < 10 ? "0" : "") + v;
    }

    private static String line(String name) {
        switch (name) {
            case "hold": holds++; int tons = 1 + upTo(upTo(1) == 0 ? 98 : 30);
                return "hold " + tons + number(0, 2) + number(0, 18) + number(0, upTo(1) * upTo(tons)) + ";";
            case "door": doors++; return "door" + number(0, holds - 1) + number(0, holds - 1) + number(0, 12) + number(1, 9) + number(1, 9) + (upTo(3) == 0 ? " shut" : "") + ";";
            case "hole": holes++; return "hole" + number(0, holds - 1) + number(1, 20) + number(1, upTo(1) == 0 ? 20 : 4) + ";";
            case "pump": pumps++; return "pump" + number(1, 9) + number(0, holds - 1) + ";";
            case "crews": return "crews" + number(1, 3) + ";";
            case "sinks": return "sinks" + number(upTo(1) * 80 + 1, upTo(2) == 0 ? 800 : 300) + ";";
            case "lists": return "lists" + number(upTo(1) * 20 + 1, 99) + ";";
            case "trims": return "trims" + number(upTo(1) * 20 + 1, 99) + ";";
            default: return "safe" + number(0, holds - 1) + ";";
        }
    }

    private static String shipText() {
        StringBuilder s = new StringBuilder();
        holds = doors = holes = pumps = 0;
        int wanted = 1 + upTo(7);
        for (int i = 0; i < wanted; i++) {
            s.append(line("hold"));
        }
        int others = upTo(9);
        for (int i = 0; i < others; i++) {
            s.append(line("door"));
        }
        for (int i = upTo(3); i > 0; i--) {
            s.append(line("hole"));
        }
        for (int i = upTo(2); i > 0; i--) {
            s.append(line("pump"));
        }
        for (int i = 4; i < LINES.length; i++) {
            if (upTo(1) == 0) {
                s.append(line(LINES[i]));
            }
        }
        if (upTo(12) == 0) {
            s.append(line(LINES[upTo(8)]));
        }
        if (upTo(8) == 0) {
            spoil(s);
        }
        return s.length() > 400 ? s.substring(0, 400) : s.toString();
    }

    private static void spoil(StringBuilder s) {
        String signs = " ;az09.,A{/:`\n\0\u00ff";
        for (int i = upTo(2); i >= 0; i--) {
            int at = upTo(s.length() - 1);
            char sign = signs.charAt(upTo(signs.length() - 1));
            switch (upTo(2)) {
                case 0: s.setCharAt(at, sign); break;
                case 1: s.insert(at, sign); break;
                default: s.deleteCharAt(at); break;
            }
        }
    }

    private static void feed(String eight) {
        long v = Check.packed(eight);
        due("feed(" + v + "L)", m.feed(v), x.feed(v));
    }

    private static void tell() {
        StringBuilder s = new StringBuilder(shipText());
        history.append("\n  // ").append(s);
        int length = s.length();
        while (s.length() % 8 != 0) {
            s.append(' ');
        }
        for (int i = 0; i < s.length(); i += 8) {
            feed(s.substring(i, i + 8));
        }
        if (upTo(4) != 0) {
            due("end(" + length + ")", m.end(length), x.end(length));
        }
        due("text()", m.text(), x.text());
        due("fault()", m.fault, x.fault());
    }

    private static void step(int c) {
        if (c == 0 || upTo(60) == 0) {
            tell();
            glance();
            return;
        }
        int h = m.ship.holds.size() - 1;
        int d = m.ship.doors.size() - 1;
        int o = m.ship.holes.size() - 1;
        int p = m.ship.pumps.size() - 1;
        int which = upTo(37);
        if (which < 14) {
            ship(which, h, d, o, p);
        } else if (which < 26) {
            look(which, h, d);
        } else {
            rest(which, h, d);
        }
    }

    private static void ship(int which, int h, int d, int o, int p) {
        int a = 0;
        int b = 0;
        switch (which) {
            case 0: a = about(h); b = about(5); due("hold(" + a + ", " + b + ")", m.hold(a, b), x.hold(a, b)); break;
            case 1: a = about(d); b = about(6); due("door(" + a + ", " + b + ")", m.door(a, b), x.door(a, b)); break;
            case 2: a = about(o); b = about(4); due("hole(" + a + ", " + b + ")", m.hole(a, b), x.hole(a, b)); break;
            case 3: a = about(p); b = about(1); due("pump(" + a + ", " + b + ")", m.pump(a, b), x.pump(a, b)); break;
            case 4: a = about(4); due("rule(" + a + ")", m.rule(a), x.rule(a)); break;
            case 5: a = about(h); b = about(m.hold(a, 0)); due("put(" + a + ", " + b + ")", m.put(a, b), x.put(a, b)); glance(); break;
            case 6:
            case 7: a = upTo(6) == 0 ? about(120) : about(4); due("go(" + a + ")", m.go(a), x.go(a)); glance(); break;
            case 8: a = about(7); due("now(" + a + ")", m.now(a), x.now(a)); break;
            case 9: a = about(1); due("keep(" + a + ")", m.keep(a), x.keep(a)); break;
            case 10: a = about(1); due("back(" + a + ")", m.back(a), x.back(a)); glance(); break;
            case 11: if (upTo(3) == 0) { due("recall()", m.recall(), x.recall()); } break;
            case 12: a = about(m.tape.length()); due("end(" + a + ")", m.end(a), x.end(a)); break;
            default: if (upTo(10) == 0) { feed("hold 1 1"); } break;
        }
    }

    private static void look(int which, int h, int d) {
        int a;
        int b;
        int c;
        switch (which) {
            case 14: a = about(120); b = about(6); due("run(" + a + ", " + b + ")", m.run(a, b), x.run(a, b)); break;
            case 15: a = about(120); b = about(h); due("water(" + a + ", " + b + ")", m.water(a, b), x.water(a, b)); break;
            case 16: a = about(120); due("free(" + a + ")", m.free(a), x.free(a)); break;
            case 17:
                if (upTo(3) != 0) {
                    break;
                }
                a = d + m.ship.holes.size() > 5 ? about(2) : about(3);
                b = about(60);
                for (c = -1; c < 14; c++) {
                    due("best(" + a + ", " + b + ", " + c + ")", m.best(a, b, c), x.best(a, b, c));
                }
                break;
            case 18: a = about(d); b = about(60); due("latest(" + a + ", " + b + ")", m.latest(a, b), x.latest(a, b)); break;
            case 19: a = about(60); due("helps(" + a + ")", m.helps(a), x.helps(a)); break;
            case 20: a = about((2 << h) - 1); due("together(" + a + ")", m.together(a), x.together(a)); break;
            case 21: a = about(h); b = about(1); due("beside(" + a + ", " + b + ")", m.beside(a, b), x.beside(a, b)); break;
            case 22: a = about(1); due("most(" + a + ")", m.most(a), x.most(a)); break;
            case 23: a = about(2); due("upright(" + a + ")", m.upright(a), x.upright(a)); break;
            case 24: a = about((2 << d) - 1); due("men(" + a + ")", m.men(a), x.men(a)); break;
            default: a = about(h); b = about(1); due("dry(" + a + ", " + b + ")", m.dry(a, b), x.dry(a, b)); break;
        }
    }

    private static void rest(int which, int h, int d) {
        int a;
        int b;
        int c;
        int e;
        switch (which) {
            case 26:
            case 27:
            case 28:
                a = m.ship.minute + about(6);
                b = about(4);
                c = about(b < 2 ? d : b == 2 ? m.ship.holes.size() - 1 : b == 3 ? m.ship.pumps.size() - 1 : h);
                e = b == 4 ? about(1) : upTo(3) == 0 ? -4 : about(h);
                due("order(" + a + ", " + b + ", " + c + ", " + e + ")", m.order(a, b, c, e), x.order(a, b, c, e));
                glance();
                break;
            case 29: a = about(m.ship.orders.size() - 1); b = about(5); due("given(" + a + ", " + b + ")", m.given(a, b), x.given(a, b)); break;
            case 30: sound(); break;
            case 31: a = about(h); due("rates(" + a + ")", m.rates(a), x.rates(a)); break;
            case 32: if (upTo(3) == 0) { due("wipe()", m.wipe(), x.wipe()); } break;
            case 33: a = about(3); b = about(2); c = about(40); due("sheet(" + a + ", " + b + ", " + c + ")", m.sheet(a, b, c), x.sheet(a, b, c)); break;
            case 34: a = about(3); b = about(39); c = about(70000); due("lay(" + a + ", " + b + ", " + c + ")", m.lay(a, b, c), x.lay(a, b, c)); break;
            case 35: write(h, d); break;
            case 36:
                a = about(3);
                Object s = a >= 0 && a < 4 ? m.sheets[a] : null;
                b = upTo(4) == 0 ? about(2) : s instanceof byte[] ? 0 : s instanceof short[] ? 1 : 2;
                c = upTo(3) == 0 ? about(40) : 0;
                e = upTo(3) == 0 ? about(10) : upTo(3);
                due("read(" + a + ", " + b + ", " + c + ", " + e + ")", m.read(a, b, c, e), x.read(a, b, c, e));
                due("torn()", m.torn, x.torn());
                glance();
                break;
            default: a = about(8); due("count(" + a + ")", m.count(a), x.count(a)); break;
        }
    }

    /** Soundings that mostly come from one hole, so that some rates fit. */
    private static void sound() {
        if (upTo(4) == 0 || m.ship.holds.isEmpty()) {
            int v = about(99);
            due("sound(" + v + ")", m.sound(v), x.sound(v));
            return;
        }
        due("wipe()", m.wipe(), x.wipe());
        Model.Hold hold = m.ship.holds.get(upTo(m.ship.holds.size() - 1));
        int rate = 1 + upTo(19);
        int w = upTo(hold.tons);
        for (int i = upTo(8); i >= 0; i--) {
            due("sound(" + w + ")", m.sound(w), x.sound(w));
            w = Math.min(hold.tons, w + (rate * (12 - 12 * w / hold.tons) + 11) / 12);
        }
    }

    /** Whole orders laid into a sheet. */
    private static void write(int h, int d) {
        int k = upTo(3);
        int lane = upTo(2);
        int n = 4 * upTo(10);
        due("sheet(" + k + ", " + lane + ", " + n + ")", m.sheet(k, lane, n), x.sheet(k, lane, n));
        for (int i = 0; i < n && i < 16; i += 4) {
            int kind = upTo(4);
            int what = upTo(Math.max(0, kind < 2 ? d : kind == 2 ? m.ship.holes.size() - 1 : kind == 3 ? m.ship.pumps.size() - 1 : h));
            int[] row = {about(5), kind, what, upTo(1)};
            for (int j = 0; j < 4; j++) {
                due("lay(" + k + ", " + (i + j) + ", " + row[j] + ")", m.lay(k, i + j, row[j]), x.lay(k, i + j, row[j]));
            }
        }
    }

    /** A little of how it is, after what may have changed it. */
    private static void glance() {
        compare("now(1)", m.now(1), x.now(1));
        int what = upTo(7);
        int h = upTo(7);
        int k = upTo(11);
        compare("now(" + what + ")", m.now(what), x.now(what));
        compare("hold(" + h + ", 3)", m.hold(h, 3), x.hold(h, 3));
        compare("given(" + k + ", 4)", m.given(k, 4), x.given(k, 4));
    }

    /** All that can be asked of how it is. */
    private static void portrait() {
        for (int what = 0; what < 9; what++) {
            compare("now(" + what + ")", m.now(what), x.now(what));
            compare("count(" + what + ")", m.count(what), x.count(what));
            compare("rule(" + what + ")", m.rule(what), x.rule(what));
        }
        for (int h = 0; h < m.ship.holds.size(); h++) {
            for (int what = 0; what < 6; what++) {
                compare("hold(" + h + ", " + what + ")", m.hold(h, what), x.hold(h, what));
            }
        }
        for (int d = 0; d < m.ship.doors.size(); d++) {
            for (int what = 0; what < 7; what++) {
                compare("door(" + d + ", " + what + ")", m.door(d, what), x.door(d, what));
            }
        }
        for (int h = 0; h < m.ship.holes.size(); h++) {
            for (int what = 0; what < 5; what++) {
                compare("hole(" + h + ", " + what + ")", m.hole(h, what), x.hole(h, what));
            }
        }
        for (int p = 0; p < m.ship.pumps.size(); p++) {
            compare("pump(" + p + ", 0)", m.pump(p, 0), x.pump(p, 0));
            compare("pump(" + p + ", 1)", m.pump(p, 1), x.pump(p, 1));
        }
        for (int k = 0; k < m.ship.orders.size(); k++) {
            for (int what = 0; what < 6; what++) {
                compare("given(" + k + ", " + what + ")", m.given(k, what), x.given(k, what));
            }
        }
    }
}
