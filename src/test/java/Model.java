import java.util.ArrayList;
import java.util.List;
import java.util.TreeSet;
import java.util.function.Predicate;
import java.util.regex.Matcher;
import java.util.regex.Pattern;

/**
 * A second reading of the document, written in another way than WhichHold and with the Java library,
 * so that a slip in one of the two shows itself where their answers part.
 */
final class Model {
    static final int BAD = -1, STATE = -2, FULL = -3, NONE = -4;

    static final class Hold { int tons, side, arm, water; boolean valve; int height() { return 12 * water / tons; } }
    static final class Door { int a, b, sill, rate, minutes; boolean open; }
    static final class Hole { int hold, rate, minutes; boolean sail; }
    static final class Pump { int rate, hold; }
    static final class Order { int minute, kind, what, where, how, end = NONE; }

    static final class Ship {
        final List<Hold> holds = new ArrayList<>();
        final List<Door> doors = new ArrayList<>();
        final List<Hole> holes = new ArrayList<>();
        final List<Pump> pumps = new ArrayList<>();
        final List<Order> orders = new ArrayList<>();
        int crews = 1, sinks = 400, lists = 40, trims = 60, safe = 0;
        int minute, why, seen = NONE;

        Ship copy() {
            Ship s = new Ship();
            for (Hold o : holds) { Hold c = new Hold(); c.tons = o.tons; c.side = o.side; c.arm = o.arm; c.water = o.water; c.valve = o.valve; s.holds.add(c); }
            for (Door o : doors) { Door c = new Door(); c.a = o.a; c.b = o.b; c.sill = o.sill; c.rate = o.rate; c.minutes = o.minutes; c.open = o.open; s.doors.add(c); }
            for (Hole o : holes) { Hole c = new Hole(); c.hold = o.hold; c.rate = o.rate; c.minutes = o.minutes; c.sail = o.sail; s.holes.add(c); }
            for (Pump o : pumps) { Pump c = new Pump(); c.rate = o.rate; c.hold = o.hold; s.pumps.add(c); }
            for (Order o : orders) { Order c = new Order(); c.minute = o.minute; c.kind = o.kind; c.what = o.what; c.where = o.where; c.how = o.how; c.end = o.end; s.orders.add(c); }
            s.crews = crews; s.sinks = sinks; s.lists = lists; s.trims = trims; s.safe = safe;
            s.minute = minute; s.why = why; s.seen = seen;
            return s;
        }

        int all() { return holds.stream().mapToInt(h -> h.water).sum(); }

        int list() {
            int right = holds.stream().filter(h -> h.side == 2).mapToInt(h -> h.water).sum();
            int left = holds.stream().filter(h -> h.side == 0).mapToInt(h -> h.water).sum();
            return Math.floorDiv(Math.abs(right - left), 2);
        }

        int trim() { return Math.floorDiv(Math.abs(holds.stream().mapToInt(h -> h.water * (h.arm - 9)).sum()), 10); }

        int reason() { return all() >= sinks ? 1 : list() > lists ? 2 : trim() > trims ? 3 : 0; }

        void look() {
            if (reason() != 0) { why = reason(); seen = minute; }
        }

        int tally(int how) { return (int) orders.stream().filter(o -> o.how == how).count(); }

        boolean onDoor(int d) { return orders.stream().anyMatch(o -> o.how == 1 && o.kind < 2 && o.what == d); }

        boolean onHole(int h) { return orders.stream().anyMatch(o -> o.how == 1 && o.kind == 2 && o.what == h); }

        int comesIn(Hole hole) {
            Hold h = holds.get(hole.hold);
            int rate = hole.sail ? (int) Math.ceil(hole.rate / 2.0) : hole.rate;
            int tons = (int) Math.ceil(rate * (12 - h.height()) / 12.0);
            return Math.min(tons, h.tons - h.water);
        }

        boolean mayBegin(Order o) {
            if (tally(1) >= crews) return false;
            if (o.kind == 0) return doors.get(o.what).open && !onDoor(o.what);
            if (o.kind == 1) return !doors.get(o.what).open && !onDoor(o.what);
            if (o.kind == 2) return !holes.get(o.what).sail && !onHole(o.what);
            return true;
        }

        void begin(Order o) {
            int takes = o.kind < 2 ? doors.get(o.what).minutes : o.kind == 2 ? holes.get(o.what).minutes : 1;
            o.how = 1;
            o.end = minute + takes;
        }

        void finish(Order o) {
            o.how = 2;
            if (o.kind == 0) doors.get(o.what).open = false;
            if (o.kind == 1) doors.get(o.what).open = true;
            if (o.kind == 2) holes.get(o.what).sail = true;
            if (o.kind == 3) pumps.get(o.what).hold = o.where;
            if (o.kind == 4) holds.get(o.what).valve = o.where == 1;
        }

        /** One minute; the row, if there is one, is given from its head on to crews that are free. */
        void pass(List<Order> row) {
            if (why != 0) { minute++; return; }
            for (Order o : orders) if (o.how == 1 && o.end == minute) finish(o);
            for (Order o : orders) {
                if (o.how == 0 && o.minute == minute) {
                    if (mayBegin(o)) begin(o); else o.how = 3;
                }
            }
            while (row != null && !row.isEmpty() && tally(1) < crews) {
                Order o = row.remove(0);
                orders.add(o);
                begin(o);
            }
            for (Hole hole : holes) holds.get(hole.hold).water += comesIn(hole);
            for (Hold h : holds) if (h.valve) for (int t = 0; t < 5; t++) if (h.water < h.tons) h.water++;
            for (Door d : doors) if (d.open) for (int t = 0; t < d.rate; t++) ton(holds.get(d.a), holds.get(d.b), d.sill);
            for (Pump p : pumps) if (p.hold != NONE) for (int t = 0; t < p.rate; t++) if (holds.get(p.hold).water > 0) holds.get(p.hold).water--;
            minute++;
            look();
        }

        static void ton(Hold a, Hold b, int sill) {
            if (a.height() == b.height()) return;
            Hold from = a.height() > b.height() ? a : b, to = from == a ? b : a;
            if (from.height() > sill && to.water < to.tons) { from.water--; to.water++; }
        }

        Ship bare() { Ship s = copy(); s.orders.clear(); return s; }

        /** Minutes until she sinks within n, or NONE; this ship itself goes on. */
        int sail(int n, List<Order> row) {
            if (why != 0) return 0;
            for (int i = 1; i <= n; i++) { pass(row); if (why != 0) return i; }
            return NONE;
        }

        boolean floatsFull(int set) {
            Ship s = copy();
            for (int h = 0; h < holds.size(); h++) if ((set >> h & 1) == 1) s.holds.get(h).water = s.holds.get(h).tons;
            return s.reason() == 0;
        }

        boolean way(int from, int to, Predicate<Integer> passable) {
            TreeSet<Integer> seen = new TreeSet<>();
            List<Integer> todo = new ArrayList<>(List.of(from));
            while (!todo.isEmpty()) {
                int h = todo.remove(todo.size() - 1);
                if (h == to) return true;
                if (!seen.add(h)) continue;
                for (int d = 0; d < doors.size(); d++) {
                    Door x = doors.get(d);
                    if (passable.test(d) && x.a == h) todo.add(x.b);
                    if (passable.test(d) && x.b == h) todo.add(x.a);
                }
            }
            return false;
        }
    }

    /** A text that is refused. */
    static final class Refusal extends Exception {
        private static final long serialVersionUID = 1L;
        final int fault, place;
        Refusal(int fault, int place) { this.fault = fault; this.place = place; }
    }

    static final class Parser {
        static final Pattern TOKEN = Pattern.compile(" *([a-z]+|[0-9]+|;|\\z)");
        final String tape;
        int at, place;
        String token;
        final Ship ship = new Ship();
        final TreeSet<String> told = new TreeSet<>();
        int lines;

        Parser(String tape) { this.tape = tape; }

        void next() throws Refusal {
            int start = at;
            while (start < tape.length() && tape.charAt(start) == ' ') start++;
            Matcher m = TOKEN.matcher(tape).region(at, tape.length());
            if (!m.lookingAt()) throw new Refusal(1, start);
            token = m.group(1);
            place = m.start(1);
            at = m.end();
            if (token.matches("[0-9]{4,}")) throw new Refusal(1, place);
        }

        int number(int least, int most) throws Refusal {
            next();
            if (!token.matches("[0-9]+")) throw new Refusal(2, place);
            int v = Integer.parseInt(token);
            if (v < least || v > most) throw new Refusal(3, place);
            return v;
        }

        void sign() throws Refusal { next(); if (!token.equals(";")) throw new Refusal(2, place); }

        void most(List<?> row, int n) throws Refusal { if (row.size() >= n) throw new Refusal(5, place); }

        void once() throws Refusal { if (!told.add(token)) throw new Refusal(4, place); }

        Ship parse() throws Refusal {
            for (next(); !token.isEmpty(); next()) { line(); lines++; }
            ship.look();
            return ship;
        }

        void line() throws Refusal {
            int last = ship.holds.size() - 1;
            switch (token) {
                case "hold" -> {
                    most(ship.holds, 8);
                    Hold h = new Hold(); h.tons = number(1, 99); h.side = number(0, 2); h.arm = number(0, 18); h.water = number(0, h.tons);
                    ship.holds.add(h); sign();
                }
                case "door" -> {
                    most(ship.doors, 10);
                    Door d = new Door(); d.a = number(0, last); d.b = number(0, last);
                    if (d.a == d.b) throw new Refusal(3, place);
                    d.sill = number(0, 12); d.rate = number(1, 9); d.minutes = number(1, 9); d.open = true;
                    ship.doors.add(d);
                    next();
                    if (token.equals("shut")) { d.open = false; next(); }
                    if (!token.equals(";")) throw new Refusal(2, place);
                }
                case "hole" -> {
                    most(ship.holes, 4);
                    Hole h = new Hole(); h.hold = number(0, last); h.rate = number(1, 20); h.minutes = number(1, 20);
                    ship.holes.add(h); sign();
                }
                case "pump" -> {
                    most(ship.pumps, 3);
                    Pump p = new Pump(); p.rate = number(1, 9); p.hold = number(0, last);
                    ship.pumps.add(p); sign();
                }
                case "crews" -> { once(); ship.crews = number(1, 3); sign(); }
                case "sinks" -> { once(); ship.sinks = number(1, 800); sign(); }
                case "lists" -> { once(); ship.lists = number(1, 99); sign(); }
                case "trims" -> { once(); ship.trims = number(1, 99); sign(); }
                case "safe" -> { once(); ship.safe = number(0, last); sign(); }
                default -> throw new Refusal(2, place);
            }
        }
    }

    String tape = "";
    Ship ship = new Ship();
    int fault, torn;
    final Ship[] images = new Ship[2];
    final List<Integer> sounded = new ArrayList<>();
    final Object[] sheets = new Object[4];

    static boolean in(int v, int least, int most) { return v >= least && v <= most; }
    boolean isHold(int h) { return in(h, 0, ship.holds.size() - 1); }
    boolean isDoor(int d) { return in(d, 0, ship.doors.size() - 1); }
    boolean isHole(int h) { return in(h, 0, ship.holes.size() - 1); }
    boolean isPump(int p) { return in(p, 0, ship.pumps.size() - 1); }

    int feed(long v) {
        if (tape.length() + 8 > 400) return FULL;
        for (int i = 7; i >= 0; i--) tape += (char) (v >>> 8 * i & 255);
        return tape.length();
    }

    int end(int n) {
        if (!in(n, 0, tape.length())) return BAD;
        int had = tape.length();
        tape = tape.substring(0, n);
        return had;
    }

    int text() {
        Parser p = new Parser(tape);
        tape = "";
        try {
            ship = p.parse();
            images[0] = null;
            images[1] = null;
            fault = 0;
            return p.lines;
        } catch (Refusal r) {
            fault = r.fault;
            return -10 - r.place;
        }
    }

    int hold(int h, int what) {
        if (!isHold(h) || !in(what, 0, 5)) return BAD;
        Hold x = ship.holds.get(h);
        return new int[] {x.tons, x.side, x.arm, x.water, x.height(), x.valve ? 1 : 0}[what];
    }

    int door(int d, int what) {
        if (!isDoor(d) || !in(what, 0, 6)) return BAD;
        Door x = ship.doors.get(d);
        return new int[] {x.a, x.b, x.sill, x.rate, x.minutes, x.open ? 1 : 0, ship.onDoor(d) ? 1 : 0}[what];
    }

    int hole(int h, int what) {
        if (!isHole(h) || !in(what, 0, 4)) return BAD;
        Hole x = ship.holes.get(h);
        return new int[] {x.hold, x.rate, x.minutes, x.sail ? 1 : 0, ship.comesIn(x)}[what];
    }

    int pump(int p, int what) {
        if (!isPump(p) || !in(what, 0, 1)) return BAD;
        return what == 0 ? ship.pumps.get(p).rate : ship.pumps.get(p).hold;
    }

    int rule(int what) {
        return in(what, 0, 4) ? new int[] {ship.crews, ship.sinks, ship.lists, ship.trims, ship.safe}[what] : BAD;
    }

    int put(int h, int v) {
        if (!isHold(h) || !in(v, 0, ship.holds.get(h).tons)) return BAD;
        if (ship.why != 0) return STATE;
        int was = ship.holds.get(h).water;
        ship.holds.get(h).water = v;
        ship.look();
        return was;
    }

    int go(int n) {
        if (!in(n, 1, 120)) return BAD;
        for (int i = 0; i < n; i++) ship.pass(null);
        return ship.all();
    }

    int now(int what) {
        if (!in(what, 0, 7)) return BAD;
        return new int[] {ship.minute, ship.all(), ship.list(), ship.trim(), ship.why, ship.seen, ship.tally(1), ship.tally(3)}[what];
    }

    int keep(int i) {
        if (!in(i, 0, 1)) return BAD;
        int was = images[i] == null ? 0 : 1;
        images[i] = ship.copy();
        return was;
    }

    int back(int i) {
        if (!in(i, 0, 1)) return BAD;
        if (images[i] == null) return STATE;
        ship = images[i].copy();
        return ship.minute;
    }

    int order(int minute, int kind, int what, int where) {
        boolean fits = kind == 0 || kind == 1 ? isDoor(what)
            : kind == 2 ? isHole(what)
            : kind == 3 ? isPump(what) && (where == NONE || isHold(where))
            : kind == 4 && isHold(what) && in(where, 0, 1);
        if (!fits || !in(minute, ship.minute, 999)) return BAD;
        if (ship.orders.size() >= 12) return FULL;
        Order o = new Order();
        o.minute = minute; o.kind = kind; o.what = what; o.where = where;
        ship.orders.add(o);
        return ship.orders.size() - 1;
    }

    int given(int k, int what) {
        if (!in(k, 0, ship.orders.size() - 1) || !in(what, 0, 5)) return BAD;
        Order o = ship.orders.get(k);
        return new int[] {o.minute, o.kind, o.what, o.where, o.how, o.end}[what];
    }

    int recall() {
        int n = ship.tally(0);
        for (Order o : ship.orders) if (o.how == 0) o.how = 3;
        return n;
    }

    int run(int n, int what) {
        if (!in(n, 1, 120) || !in(what, 0, 6)) return BAD;
        int until = ship.copy().sail(n, null);
        Ship s = ship.copy();
        int greatest = s.list();
        for (int i = 0; i < n; i++) { s.pass(null); greatest = Math.max(greatest, s.list()); }
        return new int[] {until, s.why, s.all(), s.list(), s.trim(), s.tally(3) - ship.tally(3), greatest}[what];
    }

    int water(int n, int h) {
        if (!in(n, 1, 120) || !isHold(h)) return BAD;
        Ship s = ship.copy();
        for (int i = 0; i < n; i++) s.pass(null);
        return s.holds.get(h).water;
    }

    int free(int n) { return in(n, 1, 120) ? ship.bare().sail(n, null) : BAD; }

    static Order orderOf(int code) {
        Order o = new Order();
        o.kind = code < 20 ? 0 : 2;
        o.what = code % 20;
        return o;
    }

    static void rows(List<Integer> choices, int k, List<Integer> head, List<List<Integer>> out) {
        if (head.size() == k) { out.add(new ArrayList<>(head)); return; }
        for (int c : choices) {
            if (head.contains(c)) continue;
            head.add(c);
            rows(choices, k, head, out);
            head.remove(head.size() - 1);
        }
    }

    int best(int k, int n, int what) {
        if (!in(k, 0, 3) || !in(n, 1, 60) || !(in(what, 0, 1) || in(what, 10, 9 + k))) return BAD;
        List<Integer> choices = new ArrayList<>();
        for (int d = 0; d < ship.doors.size(); d++) if (ship.doors.get(d).open) choices.add(d);
        for (int h = 0; h < ship.holes.size(); h++) if (!ship.holes.get(h).sail) choices.add(20 + h);
        if (choices.size() < k) return STATE;
        List<List<Integer>> rows = new ArrayList<>();
        rows(choices, k, new ArrayList<>(), rows);
        long bestKey = Long.MAX_VALUE;
        int until = 0, water = 0;
        List<Integer> best = null;
        for (List<Integer> row : rows) {
            List<Order> queue = new ArrayList<>();
            for (int c : row) queue.add(orderOf(c));
            Ship s = ship.bare();
            int u = s.sail(n, queue);
            long key = -1000L * (u == NONE ? 500 : u) + s.all();
            if (key < bestKey) { bestKey = key; best = row; until = u; water = s.all(); }
        }
        return what == 0 ? until : what == 1 ? water : best.get(what - 10);
    }

    int shutAt(int d, int after, int n) {
        Ship s = ship.bare();
        Order o = orderOf(d);
        o.minute = s.minute + after;
        s.orders.add(o);
        return s.sail(n, null);
    }

    int latest(int d, int n) {
        if (!isDoor(d) || !in(n, 1, 60)) return BAD;
        if (!ship.doors.get(d).open || ship.onDoor(d)) return STATE;
        int found = NONE;
        for (int t = 0; t <= n; t++) if (shutAt(d, t, n) == NONE) found = t;
        return found;
    }

    int helps(int n) {
        if (!in(n, 1, 60)) return BAD;
        int without = free(n), bits = 0;
        for (int d = 0; d < ship.doors.size(); d++) {
            if (!ship.doors.get(d).open || ship.onDoor(d)) continue;
            int with = shutAt(d, 0, n);
            if ((with == NONE ? 999 : with) > (without == NONE ? 999 : without)) bits += 1 << d;
        }
        return bits;
    }

    int together(int holds) {
        if (!in(holds, 0, (1 << ship.holds.size()) - 1)) return BAD;
        return ship.floatsFull(holds) ? 1 : 0;
    }

    int beside(int h, int what) {
        if (!isHold(h) || !in(what, 0, 1)) return BAD;
        int bits = 0, each = 1;
        for (int a = 0; a < ship.holds.size(); a++) {
            for (int b = 0; b < ship.holds.size(); b++) {
                if (a == b) continue;
                boolean may = ship.floatsFull(1 << a | 1 << b);
                if (a == h && may) bits |= 1 << b;
                if (!may) each = 0;
            }
        }
        return what == 0 ? bits : each;
    }

    int most(int what) {
        if (!in(what, 0, 1)) return BAD;
        for (int size = ship.holds.size(); size >= 0; size--) {
            for (int set = 0; set < 1 << ship.holds.size(); set++) {
                if (Integer.bitCount(set) == size && ship.floatsFull(set)) return what == 0 ? size : set;
            }
        }
        return NONE;
    }

    int upright(int what) {
        if (!in(what, 0, 2)) return BAD;
        int best = NONE, list = 0, trim = 0, size = 0;
        for (int set = 0; set < 1 << ship.holds.size(); set++) {
            if (!ship.floatsFull(set)) continue;
            Ship s = ship.copy();
            for (int h = 0; h < s.holds.size(); h++) if ((set >> h & 1) == 1) s.holds.get(h).water = s.holds.get(h).tons;
            int c = best == NONE ? -1 : Integer.compare(s.list(), list);
            if (c == 0) c = Integer.compare(s.trim(), trim);
            if (c == 0) c = Integer.compare(Integer.bitCount(set), size);
            if (c < 0) { best = set; list = s.list(); trim = s.trim(); size = Integer.bitCount(set); }
        }
        return best == NONE || what == 0 ? best : what == 1 ? list : trim;
    }

    int men(int doors) {
        if (!in(doors, 0, (1 << ship.doors.size()) - 1)) return BAD;
        int bits = 0;
        for (int h = 0; h < ship.holds.size(); h++) {
            if (!ship.way(h, ship.safe, d -> ship.doors.get(d).open && (doors >> d & 1) == 0)) bits |= 1 << h;
        }
        return bits;
    }

    int dry(int h, int what) {
        if (!isHold(h) || !in(what, 0, 1)) return BAD;
        if (ship.holes.stream().anyMatch(x -> x.hold == h)) return NONE;
        for (int size = 0; size <= ship.doors.size(); size++) {
            for (int set = 0; set < 1 << ship.doors.size(); set++) {
                if (Integer.bitCount(set) != size) continue;
                final int shut = set;
                boolean onlyOpen = true;
                for (int d = 0; d < ship.doors.size(); d++) if ((set >> d & 1) == 1 && !ship.doors.get(d).open) onlyOpen = false;
                boolean wet = ship.holes.stream().anyMatch(x -> ship.way(x.hold, h, d -> ship.doors.get(d).open && (shut >> d & 1) == 0));
                if (onlyOpen && !wet) return what == 0 ? size : set;
            }
        }
        throw new IllegalStateException("all doors shut keep every hold dry");
    }

    int sound(int v) {
        if (!in(v, 0, 99)) return BAD;
        if (sounded.size() == 8) return FULL;
        sounded.add(v);
        return sounded.size();
    }

    int wipe() { int n = sounded.size(); sounded.clear(); return n; }

    int rates(int h) {
        if (!isHold(h)) return BAD;
        int tons = ship.holds.get(h).tons, bits = 0;
        if (sounded.stream().anyMatch(w -> w > tons)) return BAD;
        for (int rate = 1; rate <= 20; rate++) {
            Ship s = new Ship();
            Hold x = new Hold(); x.tons = tons; x.side = 1; x.arm = 9;
            Hole o = new Hole(); o.rate = rate;
            s.holds.add(x); s.holes.add(o);
            boolean fits = true;
            for (int i = 1; i < sounded.size(); i++) {
                x.water = sounded.get(i - 1);
                s.pass(null);
                fits &= x.water == sounded.get(i);
            }
            if (fits) bits |= 1 << rate;
        }
        return bits;
    }

    int sheet(int k, int lane, int n) {
        if (!in(k, 0, 3) || !in(lane, 0, 2) || n > 40) return BAD;
        try {
            sheets[k] = lane == 0 ? new byte[n] : lane == 1 ? new short[n] : new int[n];
            return 1;
        } catch (NegativeArraySizeException e) {
            return -14;
        }
    }

    int lay(int k, int i, int v) {
        if (!in(k, 0, 3)) return BAD;
        try {
            Object s = sheets[k];
            if (s instanceof byte[] b) b[i] = (byte) v;
            else if (s instanceof short[] b) b[i] = (short) v;
            else ((int[]) s)[i] = v;
            return 1;
        } catch (NullPointerException e) {
            return -11;
        } catch (ArrayIndexOutOfBoundsException e) {
            return -12;
        }
    }

    static int cell(Object sheet, int lane, int i) {
        return lane == 0 ? ((byte[]) sheet)[i] : lane == 1 ? ((short[]) sheet)[i] : ((int[]) sheet)[i];
    }

    int read(int k, int lane, int f, int n) {
        if (!in(k, 0, 3) || !in(lane, 0, 2) || !in(n, 0, 10)) return BAD;
        Ship before = ship.copy();
        int tear = 0, came = 0;
        try {
            for (; came < n; came++) {
                int[] c = new int[4];
                for (int j = 0; j < 4; j++) c[j] = cell(sheets[k], lane, f + 4 * came + j);
                long minute = (long) ship.minute + c[0];
                int answer = order((int) Math.max(-1, Math.min(minute, 1000)), c[1], c[2], c[3]);
                if (answer < 0) {
                    ship = before;
                    return answer == BAD ? -20 - came : answer;
                }
            }
        } catch (NullPointerException e) {
            tear = 1;
        } catch (ArrayIndexOutOfBoundsException e) {
            tear = 2;
        } catch (ClassCastException e) {
            tear = 3;
        }
        torn = tear;
        return came;
    }

    int count(int what) {
        if (!in(what, 0, 8)) return BAD;
        int cells = sheets[0] == null ? NONE : java.lang.reflect.Array.getLength(sheets[0]);
        int kept = (images[0] == null ? 0 : 1) + (images[1] == null ? 0 : 1);
        return new int[] {ship.holds.size(), ship.doors.size(), ship.holes.size(), ship.pumps.size(), ship.orders.size(),
            kept, sounded.size(), tape.length(), cells}[what];
    }
}
