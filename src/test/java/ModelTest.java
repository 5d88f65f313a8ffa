import java.util.ArrayList;
import java.util.Arrays;
import java.util.List;
import java.util.Random;

/**
 * Random runs of calls against a slow model that is written from the document alone: it copies
 * the whole ship for each "what if", walks every row of every search, and reads plans byte by byte.
 */
public final class ModelTest {

    // ---- the model of the ship

    static final class Place {
        int bottom, depth, breadth, length, walls, off, water;

        int cap() {
            return breadth * length * depth / 10000;
        }

        int level() {
            return Math.min(depth, (int) (water * 10000L / (breadth * length)));
        }

        int height() {
            return bottom + level() / 2;
        }

        long run(int d) {
            long a = (long) length * breadth * breadth * breadth / (1200L * walls * walls) * sin(d) / 1000;
            long b = 5L * breadth * Math.min(water, cap() - water) / walls;
            return Math.min(a, b);
        }

        Place copy() {
            Place p = new Place();
            p.bottom = bottom;
            p.depth = depth;
            p.breadth = breadth;
            p.length = length;
            p.walls = walls;
            p.off = off;
            p.water = water;
            return p;
        }
    }

    static long sin(int d) {
        return 4000L * d * (180 - d) / (40500 - d * (180 - d));
    }

    static long cos(int d) {
        return sin(90 - d);
    }

    static int sign(long n) {
        return n > 0 ? 1 : n < 0 ? -1 : 0;
    }

    static final class Sea {
        int breadth, weight, height, takes;
        int[] levers = new int[13];
        List<Place> places = new ArrayList<>();
        List<int[]> cargo = new ArrayList<>(); // weight, height, angle, slide, slid
        List<int[]> doors = new ArrayList<>(); // place, side, sill, width
        List<int[]> ports = new ArrayList<>();
        List<int[]> loads = new ArrayList<>();
        int aside, pace, lean, round;
        long moreWeight, moreUp; // what comes aboard in a "what if"

        Sea copy() {
            Sea s = new Sea();
            s.breadth = breadth;
            s.weight = weight;
            s.height = height;
            s.takes = takes;
            s.levers = levers.clone();
            for (Place p : places) s.places.add(p.copy());
            for (int[] c : cargo) s.cargo.add(c.clone());
            for (int[] c : doors) s.doors.add(c.clone());
            for (int[] c : ports) s.ports.add(c.clone());
            for (int[] c : loads) s.loads.add(c.clone());
            s.aside = aside;
            s.pace = pace;
            s.lean = lean;
            s.round = round;
            s.moreWeight = moreWeight;
            s.moreUp = moreUp;
            return s;
        }

        long lever(int d) {
            int k = d / 5;
            int r = d % 5;
            return r == 0 ? levers[k] : (levers[k] * (5 - r) + levers[k + 1] * r) / 5;
        }

        long total() {
            long t = weight + moreWeight;
            for (Place p : places) t += p.water;
            for (int[] c : cargo) t += c[0];
            return t;
        }

        long up() {
            long u = (long) weight * height + moreUp;
            for (Place p : places) u += (long) p.water * p.height();
            for (int[] c : cargo) u += (long) c[0] * c[1];
            return u;
        }

        long draft() {
            return total() / takes;
        }

        long runs(int d) {
            long r = 0;
            for (Place p : places) r += p.run(d);
            return r;
        }

        long turn(int lean) {
            int d = Math.abs(lean);
            long m = aside * 10L;
            for (Place p : places) m += (long) p.water * p.off * 10;
            for (int[] c : cargo) m += (long) c[0] * c[4] * c[3] * 10;
            return m * cos(d) / 1000 + sign(lean) * (runs(d) + up() * sin(d) / 1000 - total() * lever(d));
        }

        int rest(int from) {
            int way = sign(turn(from));
            int at = from;
            while (way > 0 && turn(at) > 0 && at < 60) at++;
            while (way < 0 && turn(at) < 0 && at > -60) at--;
            return at;
        }

        boolean over() {
            return lean == 60 || lean == -60;
        }

        long stiff() {
            long n = total() * lever(5) - up() * sin(5) / 1000 - runs(5);
            return Math.floorDiv(n * 1000, total() * sin(5));
        }

        int beat() {
            long s = stiff();
            if (s <= 0) return -1;
            int t = 0;
            while ((t + 1L) * (t + 1L) * s <= 64L * breadth * breadth) t++;
            return t;
        }

        int loll() {
            Sea s = copy();
            s.aside = 0;
            for (Place p : s.places) p.off = 0;
            for (int[] c : s.cargo) c[4] = 0;
            return s.rest(1);
        }

        int range() {
            int from = Math.max(rest(lean), 0);
            for (int d = from + 1; d <= 60; d++) {
                boolean good = turn(d) > 0;
                for (int e = d; e <= 60; e++) good &= turn(e) >= 0;
                if (good) return d;
            }
            return 61;
        }

        long outside(int side) {
            if (side == 0) return draft() + pace * pace / 10;
            long m = breadth * 5 * sin(Math.abs(lean)) / 1000;
            return draft() + side * sign(lean) * m;
        }

        long inside(int p, int side) {
            Place q = places.get(p);
            if (q.water == 0) return 0;
            long m = q.breadth * 5 / q.walls * sin(Math.abs(lean)) / 1000;
            long l = q.level() + side * sign(lean) * m;
            return Math.max(0, Math.min(q.depth, l)) + q.bottom;
        }

        void ports(int only) {
            for (int[] o : ports) {
                if (only >= 0 && o[0] != only) continue;
                Place p = places.get(o[0]);
                long h = Math.max(o[2], outside(o[1]));
                long in = inside(o[0], o[1]);
                if (in > h) p.water = (int) Math.max(0, p.water - o[3] * (in - h) / 100);
            }
        }

        void round(Text plan) {
            round++;
            if (over()) return;
            round--;
            for (Clause c : plan.clauses) c.act(this);
            for (int[] o : doors) {
                Place p = places.get(o[0]);
                long h = Math.max(o[2], inside(o[0], o[1]));
                long out = outside(o[1]);
                if (out > h) p.water = (int) Math.min(p.cap(), p.water + o[3] * (out - h) / 100);
            }
            ports(-1);
            for (int[] c : cargo) if (Math.abs(lean) > c[2]) c[4] = sign(lean);
            int r = rest(lean);
            lean = Math.max(lean - 3, Math.min(lean + 3, r));
            round++;
        }

        int water() {
            int w = 0;
            for (Place p : places) w += p.water;
            return w;
        }
    }

    // ---- the model of plans: read byte by byte, kept as trees

    static final class Fault extends RuntimeException {
        private static final long serialVersionUID = 1;
        final int code;

        Fault(int place, int kind) {
            super("", null, false, false);
            code = 1 + 8 * place + kind;
        }
    }

    interface Sum {
        long of(Sea s);
    }

    interface Test {
        boolean of(Sea s);
    }

    static final class Clause {
        String verb;
        int a, b, n;
        Sum sum;
        Test test;

        void act(Sea s) {
            if (test != null && !test.of(s)) return;
            if (verb.equals("pace")) {
                s.pace = n;
            } else if (verb.equals("shift")) {
                s.aside = (int) Math.max(-99999, Math.min(99999, sum.of(s)));
            } else if (a < s.places.size()) {
                Place p = s.places.get(a);
                if (verb.equals("pump")) p.water = Math.max(0, p.water - n);
                if (verb.equals("fill")) p.water = Math.min(p.cap(), p.water + n);
                if (verb.equals("cross") && b < s.places.size() && a != b) {
                    Place q = s.places.get(b);
                    for (int i = 0; i < n && p.water > 0 && q.water < q.cap(); i++) {
                        p.water--;
                        q.water++;
                    }
                }
            }
        }
    }

    static final class Text {
        final List<Clause> clauses = new ArrayList<>();
        final int[] bytes;
        int at = 0;
        int counted = 0;
        static final List<String> NAMES =
                Arrays.asList("lean", "side", "round", "draft", "pace", "total", "stiff");

        Text(int[] bytes) {
            this.bytes = bytes;
            clause();
            while (peek() == ';') {
                at++;
                clause();
            }
            if (peek() != -1) throw new Fault(at, 0);
        }

        int peek() {
            while (at < bytes.length && bytes[at] == 32) at++;
            return at < bytes.length ? bytes[at] : -1;
        }

        String lookWord() {
            peek();
            StringBuilder b = new StringBuilder();
            for (int i = at; i < bytes.length && bytes[i] >= 'a' && bytes[i] <= 'z'; i++) b.append((char) bytes[i]);
            return b.toString();
        }

        void clause() {
            String w = lookWord();
            if (!Arrays.asList("pump", "fill", "cross", "pace", "shift").contains(w)) throw new Fault(at, 0);
            if (clauses.size() == 12) throw new Fault(at, 4);
            at += w.length();
            Clause c = new Clause();
            c.verb = w;
            if (w.equals("shift")) {
                c.sum = sum();
            } else if (w.equals("pace")) {
                c.n = number(99);
            } else {
                c.a = place();
                if (w.equals("cross")) c.b = place();
                c.n = number(9999);
            }
            if (lookWord().equals("if")) {
                at += 2;
                c.test = test(0);
            }
            clauses.add(c);
        }

        int place() {
            String w = lookWord();
            if (w.length() != 1 || w.charAt(0) > 'l') throw new Fault(at, 0);
            at++;
            return w.charAt(0) - 'a';
        }

        int number(int most) {
            int c = peek();
            if (c < '0' || c > '9') throw new Fault(at, 0);
            int i = at;
            long n = 0;
            while (i < bytes.length && bytes[i] >= '0' && bytes[i] <= '9') {
                if (i - at >= 5) throw new Fault(at, 1);
                n = n * 10 + bytes[i++] - '0';
            }
            if (n > most) throw new Fault(at, 1);
            at = i;
            return (int) n;
        }

        Test test(int depth) {
            Test a = part(depth);
            while (lookWord().equals("or")) {
                at += 2;
                Test l = a;
                Test r = part(depth);
                a = s -> l.of(s) || r.of(s);
            }
            return a;
        }

        Test part(int depth) {
            Test a = fact(depth);
            while (lookWord().equals("and")) {
                at += 3;
                Test l = a;
                Test r = fact(depth);
                a = s -> l.of(s) && r.of(s);
            }
            return a;
        }

        Test fact(int depth) {
            if (lookWord().equals("not")) {
                if (depth == 10) throw new Fault(at, 2);
                at += 3;
                Test t = fact(depth + 1);
                return s -> !t.of(s);
            }
            if (peek() == '[') {
                if (depth == 10) throw new Fault(at, 2);
                at++;
                Test t = test(depth + 1);
                if (peek() != ']') throw new Fault(at, 0);
                at++;
                return t;
            }
            Sum a = sum();
            int c = peek();
            if (c != '<' && c != '=' && c != '>') throw new Fault(at, 0);
            if (++counted > 60) throw new Fault(at, 3);
            at++;
            boolean same = c == '=';
            if (c != '=' && at < bytes.length && bytes[at] == '=') {
                same = true;
                at++;
            }
            boolean orSame = same;
            Sum b = sum();
            return s -> {
                int d = Long.compare(a.of(s), b.of(s));
                return d == 0 ? orSame : d < 0 ? c == '<' : c == '>';
            };
        }

        Sum sum() {
            Sum a = term();
            while (peek() == '+' || peek() == '-') {
                boolean plus = peek() == '+';
                at++;
                Sum l = a;
                Sum r = term();
                a = s -> plus ? l.of(s) + r.of(s) : l.of(s) - r.of(s);
            }
            return a;
        }

        Sum term() {
            Sum a = value();
            while (peek() == '*' || peek() == '/') {
                boolean times = peek() == '*';
                at++;
                Sum l = a;
                Sum r = value();
                a = s -> {
                    long y = r.of(s);
                    return times ? l.of(s) * y : y == 0 ? 0 : l.of(s) / y;
                };
            }
            return a;
        }

        Sum value() {
            int c = peek();
            if (c >= '0' && c <= '9') {
                int from = at;
                int n = number(99999);
                if (++counted > 60) throw new Fault(from, 3);
                return s -> n;
            }
            String w = lookWord();
            boolean letter = w.length() == 1 && w.charAt(0) <= 'l';
            if (!letter && !NAMES.contains(w)) throw new Fault(at, 0);
            if (++counted > 60) throw new Fault(at, 3);
            at += w.length();
            if (letter) {
                int p = w.charAt(0) - 'a';
                return s -> p < s.places.size() ? s.places.get(p).water : 0;
            }
            switch (w) {
                case "lean": return s -> Math.abs(s.lean);
                case "side": return s -> sign(s.lean);
                case "round": return s -> s.round;
                case "draft": return s -> s.draft();
                case "pace": return s -> s.pace;
                case "total": return s -> s.total();
                default: return s -> s.stiff();
            }
        }
    }

    // ---- the model of the face

    static final class Model {
        Sea sea;
        Sea[] images = new Sea[4];
        List<Text> plans = new ArrayList<>();
        List<Integer> tape = new ArrayList<>();

        static boolean in(int n, int a, int b) {
            return a <= n && n <= b;
        }

        boolean place(int p) {
            return sea != null && p >= 0 && p < sea.places.size();
        }

        boolean plan(int p) {
            return p >= 0 && p < plans.size();
        }

        long call(String name, int[] x) {
            switch (name) {
                case "ship": return ship(x) ? 1 : 0;
                case "form": return form(x[0], x[1]);
                case "place": return newPlace(x);
                case "water": {
                    if (!place(x[0]) || !in(x[1], 0, sea.places.get(x[0]).cap())) return -1;
                    int was = sea.places.get(x[0]).water;
                    sea.places.get(x[0]).water = x[1];
                    return was;
                }
                case "walls": {
                    if (!place(x[0]) || !in(x[1], 1, 9)) return -1;
                    int was = sea.places.get(x[0]).walls;
                    sea.places.get(x[0]).walls = x[1];
                    return was;
                }
                case "cargo":
                    if (sea == null || sea.cargo.size() == 6 || !in(x[0], 1, 9999) || !in(x[1], 0, 3000)
                            || !in(x[2], 1, 60) || !in(x[3], 0, 200)) return -1;
                    sea.cargo.add(new int[] {x[0], x[1], x[2], x[3], 0});
                    return sea.cargo.size() - 1;
                case "door": return opening(sea == null ? null : sea.doors, x);
                case "port": return opening(sea == null ? null : sea.ports, x);
                case "sets": return sets(x[0], x[1]);
                case "feed":
                    if (tape.size() > 380) return -1;
                    for (int n : x) for (int i = 3; i >= 0; i--) tape.add((n >> (8 * i)) & 255);
                    return tape.size();
                case "end":
                    if (x[0] < 0 || x[0] > tape.size()) return -1;
                    tape = new ArrayList<>(tape.subList(0, x[0]));
                    return x[0];
                case "plan": return newPlan();
                case "run":
                    if (sea == null || !plan(x[0]) || !in(x[1], 1, 60) || sea.round + x[1] > 9999) return -1000000;
                    for (int i = 0; i < x[1]; i++) sea.round(plans.get(x[0]));
                    return sea.lean;
                case "tells": return tells(x[0]);
                case "up": return sea == null ? -1 : sea.up();
                case "turn": return sea == null || !in(x[0], -60, 60) ? 0 : sea.turn(x[0]);
                case "rest": return sea == null || !in(x[0], -60, 60) ? -100 : sea.rest(x[0]);
                case "lever": return sea == null || !in(x[0], 0, 60) ? -1 : sea.lever(x[0]);
                case "of": return of(x[0], x[1]);
                case "flows": return !place(x[0]) || !in(x[1], 0, 60) ? -1 : sea.places.get(x[0]).run(x[1]);
                case "inside": return !place(x[0]) || !in(x[1], -1, 1) ? -1000000 : sea.inside(x[0], x[1]);
                case "outside": return sea == null || !in(x[0], -1, 1) ? -1000000 : sea.outside(x[0]);
                case "slid": return sea == null || x[0] < 0 || x[0] >= sea.cargo.size() ? -2 : sea.cargo.get(x[0])[4];
                default: return call2(name, x);
            }
        }

        long call2(String name, int[] x) {
            switch (name) {
                case "sinks": {
                    if (!place(x[0])) return -1;
                    for (int h = 0; h <= 100; h++) if (with(x[0], h).loll() != 0) return h;
                    return -2;
                }
                case "parts": {
                    if (!place(x[0])) return -1;
                    for (int w = 1; w <= 9; w++) {
                        Sea s = sea.copy();
                        s.places.get(x[0]).walls = w;
                        if (s.loll() == 0) return w;
                    }
                    return -2;
                }
                case "carried": {
                    if (sea == null || !in(x[0], 1, 999) || !in(x[1], 1, 999) || !in(x[2], 0, 1)) return -2000000;
                    Sea s = sea.copy();
                    s.aside += x[0] * x[1];
                    int then = s.rest(s.lean);
                    int far = Math.min(90, Math.abs(then - sea.rest(sea.lean)));
                    if (x[2] == 0) return then;
                    return far == 0 ? -1000000 : (long) x[0] * x[1] * 10 * 1000 / (sea.total() * sin(far));
                }
                case "order": return order(x[0], x[1], x[2]);
                case "ahead": return ahead(x[0], x[1], x[2]);
                case "saved": return saved(x);
                case "hoses": return hoses(x[0], x[1], x[2]);
                case "ice": {
                    if (sea == null || !in(x[0], 1, 999) || !in(x[1], 0, 3000)) return -1;
                    for (int i = 0; i <= 200; i++) {
                        Sea s = sea.copy();
                        s.moreWeight = (long) i * x[0];
                        s.moreUp = (long) i * x[0] * x[1];
                        if (s.loll() != 0) return i;
                    }
                    return -2;
                }
                case "load":
                    if (sea == null || sea.loads.size() == 6 || !in(x[0], 1, 9999) || !in(x[1], 0, 3000)) return -1;
                    sea.loads.add(x.clone());
                    return sea.loads.size() - 1;
                case "night": return night(x[0], x[1]);
                case "guess": return guess(x[0], x[1], x[2]);
                case "best": return best(x[0], x[1], x[2]);
                case "slop": return place(x[0]) ? slop(sea.places.get(x[0])) : -1;
                case "still": return still(x[0]);
                case "floods": {
                    if (sea == null || (x[0] != 1 && x[0] != -1) || !in(x[1], 0, 3000)) return -1;
                    Sea s = sea.copy();
                    for (int d = 0; d <= 60; d++) {
                        s.lean = x[0] * d;
                        if (s.outside(x[0]) > x[1]) return d;
                    }
                    return -2;
                }
                case "leaves": {
                    if (!place(x[0]) || !in(x[1], 0, 99999)) return -1;
                    Sea s = sea.copy();
                    for (int i = 0; i <= 400; i++) {
                        if (s.places.get(x[0]).water <= x[1]) return i;
                        s.ports(x[0]);
                    }
                    return -2;
                }
                case "count": return count(x[0]);
                case "image":
                    if (sea == null || !in(x[0], 0, 3)) return -1;
                    images[x[0]] = sea.copy();
                    return sea.round;
                case "back":
                    if (!in(x[0], 0, 3) || images[x[0]] == null) return -1;
                    sea = images[x[0]].copy();
                    return sea.round;
                default: throw new IllegalStateException(name);
            }
        }

        Sea with(int p, int h) {
            Sea s = sea.copy();
            s.places.get(p).water = s.places.get(p).cap() * h / 100;
            return s;
        }

        boolean ship(int[] x) {
            if (!in(x[0], 10, 400) || !in(x[1], 1, 99999) || !in(x[2], 1, 3000) || !in(x[3], 1, 999)) return false;
            sea = new Sea();
            sea.breadth = x[0];
            sea.weight = x[1];
            sea.height = x[2];
            sea.takes = x[3];
            return true;
        }

        int form(int k, int n) {
            if (sea == null || !in(k, 1, 12) || !in(n, 0, 3000)) return -1;
            int was = sea.levers[k];
            sea.levers[k] = n;
            return was;
        }

        int newPlace(int[] x) {
            if (sea == null || sea.places.size() == 12 || !in(x[0], 0, 2000) || !in(x[1], 1, 999)
                    || !in(x[2], 1, 400) || !in(x[3], 1, 2000) || !in(x[4], 1, 9) || !in(x[5], -200, 200)) return -1;
            Place p = new Place();
            p.bottom = x[0];
            p.depth = x[1];
            p.breadth = x[2];
            p.length = x[3];
            p.walls = x[4];
            p.off = x[5];
            sea.places.add(p);
            return sea.places.size() - 1;
        }

        int opening(List<int[]> to, int[] x) {
            if (to == null || to.size() == 12 || !place(x[0]) || !in(x[1], -1, 1) || !in(x[2], 0, 3000)
                    || !in(x[3], 1, 200)) return -1;
            to.add(x.clone());
            return to.size() - 1;
        }

        int sets(int what, int n) {
            if (sea == null) return -1000000;
            int was;
            if (what == 0 && in(n, -99999, 99999)) {
                was = sea.aside;
                sea.aside = n;
                return was;
            }
            if (what == 1 && in(n, 0, 99)) {
                was = sea.pace;
                sea.pace = n;
                return was;
            }
            if (what == 2 && in(n, -60, 60)) {
                was = sea.lean;
                sea.lean = n;
                return was;
            }
            return -1000000;
        }

        int newPlan() {
            if (plans.size() == 6) return -1;
            int[] bytes = new int[tape.size()];
            for (int i = 0; i < bytes.length; i++) bytes[i] = tape.get(i);
            tape.clear();
            try {
                plans.add(new Text(bytes));
            } catch (Fault f) {
                return -2 - f.code;
            }
            return plans.size() - 1;
        }

        long tells(int what) {
            if (sea == null) return -1000000;
            switch (what) {
                case 0: return sea.lean;
                case 1: return sea.round;
                case 2: return sea.aside;
                case 3: return sea.pace;
                case 4: return sea.total();
                case 5: return sea.draft();
                case 6: return sea.stiff();
                case 7: return sea.beat();
                case 8: return sea.loll();
                case 9: return sea.range();
                case 10: return sea.over() ? 1 : 0;
                default: return -1000000;
            }
        }

        int of(int place, int what) {
            if (!place(place) || !in(what, 0, 8)) return -1000;
            Place p = sea.places.get(place);
            return new int[] {p.water, p.cap(), p.level(), p.walls, p.off, p.bottom, p.depth, p.breadth, p.length}[what];
        }

        int order(int set, int bound, int k) {
            if (sea == null || !in(bound, 1, 59) || set <= 0) return -1;
            List<Integer> members = new ArrayList<>();
            for (int i = 0; i < 31; i++) if ((set >> i & 1) == 1) members.add(i);
            if (members.size() > 6 || members.get(members.size() - 1) >= sea.places.size()) return -1;
            if (!in(k, 0, members.size() - 1)) return -1;
            for (int[] row : rows(members.size())) {
                Sea s = sea.copy();
                int lean = s.lean;
                boolean good = true;
                for (int i : row) {
                    Place p = s.places.get(members.get(i));
                    if (p.water <= p.cap() / 2) {
                        p.water = p.cap() / 2;
                        lean = s.rest(lean);
                        good = good && Math.abs(lean) <= bound;
                    }
                    p.water = p.cap();
                    lean = s.rest(lean);
                    good = good && Math.abs(lean) <= bound;
                    if (!good) break;
                }
                if (good) return members.get(row[k]);
            }
            return -2;
        }

        int ahead(int plan, int n, int what) {
            if (sea == null || !plan(plan) || !in(n, 0, 60) || !in(what, 0, 3)) return -1000000;
            Sea s = sea.copy();
            int first = s.over() ? 0 : -2;
            for (int i = 1; i <= n; i++) {
                s.round(plans.get(plan));
                if (first == -2 && s.over()) first = i;
            }
            return what == 0 ? s.lean : what == 1 ? (s.over() ? 1 : 0) : what == 2 ? s.water() : first;
        }

        int saved(int[] x) {
            if (!in(x[0], 0, 3) || images[x[0]] == null || !plan(x[1]) || !plan(x[2]) || !in(x[3], 0, 30)) return -1;
            int best = -2;
            for (int k = 0; k <= x[3]; k++) {
                Sea s = images[x[0]].copy();
                for (int i = 0; i < x[3]; i++) s.round(plans.get(i < k ? x[1] : x[2]));
                if (!s.over()) best = k;
            }
            return best;
        }

        int hoses(int plan, int place, int n) {
            if (!place(place) || !plan(plan) || !in(n, 1, 20)) return -1;
            int best = -2;
            for (int h = 0; h <= 99; h++) {
                Sea s = sea.copy();
                for (int i = 0; i < n; i++) {
                    Place p = s.places.get(place);
                    p.water = Math.min(p.cap(), p.water + h);
                    s.round(plans.get(plan));
                }
                if (!s.over()) best = h;
            }
            return best;
        }

        int night(int bound, int k) {
            if (sea == null || !in(bound, -99999, 99999) || k < 0 || k >= sea.loads.size()) return -1;
            for (int[] row : rows(sea.loads.size())) {
                Sea s = sea.copy();
                boolean good = true;
                for (int i : row) {
                    s.moreWeight += s.loads.get(i)[0];
                    s.moreUp += (long) s.loads.get(i)[0] * s.loads.get(i)[1];
                    good &= s.stiff() >= bound;
                }
                if (good) return row[k];
            }
            return -2;
        }

        int guess(int lean, int beat, int what) {
            if (sea == null || !in(lean, -60, 60) || !in(beat, 0, 9999) || !in(what, 0, 2)) return -1;
            int[] best = {-2, -2, -2};
            for (int p = 0; p < sea.places.size(); p++) {
                for (int h = 0; h <= 100; h++) {
                    Sea s = with(p, h);
                    int off = Math.abs(s.rest(0) - lean) * 10 + Math.abs(Math.max(0, s.beat()) - beat);
                    if (best[0] < 0 || off < best[2]) best = new int[] {p, h, off};
                }
            }
            return best[what];
        }

        int best(int n, int r, int k) {
            if (sea == null || !in(n, 1, 4) || !in(r, 1, 10) || !in(k, -1, n - 1)) return -3;
            int m = plans.size();
            if (m == 0) return -2;
            int all = (int) Math.round(Math.pow(m, n));
            int least = 1000;
            int[] best = null;
            for (int code = 0; code < all; code++) {
                int[] row = new int[n];
                int rest = code;
                for (int i = n - 1; i >= 0; i--) {
                    row[i] = rest % m;
                    rest /= m;
                }
                Sea s = sea.copy();
                int worst = 0;
                for (int i = 0; i < n; i++) {
                    for (int j = 0; j < r; j++) {
                        s.round(plans.get(row[i]));
                        worst = Math.max(worst, Math.abs(s.lean));
                    }
                }
                if (worst < least) {
                    least = worst;
                    best = row;
                }
            }
            return k < 0 ? least : best[k];
        }

        static int slop(Place p) {
            if (p.level() == 0) return -2;
            int t = 0;
            while ((t + 1L) * (t + 1L) * p.level() <= 41L * p.breadth * p.breadth) t++;
            return t;
        }

        int still(int place) {
            if (!place(place)) return -1;
            int least = Integer.MAX_VALUE;
            int best = -2;
            for (int h = 1; h <= 100; h++) {
                Sea s = with(place, h);
                int a = slop(s.places.get(place));
                int b = s.beat();
                if (a < 0 || b < 0 || Math.abs(a - b) >= least) continue;
                least = Math.abs(a - b);
                best = h;
            }
            return best;
        }

        int count(int what) {
            if (what == 4) return plans.size();
            if (what == 5) return tape.size();
            if (sea == null) return -1;
            switch (what) {
                case 0: return sea.places.size();
                case 1: return sea.cargo.size();
                case 2: return sea.doors.size();
                case 3: return sea.ports.size();
                case 6: return sea.loads.size();
                default: return -1;
            }
        }

        static List<int[]> rows(int n) {
            List<int[]> out = new ArrayList<>();
            rows(n, new int[n], 0, 0, out);
            return out;
        }

        static void rows(int n, int[] row, int depth, int used, List<int[]> out) {
            if (depth == n) out.add(row.clone());
            for (int i = 0; i < n; i++) {
                if ((used >> i & 1) == 0) {
                    row[depth] = i;
                    rows(n, row, depth + 1, used | 1 << i, out);
                }
            }
        }
    }

    // ---- the class under test, by name

    static long real(LooseWater w, String name, int[] x) {
        switch (name) {
            case "ship": return w.ship(x[0], x[1], x[2], x[3]) ? 1 : 0;
            case "form": return w.form(x[0], x[1]);
            case "place": return w.place(x[0], x[1], x[2], x[3], x[4], x[5]);
            case "water": return w.water(x[0], x[1]);
            case "walls": return w.walls(x[0], x[1]);
            case "cargo": return w.cargo(x[0], x[1], x[2], x[3]);
            case "door": return w.door(x[0], x[1], x[2], x[3]);
            case "port": return w.port(x[0], x[1], x[2], x[3]);
            case "sets": return w.sets(x[0], x[1]);
            case "feed": return w.feed(x[0], x[1], x[2], x[3], x[4]);
            case "end": return w.end(x[0]);
            case "plan": return w.plan();
            case "run": return w.run(x[0], x[1]);
            case "tells": return w.tells(x[0]);
            case "up": return w.up();
            case "turn": return w.turn(x[0]);
            case "rest": return w.rest(x[0]);
            case "lever": return w.lever(x[0]);
            case "of": return w.of(x[0], x[1]);
            case "flows": return w.flows(x[0], x[1]);
            case "inside": return w.inside(x[0], x[1]);
            case "outside": return w.outside(x[0]);
            case "slid": return w.slid(x[0]);
            case "sinks": return w.sinks(x[0]);
            case "parts": return w.parts(x[0]);
            case "carried": return w.carried(x[0], x[1], x[2]);
            case "order": return w.order(x[0], x[1], x[2]);
            case "ahead": return w.ahead(x[0], x[1], x[2]);
            case "saved": return w.saved(x[0], x[1], x[2], x[3]);
            case "hoses": return w.hoses(x[0], x[1], x[2]);
            case "ice": return w.ice(x[0], x[1]);
            case "load": return w.load(x[0], x[1]);
            case "night": return w.night(x[0], x[1]);
            case "guess": return w.guess(x[0], x[1], x[2]);
            case "best": return w.best(x[0], x[1], x[2]);
            case "slop": return w.slop(x[0]);
            case "still": return w.still(x[0]);
            case "floods": return w.floods(x[0], x[1]);
            case "leaves": return w.leaves(x[0], x[1]);
            case "count": return w.count(x[0]);
            case "image": return w.image(x[0]);
            case "back": return w.back(x[0]);
            default: throw new IllegalStateException(name);
        }
    }

    // ---- random runs

    static final class Runner {
        final Random r;
        final Model model = new Model();
        final LooseWater real = new LooseWater();
        final StringBuilder history = new StringBuilder();
        final java.util.TreeMap<String, Integer> seen;
        int calls = 0;
        boolean wrong = false;

        Runner(long seed, java.util.TreeMap<String, Integer> seen) {
            r = new Random(seed);
            this.seen = seen;
        }

        int to(int low, int high) {
            return low + r.nextInt(high - low + 1);
        }

        /** Mostly within, at times on or beyond an edge. */
        int near(int low, int high) {
            int c = r.nextInt(60);
            if (c == 0) return low - 1;
            if (c == 1) return high + 1;
            if (c == 2) return low;
            if (c == 3) return high;
            if (c == 4) return r.nextInt();
            return to(low, high);
        }

        long say(String name, int... x) {
            if (wrong || calls >= 512) return 0;
            calls++;
            long want = model.call(name, x);
            long got;
            try {
                got = real(real, name, x);
            } catch (RuntimeException e) {
                got = Long.MIN_VALUE;
                history.append(e).append('\n');
            }
            history.append(name).append(Arrays.toString(x)).append(" = ").append(want).append('\n');
            String key = name + (want < 0 ? " " + (want < -3 && name.equals("plan") ? "fault " + (-3 - want) % 8 : want < -9999 ? "untold" : "-") : " +");
            seen.merge(key, 1, Integer::sum);
            if (got != want) {
                wrong = true;
                System.out.println(history);
                System.out.println(name + Arrays.toString(x) + " answered " + got + ", the model says " + want);
            }
            return want;
        }

        void text(String t) {
            if (t.length() > 400) t = t.substring(0, 400);
            say("end", 0);
            for (int i = 0; i < t.length(); i += 20) {
                int[] x = new int[5];
                for (int j = 0; j < 20; j++) {
                    int c = i + j < t.length() ? t.charAt(i + j) : r.nextInt(256);
                    x[j / 4] = x[j / 4] << 8 | c;
                }
                say("feed", x);
            }
            say("end", t.length());
            say("plan");
        }

        String blank() {
            int c = r.nextInt(8);
            return c == 0 ? "  " : c < 3 ? "" : " ";
        }

        String letter() {
            int n = Math.max(1, model.sea == null ? 3 : model.sea.places.size());
            return "" + (char) ('a' + (r.nextInt(12) == 0 ? r.nextInt(12) : r.nextInt(n)));
        }

        String val() {
            switch (r.nextInt(8)) {
                case 0: case 1: return letter();
                case 2: return "" + r.nextInt(100000);
                case 3: case 4: return "" + r.nextInt(30);
                default: return Text.NAMES.get(r.nextInt(Text.NAMES.size()));
            }
        }

        String sum(int most) {
            StringBuilder b = new StringBuilder(val());
            int n = r.nextInt(most);
            for (int i = 0; i < n; i++) b.append(blank()).append("+-*/".charAt(r.nextInt(4))).append(blank()).append(val());
            return b.toString();
        }

        String fact(int depth) {
            int c = r.nextInt(10);
            if (c == 0 && depth < 9) return "not " + fact(depth + 1);
            if (c == 1 && depth < 9) return "[" + blank() + test(depth + 1) + blank() + "]";
            String[] signs = {"<", "<=", "=", ">=", ">"};
            return sum(3) + blank() + signs[r.nextInt(5)] + blank() + sum(3);
        }

        String test(int depth) {
            StringBuilder b = new StringBuilder(fact(depth));
            while (r.nextInt(3) == 0) b.append(r.nextBoolean() ? " and " : " or ").append(fact(depth));
            return b.toString();
        }

        String clause() {
            String t;
            switch (r.nextInt(5)) {
                case 0: t = "pump " + letter() + blank() + r.nextInt(60); break;
                case 1: t = "fill " + letter() + blank() + r.nextInt(r.nextInt(5) == 0 ? 10000 : 60); break;
                case 2: t = "cross " + letter() + " " + letter() + blank() + r.nextInt(200); break;
                case 3: t = "pace " + r.nextInt(100); break;
                default: t = "shift " + sum(4); break;
            }
            return r.nextInt(3) == 0 ? t : t + " if " + test(0);
        }

        String plan() {
            StringBuilder b = new StringBuilder(clause());
            int n = r.nextInt(5);
            if (r.nextInt(40) == 0) n = 13;
            for (int i = 0; i < n; i++) b.append(blank()).append(";").append(blank()).append(clause());
            String t = b.toString();
            if (r.nextInt(3) == 0) t = spoil(t);
            return t;
        }

        String spoil(String t) {
            int at = r.nextInt(t.length() + 1);
            String[] bits = {"not ", "[", "]", "[[[[[[[[[[[", "not not not not not not not not not not not ", "1", "99999", "000000",
                "m", "z", "A", "<", "=", ">", "+", "-", "*", "/", ";", " ", "if ", " and ", " or ", "pace 1;", "" + (char) r.nextInt(256),
                "+1+1+1+1+1+1+1+1+1+1+1+1+1+1+1+1+1+1+1+1+1+1+1+1+1+1+1+1+1+1+1+1+1+1+1+1+1+1+1+1+1+1+1+1+1+1+1+1+1+1+1+1+1+1+1+1+1+1"};
            switch (r.nextInt(3)) {
                case 0: return t.substring(0, at);
                case 1: return t.substring(0, at) + t.substring(Math.min(t.length(), at + 1 + r.nextInt(3)));
                default: return t.substring(0, at) + bits[r.nextInt(bits.length)] + t.substring(at);
            }
        }

        /** All that the bounds allow, and a little beyond: sums that an int could not hold. */
        void buildWide() {
            say("ship", near(10, 400), near(1, r.nextBoolean() ? 99999 : 20), near(1, 3000), near(1, r.nextBoolean() ? 999 : 9));
            int step = to(0, 250);
            for (int k = 1; k <= 12; k++) say("form", k, near(Math.max(0, step * k - 40), Math.min(3000, step * k + 40)));
            int n = to(0, 12);
            for (int i = 0; i < n; i++) {
                say("place", near(0, 2000), near(1, 999), near(1, 400), near(1, 2000), near(1, 9), near(-200, 200));
                int p = model.sea == null ? -1 : model.sea.places.size() - 1;
                if (model.place(p)) say("water", p, r.nextInt(model.sea.places.get(p).cap() + 1));
            }
            n = to(0, 6);
            for (int i = 0; i < n; i++) {
                say("cargo", near(1, 9999), near(0, 3000), near(1, 60), near(0, 200));
                say("load", near(1, 9999), near(0, 3000));
            }
            n = to(0, 12);
            for (int i = 0; i < n; i++) {
                say("door", aPlace(), near(-1, 1), near(0, 3000), near(1, 200));
                say("port", aPlace(), near(-1, 1), near(0, 3000), near(1, 200));
            }
            say("sets", 0, near(-99999, 99999));
            say("sets", 1, near(0, 99));
            say("sets", 2, near(-60, 60));
        }

        void build() {
            int breadth = near(30, 200);
            int weight = to(300, 5000);
            int height = to(200, 900);
            say("ship", breadth, weight, height, near(2, 30));
            int at = 0;
            int slope = height * 88 / 1000;
            for (int k = 1; k <= 12; k++) {
                at = Math.max(0, Math.min(3000, at + to(slope - slope / 3 - 5, slope + slope / 2 + 5) - (k > 6 ? slope / 2 : 0)));
                say("form", k, at);
            }
            int n = to(0, 5);
            for (int i = 0; i < n; i++) place();
        }

        void place() {
            say("place", near(0, 800), near(20, 300), near(10, 150), near(10, 250), near(1, 5), r.nextBoolean() ? 0 : near(-60, 60));
            int p = model.sea == null ? 0 : model.sea.places.size() - 1;
            if (p >= 0 && model.place(p)) say("water", p, r.nextInt(model.sea.places.get(p).cap() + 1));
        }

        int aPlace() {
            return near(0, Math.max(0, model.sea == null ? 0 : model.sea.places.size() - 1));
        }

        int aPlan() {
            return near(0, Math.max(0, model.plans.size() - 1));
        }

        void change() {
            switch (r.nextInt(20)) {
                case 0: place(); break;
                case 1: case 2: case 3: {
                    int p = aPlace();
                    say("water", p, near(0, model.place(p) ? model.sea.places.get(p).cap() : 10));
                    break;
                }
                case 4: say("walls", aPlace(), near(1, 9)); break;
                case 5: say("cargo", near(1, 500), near(0, 1500), near(1, 40), near(0, 100)); break;
                case 6: case 7: say("door", aPlace(), near(-1, 1), near(0, 400), near(1, 200)); break;
                case 8: case 9: say("port", aPlace(), near(-1, 1), near(0, 800), near(1, 200)); break;
                case 10: say("sets", 0, near(-20000, 20000)); break;
                case 11: say("sets", near(0, 2), near(-40, 99)); break;
                case 12: say("sets", 2, near(-30, 30)); break;
                case 13: say("sets", 0, near(-500, 500)); break;
                case 14: say("load", near(1, 900), near(0, 3000)); break;
                case 15: say("form", near(1, 12), near(0, 900)); break;
                case 16: say("image", near(0, r.nextInt(4))); break;
                case 17: say("back", near(0, r.nextInt(4))); break;
                case 18: say("feed", r.nextInt(), r.nextInt(), r.nextInt(), r.nextInt(), r.nextInt()); break;
                default: if (r.nextInt(6) == 0) build(); else say("end", near(0, Math.max(1, model.tape.size()))); break;
            }
        }

        void ask() {
            int places = model.sea == null ? 1 : Math.max(1, model.sea.places.size());
            switch (r.nextInt(28)) {
                case 0: case 1: say("run", aPlan(), near(1, r.nextBoolean() ? 4 : 60)); break;
                case 2: say("tells", near(0, 10)); break;
                case 3: say("up"); break;
                case 4: say("turn", near(-60, 60)); break;
                case 5: say("rest", near(-60, 60)); break;
                case 6: say("lever", near(0, 60)); break;
                case 7: say("of", aPlace(), near(0, 8)); break;
                case 8: say("flows", aPlace(), near(0, 60)); break;
                case 9: say("inside", aPlace(), near(-1, 1)); break;
                case 10: say("outside", near(-1, 1)); break;
                case 11: say("slid", near(0, 2)); break;
                case 12: say("sinks", aPlace()); break;
                case 13: say("parts", aPlace()); break;
                case 14: say("carried", near(1, 999), near(1, r.nextBoolean() ? 99 : 999), near(0, 1)); break;
                case 15: order(places); break;
                case 16: say("ahead", aPlan(), near(0, 60), near(0, 3)); break;
                case 17: say("saved", near(0, r.nextInt(4)), aPlan(), aPlan(), near(0, 30)); break;
                case 18: say("hoses", aPlan(), aPlace(), near(1, 20)); break;
                case 19: say("ice", near(1, 200), near(0, 3000)); break;
                case 20: {
                    boolean near = model.sea != null && r.nextBoolean();
                    int loads = model.sea == null ? 0 : model.sea.loads.size();
                    say("night", near ? (int) model.sea.stiff() + to(-60, 40) : near(-300, 500), near(0, Math.max(0, loads - 1)));
                    break;
                }
                case 21: say("guess", near(-60, 60), near(0, 500), near(0, 2)); break;
                case 22: {
                    int n = near(1, model.plans.size() > 3 ? 2 : 3);
                    say("best", n, near(1, 10), to(-1, Math.max(0, Math.min(n, 5)))); break;
                }
                case 23: say("slop", aPlace()); break;
                case 24: say("still", aPlace()); break;
                case 25: say("floods", near(-1, 1), near(0, r.nextBoolean() ? 400 : 3000)); break;
                case 26: say("leaves", aPlace(), near(0, 300)); break;
                default: say("count", near(0, 6)); break;
            }
        }

        /** The bound is often just where she comes to rest with one place full, or one beside it. */
        void order(int places) {
            // places that near() put beyond their bounds are refused, so that there may be none at all
            int set = near(1, (1 << Math.max(1, Math.min(places, 7))) - 1);
            int bound = near(1, 59);
            int p = aPlace();
            if (model.place(p) && r.nextBoolean()) {
                Sea s = model.with(p, r.nextBoolean() ? 100 : 50);
                bound = Math.max(1, Math.abs(s.rest(s.lean)) - r.nextInt(2));
            }
            say("order", set, bound, near(0, Math.max(1, Integer.bitCount(set)) - 1));
        }

        /** Many orders of many places on one ship that lolls to both sides. */
        boolean goOrders() {
            say("ship", 100, to(500, 2000), to(300, 600), 10);
            int h = model.sea.height;
            for (int k = 1; k <= 12; k++) say("form", k, Math.max(0, h * 88 * k / 1000 + to(-4, 6) * k));
            int n = to(4, 8);
            for (int i = 0; i < n; i++) {
                say("place", near(0, 900), near(50, 300), near(50, 120), near(50, 150), near(1, 2), near(-30, 30));
                if (r.nextInt(3) == 0) say("water", i, r.nextInt(60));
            }
            for (int i = 0; i < 60; i++) {
                if (r.nextInt(4) == 0) say("sets", 2, to(-30, 30));
                if (r.nextInt(4) == 0) say("sets", 0, to(-3000, 3000));
                order(model.sea.places.size());
            }
            tellAll();
            return !wrong;
        }

        void tellAll() {
            for (int i = -1; i <= 11; i++) say("tells", i);
            say("up");
            for (int i = 0; i < 12; i++) say("of", i, 0);
            for (int i = 0; i < 6; i++) say("slid", i);
            for (int i = 0; i <= 7; i++) say("count", i);
        }

        boolean go() {
            if (r.nextInt(10) == 0) for (int i = 0; i < 20; i++) ask();
            if (r.nextInt(3) == 0) buildWide(); else build();
            int steps = to(20, 110);
            for (int i = 0; i < steps; i++) {
                if (r.nextInt(6) == 0 && model.plans.size() < 6 || r.nextInt(60) == 0) text(plan());
                else if (r.nextInt(3) == 0) change();
                else ask();
            }
            tellAll();
            return !wrong;
        }
    }

    public static void main(String[] args) {
        int runs = args.length > 0 ? Integer.parseInt(args[0]) : 400;
        long first = args.length > 1 ? Long.parseLong(args[1]) : 1;
        java.util.TreeMap<String, Integer> seen = new java.util.TreeMap<>();
        for (int i = 0; i < runs; i++) {
            Runner run = new Runner(first + i, seen);
            if (!(i % 6 == 5 ? run.goOrders() : run.go())) {
                System.out.println("seed " + (first + i) + " parts from the model");
                System.exit(1);
            }
        }
        if (args.length > 2) System.out.println(seen);
        System.out.println(runs + " random runs answer as the model does");
    }
}
