import java.util.Arrays;

/**
 * A ship with water loose in her. The document's numbered promises are the methods of this
 * class, in its order; the classes inside hold the ship, her balance, the plans and the searches.
 */
public final class LooseWater {
    public static final int NONE = -1;

    private static final int UNTOLD = -1000000;
    private static final int NOT_FOUND = -2;
    private static final int FAR_OFF = 1000000000;

    private static final int MOST_LEAN = 60;
    /** From one side to the other: no walk to a rest is longer. */
    private static final int WHOLE_WALK = 120;
    private static final int ROUND_WALK = 3;
    private static final int MOST_ASIDE = 99999;
    private static final int MOST_ROUND = 9999;
    private static final int MOST_PLACES = 12;
    private static final int MOST_CARGO = 6;
    private static final int MOST_OPENINGS = 12;
    private static final int MOST_LOADS = 6;
    private static final int MOST_IMAGES = 4;
    private static final int MOST_PLANS = 6;
    private static final int MOST_BYTES = 400;
    private static final int MOST_CLAUSES = 12;
    private static final int MOST_DEPTH = 10;
    private static final int MOST_VALUES = 60;
    private static final int MOST_STAGES = 4;
    private static final int MOST_ORDERED = 6;
    private static final int STATE_SIZE = 3 * MOST_PLACES + MOST_CARGO + 5;

    // What a token of a plan's text is; those up to STIFF are values, and a place is its number.
    private static final int LEAN = 12;
    private static final int SIDE = 13;
    private static final int ROUND = 14;
    private static final int DRAFT = 15;
    private static final int PACE = 16;
    private static final int TOTAL = 17;
    private static final int STIFF = 18;
    private static final int PUMP = 19;
    private static final int FILL = 20;
    private static final int CROSS = 21;
    private static final int SHIFT = 22;
    private static final int IF = 23;
    private static final int AND = 24;
    private static final int OR = 25;
    private static final int NOT = 26;
    private static final int PLUS = 27;
    private static final int MINUS = 28;
    private static final int TIMES = 29;
    private static final int DIVIDED = 30;
    private static final int BELOW = 31;
    private static final int NOT_ABOVE = 32;
    private static final int SAME = 33;
    private static final int NOT_BELOW = 34;
    private static final int ABOVE = 35;
    private static final int SEMICOLON = 36;
    private static final int OPEN = 37;
    private static final int CLOSE = 38;
    private static final int NUMBER = 39;
    private static final int END = 40;
    private static final int STRANGE = 41;
    /** In a plan's code a number stands as itself and this, above all tokens. */
    private static final int LITERAL = 100;

    /** The words from LEAN on, in the order of their tokens, each WORD_WIDTH signs wide. */
    private static final String WORDS =
            "lean side rounddraftpace totalstiffpump fill crossshiftif   and  or   not  ";
    private static final int WORD_WIDTH = 5;

    private static final int WRONG_SIGN = 0;
    private static final int WRONG_NUMBER = 1;
    private static final int TOO_DEEP = 2;
    private static final int TOO_MANY_VALUES = 3;
    private static final int TOO_MANY_CLAUSES = 4;

    /** SIN of 0 to 90 degrees: 4000 * d * (180 - d) by (40500 - d * (180 - d)). */
    private static final int[] SINE = {
        0, 17, 35, 53, 70, 88, 105, 123, 140, 158, 175, 192, 209,
        226, 243, 260, 277, 293, 310, 326, 343, 359, 375, 391, 407, 423,
        438, 454, 469, 484, 500, 514, 529, 544, 558, 573, 587, 601, 614,
        628, 641, 655, 668, 680, 693, 705, 718, 730, 741, 753, 764, 775,
        786, 797, 807, 817, 827, 837, 846, 855, 864, 873, 881, 889, 897,
        905, 912, 919, 926, 932, 939, 944, 950, 955, 960, 965, 969, 974,
        977, 981, 984, 987, 990, 992, 994, 996, 997, 998, 999, 999, 1000
    };

    private final Ship vessel;
    private final Ship[] images;
    private final Plan[] plans;
    private int planned;
    private final int[] tape;
    private int taped;
    private final Reader reader;
    private final Balance balance;
    private final Rounds rounds;
    private final OrderSearch orders;
    private final BestSearch bests;
    private final int[] kept;

    // ---- Promise 1

    public LooseWater() {
        vessel = new Ship();
        images = new Ship[MOST_IMAGES];
        for (int i = 0; i < MOST_IMAGES; i++) {
            images[i] = new Ship();
        }
        plans = new Plan[MOST_PLANS];
        for (int i = 0; i < MOST_PLANS; i++) {
            plans[i] = new Plan();
        }
        tape = new int[MOST_BYTES];
        reader = new Reader();
        balance = new Balance();
        rounds = new Rounds();
        orders = new OrderSearch();
        bests = new BestSearch();
        kept = new int[STATE_SIZE];
    }

    // ---- Promises 2 to 9: what she is made of

    public boolean ship(int breadth, int weight, int height, int sinks) {
        if (!within(breadth, 10, 400) || !within(weight, 1, 99999)
                || !within(height, 1, 3000) || !within(sinks, 1, 999)) {
            return false;
        }
        vessel.begin(breadth, weight, height, sinks);
        return true;
    }

    public int form(int k, int n) {
        if (!vessel.begun || !within(k, 1, 12) || !within(n, 0, 3000)) {
            return NONE;
        }
        int was = vessel.arms[5 * k];
        vessel.shape(k, n);
        return was;
    }

    public int place(int bottom, int depth, int breadth, int length, int walls, int off) {
        if (!vessel.begun || vessel.places.size >= MOST_PLACES) {
            return NONE;
        }
        if (!within(bottom, 0, 2000) || !within(depth, 1, 999) || !within(breadth, 1, 400)
                || !within(length, 1, 2000) || !within(walls, 1, 9) || !within(off, -200, 200)) {
            return NONE;
        }
        int p = vessel.places.add(bottom, depth, breadth, length);
        vessel.places.off[p] = off;
        vessel.places.part(p, walls);
        return p;
    }

    public int water(int place, int n) {
        if (!hasPlace(place) || !within(n, 0, vessel.places.cap[place])) {
            return NONE;
        }
        int was = vessel.places.water[place];
        vessel.pour(place, n);
        return was;
    }

    public int walls(int place, int n) {
        if (!hasPlace(place) || !within(n, 1, 9)) {
            return NONE;
        }
        int was = vessel.places.walls[place];
        vessel.places.part(place, n);
        return was;
    }

    public int cargo(int weight, int height, int angle, int slide) {
        if (!vessel.begun || vessel.cargoes.size >= MOST_CARGO) {
            return NONE;
        }
        if (!within(weight, 1, 9999) || !within(height, 0, 3000)
                || !within(angle, 1, MOST_LEAN) || !within(slide, 0, 200)) {
            return NONE;
        }
        vessel.total += weight;
        return vessel.cargoes.add(weight, height, angle, slide);
    }

    public int door(int place, int side, int sill, int width) {
        return opened(vessel.doors, place, side, sill, width);
    }

    public int port(int place, int side, int sill, int width) {
        return opened(vessel.ports, place, side, sill, width);
    }

    private int opened(Openings openings, int place, int side, int sill, int width) {
        if (!hasPlace(place) || openings.size >= MOST_OPENINGS || !within(side, -1, 1)
                || !within(sill, 0, 3000) || !within(width, 1, 200)) {
            return NONE;
        }
        return openings.add(place, side, sill, width);
    }

    // ---- Promise 10

    public int sets(int what, int n) {
        if (!vessel.begun) {
            return UNTOLD;
        }
        int was = UNTOLD;
        if (what == 0 && within(n, -MOST_ASIDE, MOST_ASIDE)) {
            was = vessel.aside;
            vessel.aside = n;
        } else if (what == 1 && within(n, 0, 99)) {
            was = vessel.pace;
            vessel.pace = n;
        } else if (what == 2 && within(n, -MOST_LEAN, MOST_LEAN)) {
            was = vessel.lean;
            vessel.lean = n;
        }
        return was;
    }

    // ---- Promises 11 to 13: the tape and the plans

    public int feed(int a, int b, int c, int d, int e) {
        if (taped + 20 > MOST_BYTES) {
            return NONE;
        }
        append(a);
        append(b);
        append(c);
        append(d);
        append(e);
        return taped;
    }

    private void append(int four) {
        for (int shift = 24; shift >= 0 && taped < MOST_BYTES; shift -= 8) {
            tape[taped] = four >>> shift & 255;
            taped++;
        }
    }

    public int end(int n) {
        if (!within(n, 0, taped)) {
            return NONE;
        }
        taped = n;
        return n;
    }

    public int plan() {
        if (planned >= MOST_PLANS) {
            return NONE;
        }
        int fault = reader.read(tape, taped);
        taped = 0;
        if (fault != 0) {
            return -2 - fault;
        }
        plans[planned].copy(reader.draft);
        planned++;
        return planned - 1;
    }

    // ---- Promise 14

    public int run(int plan, int n) {
        if (!vessel.begun || !hasPlan(plan) || !within(n, 1, 60)
                || vessel.round + n > MOST_ROUND) {
            return UNTOLD;
        }
        goBy(vessel, plan, n);
        return vessel.lean;
    }

    private void goBy(Ship s, int plan, int n) {
        for (int i = 0; i < n; i++) {
            rounds.go(s, plans[plan]);
        }
    }

    // ---- Promises 15 to 24: what is told of her

    public int tells(int what) {
        if (!vessel.begun) {
            return UNTOLD;
        }
        switch (what) {
            case 0: return vessel.lean;
            case 1: return vessel.round;
            case 2: return vessel.aside;
            case 3: return vessel.pace;
            case 4: return vessel.total;
            case 5: return vessel.draft();
            case 10: return vessel.isOver() ? 1 : 0;
            default: break;
        }
        balance.take(vessel);
        switch (what) {
            case 6: return (int) balance.stiffness();
            case 7: return balance.beat();
            case 8: return balance.loll();
            case 9: return balance.range(vessel.lean);
            default: return UNTOLD;
        }
    }

    public long up() {
        if (!vessel.begun) {
            return NONE;
        }
        balance.take(vessel);
        return balance.upward;
    }

    public long turn(int lean) {
        if (!vessel.begun || !within(lean, -MOST_LEAN, MOST_LEAN)) {
            return 0;
        }
        balance.take(vessel);
        return balance.turning(lean);
    }

    public int rest(int lean) {
        if (!vessel.begun || !within(lean, -MOST_LEAN, MOST_LEAN)) {
            return -100;
        }
        balance.take(vessel);
        return balance.restFrom(lean, WHOLE_WALK);
    }

    public int lever(int d) {
        if (!vessel.begun || !within(d, 0, MOST_LEAN)) {
            return NONE;
        }
        return vessel.arms[d];
    }

    public int of(int place, int what) {
        if (!hasPlace(place)) {
            return -1000;
        }
        Places places = vessel.places;
        switch (what) {
            case 0: return places.water[place];
            case 1: return places.cap[place];
            case 2: return places.level[place];
            case 3: return places.walls[place];
            case 4: return places.off[place];
            case 5: return places.bottom[place];
            case 6: return places.depth[place];
            case 7: return places.breadth[place];
            case 8: return places.length[place];
            default: return -1000;
        }
    }

    public long flows(int place, int d) {
        if (!hasPlace(place) || !within(d, 0, MOST_LEAN)) {
            return NONE;
        }
        return Math.min(vessel.places.spread[place] * SINE[d] / 1000, vessel.places.bulk[place]);
    }

    public int inside(int place, int side) {
        if (!hasPlace(place) || !within(side, -1, 1)) {
            return UNTOLD;
        }
        return vessel.innerHeight(place, side);
    }

    public int outside(int side) {
        if (!vessel.begun || !within(side, -1, 1)) {
            return UNTOLD;
        }
        return vessel.outerHeight(side, vessel.lean);
    }

    public int slid(int cargo) {
        if (!vessel.begun || cargo < 0 || cargo >= vessel.cargoes.size) {
            return -2;
        }
        return vessel.cargoes.slid[cargo];
    }

    // ---- Promises 25 to 27: what it takes

    public int sinks(int place) {
        if (!hasPlace(place)) {
            return NONE;
        }
        int was = vessel.places.water[place];
        int found = NOT_FOUND;
        for (int h = 0; h <= 100 && found < 0; h++) {
            vessel.pour(place, vessel.places.hundredths(place, h));
            balance.take(vessel);
            if (balance.lolls()) {
                found = h;
            }
        }
        vessel.pour(place, was);
        return found;
    }

    public int parts(int place) {
        if (!hasPlace(place)) {
            return NONE;
        }
        int was = vessel.places.walls[place];
        int found = NOT_FOUND;
        for (int n = 1; n <= 9 && found < 0; n++) {
            vessel.places.part(place, n);
            balance.take(vessel);
            if (!balance.lolls()) {
                found = n;
            }
        }
        vessel.places.part(place, was);
        return found;
    }

    public int carried(int weight, int far, int what) {
        if (!vessel.begun || !within(weight, 1, 999) || !within(far, 1, 999)
                || !within(what, 0, 1)) {
            return -2000000;
        }
        balance.take(vessel);
        int now = balance.restFrom(vessel.lean, WHOLE_WALK);
        long carried = (long) weight * far * 10;
        balance.moment += carried;
        int then = balance.restFrom(vessel.lean, WHOLE_WALK);
        if (what == 0) {
            return then;
        }
        int apart = Math.min(Math.abs(then - now), 90);
        long against = balance.total * SINE[apart];
        return against <= 0 ? UNTOLD : (int) (carried * 1000 / against);
    }

    // ---- Promise 28

    public int order(int places, int bound, int k) {
        if (!vessel.begun || !within(bound, 1, 59) || places <= 0
                || places >> vessel.places.size != 0) {
            return NONE;
        }
        int size = Integer.bitCount(places);
        if (size > MOST_ORDERED || !within(k, 0, size - 1)) {
            return NONE;
        }
        return orders.find(vessel, places, bound) ? orders.row[k] : NOT_FOUND;
    }

    // ---- Promises 29 to 31: what would be

    public int ahead(int plan, int n, int what) {
        if (!vessel.begun || !hasPlan(plan) || !within(n, 0, 60) || !within(what, 0, 3)) {
            return UNTOLD;
        }
        vessel.keep(kept, 0);
        int first = vessel.isOver() ? 0 : NOT_FOUND;
        for (int i = 1; i <= n; i++) {
            rounds.go(vessel, plans[plan]);
            if (first < 0 && vessel.isOver()) {
                first = i;
            }
        }
        int answer = first;
        if (what == 0) {
            answer = vessel.lean;
        } else if (what == 1) {
            answer = vessel.isOver() ? 1 : 0;
        } else if (what == 2) {
            answer = vessel.places.allWater();
        }
        vessel.restore(kept, 0);
        return answer;
    }

    public int saved(int image, int plan, int other, int n) {
        if (!hasImage(image) || !hasPlan(plan) || !hasPlan(other) || !within(n, 0, 30)) {
            return NONE;
        }
        Ship past = images[image];
        past.keep(kept, 0);
        int found = NOT_FOUND;
        for (int k = n; k >= 0 && found < 0; k--) {
            goBy(past, plan, k);
            goBy(past, other, n - k);
            if (!past.isOver()) {
                found = k;
            }
            past.restore(kept, 0);
        }
        return found;
    }

    public int hoses(int plan, int place, int n) {
        if (!hasPlace(place) || !hasPlan(plan) || !within(n, 1, 20)) {
            return NONE;
        }
        vessel.keep(kept, 0);
        int found = NOT_FOUND;
        for (int more = 99; more >= 0 && found < 0; more--) {
            for (int i = 0; i < n && !vessel.isOver(); i++) {
                vessel.add(place, more);
                rounds.go(vessel, plans[plan]);
            }
            if (!vessel.isOver()) {
                found = more;
            }
            vessel.restore(kept, 0);
        }
        return found;
    }

    // ---- Promises 32 to 34: ice and loads

    public int ice(int weight, int height) {
        if (!vessel.begun || !within(weight, 1, 999) || !within(height, 0, 3000)) {
            return NONE;
        }
        balance.take(vessel);
        for (int times = 0; times <= 200; times++) {
            if (balance.lolls()) {
                return times;
            }
            balance.bear(weight, height);
        }
        return NOT_FOUND;
    }

    public int load(int weight, int height) {
        if (!vessel.begun || vessel.loads.size >= MOST_LOADS
                || !within(weight, 1, 9999) || !within(height, 0, 3000)) {
            return NONE;
        }
        return vessel.loads.add(weight, height);
    }

    public int night(int bound, int k) {
        if (!vessel.begun || !within(bound, -99999, 99999)
                || k < 0 || k >= vessel.loads.size) {
            return NONE;
        }
        int size = vessel.loads.size;
        long ways = finishable(bound, size);
        int aboard = 0;
        int last = NOT_FOUND;
        for (int step = 0; step <= k; step++) {
            last = NOT_FOUND;
            for (int i = 0; i < size && last < 0; i++) {
                if ((aboard >> i & 1) == 0 && (ways >> (aboard | 1 << i) & 1) == 1) {
                    last = i;
                }
            }
            if (last < 0) {
                return NOT_FOUND;
            }
            aboard |= 1 << last;
        }
        return last;
    }

    /** A bit for each set of loads that may be aboard and from which all others can follow. */
    private long finishable(int bound, int size) {
        int all = (1 << size) - 1;
        long ways = 0;
        for (int aboard = all; aboard > 0; aboard--) {
            boolean follows = aboard == all;
            for (int i = 0; i < size && !follows; i++) {
                follows = (aboard >> i & 1) == 0 && (ways >> (aboard | 1 << i) & 1) == 1;
            }
            if (follows && stiffWith(aboard) >= bound) {
                ways |= 1L << aboard;
            }
        }
        return ways;
    }

    private long stiffWith(int aboard) {
        balance.take(vessel);
        for (int i = 0; i < vessel.loads.size; i++) {
            if ((aboard >> i & 1) == 1) {
                balance.bear(vessel.loads.weight[i], vessel.loads.height[i]);
            }
        }
        return balance.stiffness();
    }

    // ---- Promises 35 and 36

    public int guess(int lean, int beat, int what) {
        if (!vessel.begun || !within(lean, -MOST_LEAN, MOST_LEAN) || !within(beat, 0, 9999)
                || !within(what, 0, 2)) {
            return NONE;
        }
        Places places = vessel.places;
        int least = FAR_OFF;
        int where = NOT_FOUND;
        int hundredth = NOT_FOUND;
        for (int p = 0; p < places.size; p++) {
            int was = places.water[p];
            for (int h = 0; h <= 100; h++) {
                vessel.pour(p, places.hundredths(p, h));
                int off = missed(lean, beat, least);
                if (off < least) {
                    least = off;
                    where = p;
                    hundredth = h;
                }
            }
            vessel.pour(p, was);
        }
        if (where < 0) {
            return NOT_FOUND;
        }
        return what == 0 ? where : what == 1 ? hundredth : least;
    }

    /** How far off she is as she is now; the long walk to her rest is spared if that can't be below least. */
    private int missed(int lean, int beat, int least) {
        balance.take(vessel);
        int off = Math.abs(Math.max(balance.beat(), 0) - beat);
        if (off >= least) {
            return off;
        }
        return off + 10 * Math.abs(balance.restFrom(0, WHOLE_WALK) - lean);
    }

    public int best(int n, int r, int k) {
        if (!vessel.begun || !within(n, 1, MOST_STAGES) || !within(r, 1, 10)
                || !within(k, -1, n - 1)) {
            return -3;
        }
        if (planned == 0) {
            return NOT_FOUND;
        }
        bests.begin(vessel, planned, n, r);
        bests.extend(vessel, plans, 0, 0);
        vessel.restore(bests.states, 0);
        return k < 0 ? bests.least : bests.row[k];
    }

    // ---- Promises 37 to 40

    public int slop(int place) {
        return hasPlace(place) ? vessel.places.sloshing(place) : NONE;
    }

    public int still(int place) {
        if (!hasPlace(place)) {
            return NONE;
        }
        int was = vessel.places.water[place];
        int least = FAR_OFF;
        int found = NOT_FOUND;
        for (int h = 1; h <= 100; h++) {
            vessel.pour(place, vessel.places.hundredths(place, h));
            balance.take(vessel);
            int sloshing = vessel.places.sloshing(place);
            int beat = balance.beat();
            int apart = Math.abs(sloshing - beat);
            if (sloshing >= 0 && beat >= 0 && apart < least) {
                least = apart;
                found = h;
            }
        }
        vessel.pour(place, was);
        return found;
    }

    public int floods(int side, int height) {
        if (!vessel.begun || (side != -1 && side != 1) || !within(height, 0, 3000)) {
            return NONE;
        }
        for (int d = 0; d <= MOST_LEAN; d++) {
            if (vessel.outerHeight(side, side * d) > height) {
                return d;
            }
        }
        return NOT_FOUND;
    }

    public int leaves(int place, int n) {
        if (!hasPlace(place) || !within(n, 0, 99999)) {
            return NONE;
        }
        int was = vessel.places.water[place];
        int found = NOT_FOUND;
        for (int times = 0; times <= 400 && found < 0; times++) {
            if (vessel.places.water[place] <= n) {
                found = times;
            } else {
                drain(place);
            }
        }
        vessel.pour(place, was);
        return found;
    }

    private void drain(int place) {
        for (int i = 0; i < vessel.ports.size; i++) {
            if (vessel.ports.place[i] == place) {
                vessel.letOut(i);
            }
        }
    }

    // ---- Promise 41

    public int count(int what) {
        if (what == 4) {
            return planned;
        }
        if (what == 5) {
            return taped;
        }
        if (!vessel.begun) {
            return NONE;
        }
        switch (what) {
            case 0: return vessel.places.size;
            case 1: return vessel.cargoes.size;
            case 2: return vessel.doors.size;
            case 3: return vessel.ports.size;
            case 6: return vessel.loads.size;
            default: return NONE;
        }
    }

    // ---- Promises 42 and 43

    public int image(int k) {
        if (!vessel.begun || !within(k, 0, MOST_IMAGES - 1)) {
            return NONE;
        }
        images[k].copy(vessel);
        return vessel.round;
    }

    public int back(int k) {
        if (!hasImage(k)) {
            return NONE;
        }
        vessel.copy(images[k]);
        return vessel.round;
    }

    // ---- Helpers

    private boolean hasPlace(int place) {
        return vessel.begun && place >= 0 && place < vessel.places.size;
    }

    private boolean hasPlan(int plan) {
        return plan >= 0 && plan < planned;
    }

    private boolean hasImage(int k) {
        return within(k, 0, MOST_IMAGES - 1) && images[k].begun;
    }

    private static boolean within(int n, int low, int high) {
        return n >= low && n <= high;
    }

    /** The greatest whole t with t * t not above n, for n up to some 64 millions. */
    private static int root(long n) {
        int t = 0;
        for (int bit = 4096; bit > 0; bit >>= 1) {
            long more = t + bit;
            if (more * more <= n) {
                t += bit;
            }
        }
        return t;
    }

    /** Downwards; what is divided by here is above 0 by the document's bounds, and looked at all the same. */
    private static long down(long n, long by) {
        if (by <= 0) {
            return 0;
        }
        return n % by < 0 ? n / by - 1 : n / by;
    }

    // ==== What the ship is made of

    private static final class Places {
        int size;
        final int[] bottom = new int[MOST_PLACES];
        final int[] depth = new int[MOST_PLACES];
        final int[] breadth = new int[MOST_PLACES];
        final int[] length = new int[MOST_PLACES];
        final int[] walls = new int[MOST_PLACES];
        final int[] off = new int[MOST_PLACES];
        final int[] cap = new int[MOST_PLACES];
        final int[] water = new int[MOST_PLACES];
        final int[] level = new int[MOST_PLACES];
        /** The part of RUN that hangs on form and walls alone. */
        final long[] spread = new long[MOST_PLACES];
        /** The other part of RUN: the water there is to run, or the room for it. */
        final int[] bulk = new int[MOST_PLACES];

        int add(int itsBottom, int itsDepth, int itsBreadth, int itsLength) {
            int p = size;
            bottom[p] = itsBottom;
            depth[p] = itsDepth;
            breadth[p] = itsBreadth;
            length[p] = itsLength;
            cap[p] = itsBreadth * itsLength * itsDepth / 10000;
            size++;
            return p;
        }

        void part(int p, int n) {
            long cube = (long) breadth[p] * breadth[p] * breadth[p];
            walls[p] = n;
            spread[p] = down(length[p] * cube, 1200L * n * n);
            hold(p, water[p]);
        }

        /** All that hangs on WATER is told anew here, so that it need not be at each look. */
        void hold(int p, int n) {
            water[p] = n;
            level[p] = (int) Math.min(depth[p], down(n * 10000L, breadth[p] * length[p]));
            bulk[p] = (int) down(5L * breadth[p] * Math.min(n, cap[p] - n), walls[p]);
        }

        int hundredths(int p, int h) {
            return cap[p] * h / 100;
        }

        int allWater() {
            int sum = 0;
            for (int p = 0; p < size; p++) {
                sum += water[p];
            }
            return sum;
        }

        /** SLOP, or NOT_FOUND. */
        int sloshing(int p) {
            return level[p] == 0 ? NOT_FOUND : root(down(41L * breadth[p] * breadth[p], level[p]));
        }

        void copy(Places from) {
            size = from.size;
            System.arraycopy(from.bottom, 0, bottom, 0, MOST_PLACES);
            System.arraycopy(from.depth, 0, depth, 0, MOST_PLACES);
            System.arraycopy(from.breadth, 0, breadth, 0, MOST_PLACES);
            System.arraycopy(from.length, 0, length, 0, MOST_PLACES);
            System.arraycopy(from.walls, 0, walls, 0, MOST_PLACES);
            System.arraycopy(from.off, 0, off, 0, MOST_PLACES);
            System.arraycopy(from.cap, 0, cap, 0, MOST_PLACES);
            System.arraycopy(from.water, 0, water, 0, MOST_PLACES);
            System.arraycopy(from.level, 0, level, 0, MOST_PLACES);
            System.arraycopy(from.spread, 0, spread, 0, MOST_PLACES);
            System.arraycopy(from.bulk, 0, bulk, 0, MOST_PLACES);
        }
    }

    private static final class Cargoes {
        int size;
        final int[] weight = new int[MOST_CARGO];
        final int[] height = new int[MOST_CARGO];
        final int[] angle = new int[MOST_CARGO];
        final int[] slide = new int[MOST_CARGO];
        final int[] slid = new int[MOST_CARGO];

        int add(int itsWeight, int itsHeight, int itsAngle, int itsSlide) {
            int c = size;
            weight[c] = itsWeight;
            height[c] = itsHeight;
            angle[c] = itsAngle;
            slide[c] = itsSlide;
            slid[c] = 0;
            size++;
            return c;
        }

        void giveWay(int lean) {
            for (int c = 0; c < size; c++) {
                if (Math.abs(lean) > angle[c]) {
                    slid[c] = lean > 0 ? 1 : -1;
                }
            }
        }

        void copy(Cargoes from) {
            size = from.size;
            System.arraycopy(from.weight, 0, weight, 0, MOST_CARGO);
            System.arraycopy(from.height, 0, height, 0, MOST_CARGO);
            System.arraycopy(from.angle, 0, angle, 0, MOST_CARGO);
            System.arraycopy(from.slide, 0, slide, 0, MOST_CARGO);
            System.arraycopy(from.slid, 0, slid, 0, MOST_CARGO);
        }
    }

    /** Her doors, or her ports. */
    private static final class Openings {
        int size;
        final int[] place = new int[MOST_OPENINGS];
        final int[] side = new int[MOST_OPENINGS];
        final int[] sill = new int[MOST_OPENINGS];
        final int[] width = new int[MOST_OPENINGS];

        int add(int itsPlace, int itsSide, int itsSill, int itsWidth) {
            int i = size;
            place[i] = itsPlace;
            side[i] = itsSide;
            sill[i] = itsSill;
            width[i] = itsWidth;
            size++;
            return i;
        }

        void copy(Openings from) {
            size = from.size;
            System.arraycopy(from.place, 0, place, 0, MOST_OPENINGS);
            System.arraycopy(from.side, 0, side, 0, MOST_OPENINGS);
            System.arraycopy(from.sill, 0, sill, 0, MOST_OPENINGS);
            System.arraycopy(from.width, 0, width, 0, MOST_OPENINGS);
        }
    }

    private static final class Loads {
        int size;
        final int[] weight = new int[MOST_LOADS];
        final int[] height = new int[MOST_LOADS];

        int add(int itsWeight, int itsHeight) {
            int i = size;
            weight[i] = itsWeight;
            height[i] = itsHeight;
            size++;
            return i;
        }

        void copy(Loads from) {
            size = from.size;
            System.arraycopy(from.weight, 0, weight, 0, MOST_LOADS);
            System.arraycopy(from.height, 0, height, 0, MOST_LOADS);
        }
    }

    private static final class Ship {
        boolean begun;
        int breadth;
        int weight;
        int height;
        int takes;
        int aside;
        int pace;
        int lean;
        int round;
        /** TOTAL, carried along with every change so that a draft costs no sum. */
        int total;
        /** LEVER of every degree. */
        final int[] arms = new int[MOST_LEAN + 1];
        final Places places = new Places();
        final Cargoes cargoes = new Cargoes();
        final Openings doors = new Openings();
        final Openings ports = new Openings();
        final Loads loads = new Loads();

        void begin(int itsBreadth, int itsWeight, int itsHeight, int itTakes) {
            begun = true;
            breadth = itsBreadth;
            weight = itsWeight;
            height = itsHeight;
            takes = itTakes;
            aside = 0;
            pace = 0;
            lean = 0;
            round = 0;
            total = itsWeight;
            Arrays.fill(arms, 0);
            places.size = 0;
            Arrays.fill(places.water, 0);
            cargoes.size = 0;
            doors.size = 0;
            ports.size = 0;
            loads.size = 0;
        }

        void shape(int k, int n) {
            arms[5 * k] = n;
            fillBetween(5 * k - 5);
            if (5 * k < MOST_LEAN) {
                fillBetween(5 * k);
            }
        }

        private void fillBetween(int low) {
            for (int r = 1; r < 5; r++) {
                arms[low + r] = (arms[low] * (5 - r) + arms[low + 5] * r) / 5;
            }
        }

        boolean isOver() {
            return Math.abs(lean) >= MOST_LEAN;
        }

        int draft() {
            return (int) down(total, takes);
        }

        void pour(int p, int n) {
            total += n - places.water[p];
            places.hold(p, n);
        }

        void add(int p, int n) {
            pour(p, Math.min(places.water[p] + n, places.cap[p]));
        }

        void remove(int p, int n) {
            pour(p, Math.max(places.water[p] - n, 0));
        }

        void cross(int from, int to, int n) {
            int room = places.cap[to] - places.water[to];
            int goes = Math.min(n, Math.min(places.water[from], room));
            pour(from, places.water[from] - goes);
            pour(to, places.water[to] + goes);
        }

        int outerHeight(int side, int leaning) {
            if (side == 0) {
                return draft() + pace * pace / 10;
            }
            int dips = breadth * 5 * SINE[Math.abs(leaning)] / 1000;
            return draft() + (leaning > 0 == side > 0 ? dips : -dips);
        }

        int innerHeight(int p, int side) {
            if (places.water[p] == 0) {
                return 0;
            }
            int level = places.level[p];
            if (side != 0) {
                long half = down(places.breadth[p] * 5, places.walls[p]);
                int dips = (int) (half * SINE[Math.abs(lean)] / 1000);
                level += lean > 0 == side > 0 ? dips : -dips;
            }
            return places.bottom[p] + Math.max(0, Math.min(level, places.depth[p]));
        }

        void letIn(int door) {
            int p = doors.place[door];
            int side = doors.side[door];
            int held = Math.max(doors.sill[door], innerHeight(p, side));
            int above = outerHeight(side, lean) - held;
            if (above > 0) {
                add(p, doors.width[door] * above / 100);
            }
        }

        void letOut(int port) {
            int p = ports.place[port];
            int side = ports.side[port];
            int held = Math.max(ports.sill[port], outerHeight(side, lean));
            int above = innerHeight(p, side) - held;
            if (above > 0) {
                remove(p, ports.width[port] * above / 100);
            }
        }

        /** All that rounds can change, and what hangs on it, goes into a row from a place of it on. */
        void keep(int[] row, int from) {
            System.arraycopy(places.water, 0, row, from, MOST_PLACES);
            System.arraycopy(places.level, 0, row, from + MOST_PLACES, MOST_PLACES);
            System.arraycopy(places.bulk, 0, row, from + 2 * MOST_PLACES, MOST_PLACES);
            System.arraycopy(cargoes.slid, 0, row, from + 3 * MOST_PLACES, MOST_CARGO);
            int next = from + 3 * MOST_PLACES + MOST_CARGO;
            row[next] = aside;
            row[next + 1] = pace;
            row[next + 2] = lean;
            row[next + 3] = round;
            row[next + 4] = total;
        }

        void restore(int[] row, int from) {
            System.arraycopy(row, from, places.water, 0, MOST_PLACES);
            System.arraycopy(row, from + MOST_PLACES, places.level, 0, MOST_PLACES);
            System.arraycopy(row, from + 2 * MOST_PLACES, places.bulk, 0, MOST_PLACES);
            System.arraycopy(row, from + 3 * MOST_PLACES, cargoes.slid, 0, MOST_CARGO);
            int next = from + 3 * MOST_PLACES + MOST_CARGO;
            aside = row[next];
            pace = row[next + 1];
            lean = row[next + 2];
            round = row[next + 3];
            total = row[next + 4];
        }

        void copy(Ship from) {
            begun = from.begun;
            breadth = from.breadth;
            weight = from.weight;
            height = from.height;
            takes = from.takes;
            aside = from.aside;
            pace = from.pace;
            lean = from.lean;
            round = from.round;
            total = from.total;
            System.arraycopy(from.arms, 0, arms, 0, MOST_LEAN + 1);
            places.copy(from.places);
            cargoes.copy(from.cargoes);
            doors.copy(from.doors);
            ports.copy(from.ports);
            loads.copy(from.loads);
        }
    }

    // ==== How she turns

    /** The sums of a ship that her turning hangs on: taken once, then asked at many degrees. */
    private static final class Balance {
        private int[] arms = new int[MOST_LEAN + 1];
        private int breadth;
        long total;
        long upward;
        /** What pulls her to the right while she is upright. */
        long moment;
        /** How many places have water that can run; these alone stand in the two rows. */
        private int loose;
        private final long[] spread = new long[MOST_PLACES];
        private final long[] bulk = new long[MOST_PLACES];

        void take(Ship s) {
            arms = s.arms;
            breadth = s.breadth;
            total = s.total;
            upward = (long) s.weight * s.height;
            moment = s.aside * 10L;
            loose = 0;
            Places places = s.places;
            for (int p = 0; p < places.size; p++) {
                long water = places.water[p];
                upward += water * (places.bottom[p] + places.level[p] / 2);
                moment += water * places.off[p] * 10;
                if (places.bulk[p] > 0) {
                    spread[loose] = places.spread[p];
                    bulk[loose] = places.bulk[p];
                    loose++;
                }
            }
            Cargoes cargoes = s.cargoes;
            for (int c = 0; c < cargoes.size; c++) {
                upward += (long) cargoes.weight[c] * cargoes.height[c];
                moment += 10L * cargoes.weight[c] * cargoes.slid[c] * cargoes.slide[c];
            }
        }

        /** A weight comes on top of what was taken. */
        void bear(int weight, int height) {
            total += weight;
            upward += (long) weight * height;
        }

        /** What turns her further over, were she even; d is 0 to 60. */
        private long upsetting(int d) {
            long sine = SINE[d];
            long sum = upward * sine / 1000 - total * arms[d];
            for (int i = 0; i < loose; i++) {
                sum += Math.min(spread[i] * sine / 1000, bulk[i]);
            }
            return sum;
        }

        long turning(int lean) {
            int d = Math.abs(lean);
            long pull = moment * SINE[90 - d] / 1000;
            if (lean == 0) {
                return pull;
            }
            return lean > 0 ? pull + upsetting(d) : pull - upsetting(d);
        }

        /** REST from a lean, or where she is on the way to it after so many degrees. */
        int restFrom(int lean, int most) {
            long turning = turning(lean);
            int way = turning > 0 ? 1 : -1;
            int at = lean;
            for (int i = 0; i < most && turning * way > 0 && at != way * MOST_LEAN; i++) {
                at += way;
                turning = turning(at);
            }
            return at;
        }

        long stiffness() {
            return down(-upsetting(5) * 1000, total * SINE[5]);
        }

        /** BEAT, or NONE. */
        int beat() {
            long stiff = stiffness();
            return stiff <= 0 ? NONE : root(down(64L * breadth * breadth, stiff));
        }

        /** LOLL is 0 just when one degree alone turns her back. */
        boolean lolls() {
            return upsetting(1) >= 0;
        }

        int loll() {
            long was = moment;
            moment = 0;
            int at = restFrom(1, WHOLE_WALK);
            moment = was;
            return at;
        }

        int range(int lean) {
            int behind = Math.max(restFrom(lean, WHOLE_WALK), 0);
            int first = MOST_LEAN + 1;
            for (int d = MOST_LEAN; d > behind; d--) {
                long turning = turning(d);
                if (turning < 0) {
                    break;
                }
                if (turning > 0) {
                    first = d;
                }
            }
            return first;
        }
    }

    // ==== Plans

    /** A plan: its clauses, and the code of their sums and tests, operands ahead of what joins them. */
    private static final class Plan {
        int clauses;
        final int[] verb = new int[MOST_CLAUSES];
        final int[] first = new int[MOST_CLAUSES];
        final int[] second = new int[MOST_CLAUSES];
        final int[] figure = new int[MOST_CLAUSES];
        /** Of each clause: where the code of its sum begins, that of its test, and where that ends. */
        final int[] sumFrom = new int[MOST_CLAUSES];
        final int[] testFrom = new int[MOST_CLAUSES];
        final int[] testTo = new int[MOST_CLAUSES];
        int coded;
        final int[] code = new int[MOST_BYTES];

        void copy(Plan from) {
            clauses = from.clauses;
            coded = from.coded;
            System.arraycopy(from.verb, 0, verb, 0, MOST_CLAUSES);
            System.arraycopy(from.first, 0, first, 0, MOST_CLAUSES);
            System.arraycopy(from.second, 0, second, 0, MOST_CLAUSES);
            System.arraycopy(from.figure, 0, figure, 0, MOST_CLAUSES);
            System.arraycopy(from.sumFrom, 0, sumFrom, 0, MOST_CLAUSES);
            System.arraycopy(from.testFrom, 0, testFrom, 0, MOST_CLAUSES);
            System.arraycopy(from.testTo, 0, testTo, 0, MOST_CLAUSES);
            System.arraycopy(from.code, 0, code, 0, from.coded);
        }
    }

    /** Reads a text: first into tokens, then by the rules of PLANS into a draft of a plan. */
    private static final class Reader {
        final Plan draft = new Plan();
        private int tokens;
        private final int[] kinds = new int[MOST_BYTES + 1];
        private final int[] starts = new int[MOST_BYTES + 1];
        private final int[] numbers = new int[MOST_BYTES + 1];
        private int at;
        private int counted;
        private int fault;

        /** 0, and the draft is the plan; or its fault. */
        int read(int[] text, int length) {
            scan(text, length);
            at = 0;
            counted = 0;
            fault = 0;
            draft.clauses = 0;
            draft.coded = 0;
            for (int i = 0; i <= MOST_CLAUSES && clause(i); i++) {
                draft.testFrom[i] = draft.coded;
                if (token() == IF) {
                    at++;
                    if (!test(0)) {
                        return fault;
                    }
                }
                draft.testTo[i] = draft.coded;
                if (token() == END) {
                    return 0;
                }
                if (token() != SEMICOLON) {
                    fail(WRONG_SIGN);
                    return fault;
                }
                at++;
            }
            return fault;
        }

        private void scan(int[] text, int length) {
            tokens = 0;
            int from = 0;
            for (int turns = 0; turns < MOST_BYTES && from < length; turns++) {
                int c = text[from];
                int to = from + 1;
                if (within(c, '0', '9')) {
                    to = rangeEnd(text, from, length, '0', '9');
                    put(NUMBER, from, numeral(text, from, to));
                } else if (within(c, 'a', 'z')) {
                    to = rangeEnd(text, from, length, 'a', 'z');
                    put(wordAt(text, from, to), from, 0);
                } else if (c != ' ') {
                    boolean equals = to < length && text[to] == '=';
                    int sign = signOf(c, equals);
                    put(sign, from, 0);
                    to += sign == NOT_ABOVE || sign == NOT_BELOW ? 1 : 0;
                }
                from = to;
            }
            put(END, length, 0);
        }

        private void put(int kind, int start, int number) {
            if (tokens <= MOST_BYTES) {
                kinds[tokens] = kind;
                starts[tokens] = start;
                numbers[tokens] = number;
                tokens++;
            }
        }

        private static int rangeEnd(int[] text, int from, int length, int low, int high) {
            int to = from;
            while (to < length && within(text[to], low, high)) {
                to++;
            }
            return to;
        }

        /** NONE if it has too many digits. */
        private static int numeral(int[] text, int from, int to) {
            if (to - from > 5) {
                return NONE;
            }
            int n = 0;
            for (int i = from; i < to; i++) {
                n = n * 10 + text[i] - '0';
            }
            return n;
        }

        private static int wordAt(int[] text, int from, int to) {
            if (to - from == 1 && text[from] <= 'l') {
                return text[from] - 'a';
            }
            for (int word = LEAN; word <= NOT; word++) {
                if (matches(text, from, to, (word - LEAN) * WORD_WIDTH)) {
                    return word;
                }
            }
            return STRANGE;
        }

        private static boolean matches(int[] text, int from, int to, int column) {
            if (to - from > WORD_WIDTH) {
                return false;
            }
            for (int i = 0; i < WORD_WIDTH; i++) {
                int c = from + i < to ? text[from + i] : ' ';
                if (WORDS.charAt(column + i) != c) {
                    return false;
                }
            }
            return true;
        }

        private static int signOf(int c, boolean equals) {
            switch (c) {
                case '+': return PLUS;
                case '-': return MINUS;
                case '*': return TIMES;
                case '/': return DIVIDED;
                case '<': return equals ? NOT_ABOVE : BELOW;
                case '=': return SAME;
                case '>': return equals ? NOT_BELOW : ABOVE;
                case ';': return SEMICOLON;
                case '[': return OPEN;
                case ']': return CLOSE;
                default: return STRANGE;
            }
        }

        private int token() {
            return at < tokens ? kinds[at] : END;
        }

        /** The first fault along the text ends the reading, so that no later one can hide it. */
        private boolean fail(int kind) {
            fault = 1 + 8 * (at < tokens ? starts[at] : 0) + kind;
            return false;
        }

        private void emit(int code) {
            if (draft.coded < MOST_BYTES) {
                draft.code[draft.coded] = code;
                draft.coded++;
            }
        }

        private boolean clause(int i) {
            int verb = token();
            if (verb != PACE && !within(verb, PUMP, SHIFT)) {
                return fail(WRONG_SIGN);
            }
            if (i >= MOST_CLAUSES) {
                return fail(TOO_MANY_CLAUSES);
            }
            at++;
            draft.clauses = i + 1;
            draft.verb[i] = verb;
            draft.sumFrom[i] = draft.coded;
            if (verb == SHIFT) {
                return sum();
            }
            if (verb == PACE) {
                return figure(i, 99);
            }
            return placeName(draft.first, i)
                    && (verb != CROSS || placeName(draft.second, i))
                    && figure(i, 9999);
        }

        private boolean placeName(int[] row, int i) {
            if (!within(token(), 0, MOST_PLACES - 1)) {
                return fail(WRONG_SIGN);
            }
            row[i] = token();
            at++;
            return true;
        }

        private boolean figure(int i, int most) {
            if (token() != NUMBER) {
                return fail(WRONG_SIGN);
            }
            if (!within(numbers[at], 0, most)) {
                return fail(WRONG_NUMBER);
            }
            draft.figure[i] = numbers[at];
            at++;
            return true;
        }

        /** Facts joined by and, these joined by or: what waits to be joined is told by two flags. */
        private boolean test(int depth) {
            boolean andWaits = false;
            boolean orWaits = false;
            for (int i = 0; i <= MOST_BYTES; i++) {
                if (!fact(depth)) {
                    return false;
                }
                if (andWaits) {
                    emit(AND);
                }
                andWaits = token() == AND;
                if (!andWaits) {
                    if (orWaits) {
                        emit(OR);
                    }
                    orWaits = token() == OR;
                    if (!orWaits) {
                        return true;
                    }
                }
                at++;
            }
            return false;
        }

        private boolean fact(int depth) {
            int opens = token();
            if (opens != NOT && opens != OPEN) {
                return comparison();
            }
            if (depth >= MOST_DEPTH) {
                return fail(TOO_DEEP);
            }
            at++;
            if (opens == NOT) {
                if (!fact(depth + 1)) {
                    return false;
                }
                emit(NOT);
                return true;
            }
            if (!test(depth + 1)) {
                return false;
            }
            if (token() != CLOSE) {
                return fail(WRONG_SIGN);
            }
            at++;
            return true;
        }

        private boolean comparison() {
            if (!sum()) {
                return false;
            }
            int sign = token();
            if (!within(sign, BELOW, ABOVE)) {
                return fail(WRONG_SIGN);
            }
            if (counted >= MOST_VALUES) {
                return fail(TOO_MANY_VALUES);
            }
            counted++;
            at++;
            if (!sum()) {
                return false;
            }
            emit(sign);
            return true;
        }

        /** Values joined by * and /, these joined by + and -: the two signs that wait stand here. */
        private boolean sum() {
            int inTerm = 0;
            int inSum = 0;
            for (int i = 0; i <= MOST_BYTES; i++) {
                if (!value()) {
                    return false;
                }
                if (inTerm != 0) {
                    emit(inTerm);
                }
                inTerm = within(token(), TIMES, DIVIDED) ? token() : 0;
                if (inTerm == 0) {
                    if (inSum != 0) {
                        emit(inSum);
                    }
                    inSum = within(token(), PLUS, MINUS) ? token() : 0;
                    if (inSum == 0) {
                        return true;
                    }
                }
                at++;
            }
            return false;
        }

        private boolean value() {
            boolean isNumber = token() == NUMBER;
            if (!isNumber && !within(token(), 0, STIFF)) {
                return fail(WRONG_SIGN);
            }
            if (isNumber && numbers[at] < 0) {
                return fail(WRONG_NUMBER);
            }
            if (counted >= MOST_VALUES) {
                return fail(TOO_MANY_VALUES);
            }
            counted++;
            emit(isNumber ? LITERAL + numbers[at] : token());
            at++;
            return true;
        }
    }

    // ==== Rounds

    private static final class Rounds {
        private final Balance balance = new Balance();
        private final long[] stack = new long[MOST_VALUES];

        /** One ROUND. */
        void go(Ship s, Plan plan) {
            if (!s.isOver()) {
                for (int i = 0; i < plan.clauses; i++) {
                    if (applies(s, plan, i)) {
                        act(s, plan, i);
                    }
                }
                for (int i = 0; i < s.doors.size; i++) {
                    s.letIn(i);
                }
                for (int i = 0; i < s.ports.size; i++) {
                    s.letOut(i);
                }
                s.cargoes.giveWay(s.lean);
                balance.take(s);
                s.lean = balance.restFrom(s.lean, ROUND_WALK);
            }
            s.round++;
        }

        private boolean applies(Ship s, Plan plan, int i) {
            int from = plan.testFrom[i];
            int to = plan.testTo[i];
            return from == to || compute(s, plan.code, from, to) != 0;
        }

        private void act(Ship s, Plan plan, int i) {
            int figure = plan.figure[i];
            int first = plan.first[i];
            int second = plan.second[i];
            boolean there = first < s.places.size;
            switch (plan.verb[i]) {
                case PACE:
                    s.pace = figure;
                    break;
                case SHIFT:
                    long sum = compute(s, plan.code, plan.sumFrom[i], plan.testFrom[i]);
                    s.aside = (int) Math.max(-MOST_ASIDE, Math.min(sum, MOST_ASIDE));
                    break;
                case PUMP:
                    if (there) {
                        s.remove(first, figure);
                    }
                    break;
                case FILL:
                    if (there) {
                        s.add(first, figure);
                    }
                    break;
                default:
                    if (there && second < s.places.size && second != first) {
                        s.cross(first, second, figure);
                    }
                    break;
            }
        }

        private long compute(Ship s, int[] code, int from, int to) {
            int top = 0;
            // She does not change while a sum is told, so that she is weighed once at most.
            boolean weighed = false;
            for (int i = from; i < to; i++) {
                int c = code[i];
                if (c > STIFF && c < LITERAL) {
                    if (c == NOT && top > 0) {
                        stack[top - 1] = 1 - stack[top - 1];
                    } else if (top > 1) {
                        top--;
                        stack[top - 1] = joined(c, stack[top - 1], stack[top]);
                    }
                } else if (top < MOST_VALUES) {
                    if (c == STIFF) {
                        if (!weighed) {
                            balance.take(s);
                            weighed = true;
                        }
                        stack[top] = balance.stiffness();
                    } else {
                        stack[top] = c >= LITERAL ? c - LITERAL : worth(s, c);
                    }
                    top++;
                }
            }
            return top > 0 ? stack[0] : 0;
        }

        private static long worth(Ship s, int word) {
            switch (word) {
                case LEAN: return Math.abs(s.lean);
                case SIDE: return s.lean > 0 ? 1 : s.lean < 0 ? -1 : 0;
                case ROUND: return s.round;
                case DRAFT: return s.draft();
                case PACE: return s.pace;
                case TOTAL: return s.total;
                default: return word >= 0 && word < s.places.size ? s.places.water[word] : 0;
            }
        }

        private static long joined(int sign, long a, long b) {
            switch (sign) {
                case PLUS: return a + b;
                case MINUS: return a - b;
                case TIMES: return a * b;
                case DIVIDED: return b == 0 ? 0 : a / b;
                case BELOW: return a < b ? 1 : 0;
                case NOT_ABOVE: return a <= b ? 1 : 0;
                case SAME: return a == b ? 1 : 0;
                case NOT_BELOW: return a >= b ? 1 : 0;
                case ABOVE: return a > b ? 1 : 0;
                case AND: return a & b;
                case OR: return a | b;
                default: return 0;
            }
        }
    }

    // ==== Searches

    /** In what order places can be filled. */
    private static final class OrderSearch {
        private static final int TOO_FAR = -100;
        private final Balance balance = new Balance();
        private final int[] members = new int[MOST_ORDERED];
        private int size;
        private int bound;
        final int[] row = new int[MOST_ORDERED];
        /** Of each set of filled members two longs: the leans with which it is known to lead nowhere. */
        private final long[] hopeless = new long[2 << MOST_ORDERED];

        boolean find(Ship s, int places, int itsBound) {
            Arrays.fill(hopeless, 0);
            bound = itsBound;
            size = 0;
            for (int p = 0; p < MOST_PLACES && size < MOST_ORDERED; p++) {
                if ((places >> p & 1) == 1) {
                    members[size] = p;
                    size++;
                }
            }
            return extend(s, 0, s.lean, 0);
        }

        private boolean extend(Ship s, int filled, int lean, int depth) {
            if (depth >= size) {
                return true;
            }
            int word = 2 * filled + (lean > 0 ? 1 : 0);
            long bit = 1L << Math.abs(lean);
            if ((hopeless[word] & bit) != 0) {
                return false;
            }
            for (int i = 0; i < size; i++) {
                if ((filled >> i & 1) == 0) {
                    int p = members[i];
                    int was = s.places.water[p];
                    row[depth] = p;
                    int next = fillUp(s, p, lean);
                    boolean found = next != TOO_FAR && extend(s, filled | 1 << i, next, depth + 1);
                    s.pour(p, was);
                    if (found) {
                        return true;
                    }
                }
            }
            hopeless[word] |= bit;
            return false;
        }

        private int fillUp(Ship s, int p, int lean) {
            int at = lean;
            int half = s.places.cap[p] / 2;
            if (s.places.water[p] <= half) {
                s.pour(p, half);
                balance.take(s);
                at = balance.restFrom(at, WHOLE_WALK);
                if (Math.abs(at) > bound) {
                    return TOO_FAR;
                }
            }
            s.pour(p, s.places.cap[p]);
            balance.take(s);
            at = balance.restFrom(at, WHOLE_WALK);
            return Math.abs(at) > bound ? TOO_FAR : at;
        }
    }

    /** By which row of plans she leans least. */
    private static final class BestSearch {
        private final Rounds rounds = new Rounds();
        private int planned;
        private int stages;
        private int length;
        private final int[] tried = new int[MOST_STAGES];
        final int[] row = new int[MOST_STAGES];
        int least;
        /** How she is ahead of each stage. */
        final int[] states = new int[MOST_STAGES * STATE_SIZE];

        void begin(Ship s, int itsPlanned, int itsStages, int itsLength) {
            planned = itsPlanned;
            stages = itsStages;
            length = itsLength;
            least = MOST_LEAN + 1;
            s.keep(states, 0);
        }

        private void extend(Ship s, Plan[] plans, int stage, int worst) {
            if (stage >= stages) {
                return;
            }
            for (int p = 0; p < planned; p++) {
                s.restore(states, stage * STATE_SIZE);
                int worse = worst;
                // A row that is no better already can't become better.
                for (int i = 0; i < length && worse < least; i++) {
                    rounds.go(s, plans[p]);
                    worse = Math.max(worse, Math.abs(s.lean));
                }
                if (worse < least) {
                    tried[stage] = p;
                    if (stage + 1 == stages) {
                        least = worse;
                        System.arraycopy(tried, 0, row, 0, MOST_STAGES);
                    } else {
                        s.keep(states, (stage + 1) * STATE_SIZE);
                        extend(s, plans, stage + 1, worse);
                    }
                }
            }
        }
    }
}
