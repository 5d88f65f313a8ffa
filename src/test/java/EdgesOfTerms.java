/** The edges that the Terms ahead of II name: the ship, levers, places, cargo, sums, TURN, REST. */
public final class EdgesOfTerms {

    // ---- the ship and her levers

    private static void ship() {
        Edge.test(1, "An object is used for at most 512 calls after it has been made", () -> {
            LooseWater x = Edge.leaf();
            for (int i = 0; i < 255; i++) {
                x.sets(0, i);
                x.tells(2);
            }
            Edge.due("the 512th call", x.tells(2), 254);
        });
        Edge.test(2, "A SHIP is begun with a breadth (10 to 400), a weight (1 to 99999), its height (1 to 3000), how much she takes to sink by 1 (1 to 999).", () -> {
            int[] low = {10, 1, 1, 1};
            int[] high = {400, 99999, 3000, 999};
            for (int i = 0; i < 4; i++) {
                int[] a = {50, 50, 50, 50};
                a[i] = low[i];
                Edge.due("least of " + i, begin(a), true);
                a[i] = low[i] - 1;
                Edge.due("too small " + i, begin(a), false);
                a[i] = high[i];
                Edge.due("most of " + i, begin(a), true);
                a[i] = high[i] + 1;
                Edge.due("too large " + i, begin(a), false);
                a[i] = Edge.LEAST;
                Edge.due("least int " + i, begin(a), false);
                a[i] = Edge.MOST;
                Edge.due("most int " + i, begin(a), false);
            }
        });
        Edge.test(3, "LEVERS: of 0, 5, 10, .. 60 degrees, 0 to 3000 each (0 at first; of 0 always 0)", () -> {
            LooseWater x = Edge.crank();
            for (int d = 0; d <= 60; d++) Edge.due("at first " + d, x.lever(d), 0);
            for (int k = 1; k <= 12; k++) {
                Edge.due("most " + k, x.form(k, 3000), 0);
                Edge.due("above " + k, x.form(k, 3001), -1);
                Edge.due("it is " + k, x.lever(5 * k), 3000);
                Edge.due("least " + k, x.form(k, 0), 3000);
                Edge.due("below " + k, x.form(k, -1), -1);
            }
            x.form(1, 3000);
            Edge.due("of 0 always 0: refused", x.form(0, 7), -1);
            Edge.due("of 0 always 0", x.lever(0), 0);
        });
        Edge.test(19, "between two of these, r degrees above the lower one: (the lower one's times (5 - r), and the upper one's times r) by 5, downwards.", () -> {
            LooseWater x = Edge.crank();
            x.form(1, 1);
            int[] first = {0, 0, 0, 0, 0, 1, 0, 0, 0, 0, 0};
            for (int d = 0; d <= 10; d++) Edge.due("a lever of 1: " + d, x.lever(d), first[d]);
            x.form(1, 3000);
            x.form(2, 2999);
            // 14999, 14998, 14997, 14996 by 5
            for (int d = 6; d <= 9; d++) Edge.due("3000 to 2999: " + d, x.lever(d), 2999);
            Edge.due("the lower one itself", x.lever(5), 3000);
            for (int k = 1; k <= 12; k++) {
                LooseWater y = Edge.crank();
                y.form(k, 1000);
                for (int r = 1; r < 5; r++) {
                    Edge.due("r below " + 5 * k, y.lever(5 * k - r), 200 * (5 - r));
                    if (k < 12) Edge.due("r above " + 5 * k, y.lever(5 * k + r), 200 * (5 - r));
                }
            }
            x.form(12, 3000);
            Edge.due("1 above 55", x.lever(56), 600);
            Edge.due("4 above 55", x.lever(59), 2400);
            Edge.due("60", x.lever(60), 3000);
        });
        Edge.test(17, "SIN of d, 0 to 90 degrees: 4000 * d * (180 - d) by (40500 - d * (180 - d)), downwards; COS of d: SIN of 90 - d.", () -> {
            LooseWater x = Edge.feather();
            LooseWater y = Edge.leaf();
            y.sets(0, 100);
            for (int d = 0; d <= 60; d++) {
                Edge.due("SIN of " + d, x.turn(d), sin(d));
                Edge.due("COS of " + d, y.turn(d), sin(90 - d));
                Edge.due("COS of -" + d, y.turn(-d), sin(90 - d));
            }
            Edge.due("SIN of 0", x.turn(0), 0);
            // 4000 * 179 by 40321 is 17.7; 4000 * 60 * 120 by 33300 is 864.8; 4000 * 8099 by 32401 is 999.8
            Edge.due("SIN of 1", x.turn(1), 17);
            Edge.due("SIN of 60", x.turn(60), 864);
            Edge.due("SIN of 89", y.turn(1), 999);
            Edge.due("SIN of 90", y.turn(0), 1000);
        });
    }

    private static boolean begin(int[] a) {
        return new LooseWater().ship(a[0], a[1], a[2], a[3]);
    }

    private static long sin(int d) {
        return 4000L * d * (180 - d) / (40500 - d * (180 - d));
    }

    // ---- places

    private static void places() {
        Edge.test(4, "PLACES a to l (0 to 11): bottom (0 to 2000), depth (1 to 999), breadth (1 to 400), length (1 to 2000), walls (1 to 9: how many parts, lengthwise), off (-200 to 200: how far its middle is to the right).", () -> {
            int[] low = {0, 1, 1, 1, 1, -200};
            int[] high = {2000, 999, 400, 2000, 9, 200};
            int[] told = {5, 6, 7, 8, 3, 4};
            for (int i = 0; i < 6; i++) {
                LooseWater x = Edge.crank();
                int[] a = {9, 9, 9, 9, 9, 9};
                a[i] = low[i];
                Edge.due("least of " + i, put(x, a), 0);
                Edge.due("it is the least of " + i, x.of(0, told[i]), low[i]);
                a[i] = high[i];
                Edge.due("most of " + i, put(x, a), 1);
                Edge.due("it is the most of " + i, x.of(1, told[i]), high[i]);
                for (int n : new int[] {low[i] - 1, high[i] + 1, Edge.LEAST, Edge.MOST}) {
                    a[i] = n;
                    Edge.due("another of " + i, put(x, a), -1);
                }
                Edge.due("two", x.count(0), 2);
            }
            LooseWater x = Edge.crank();
            for (int i = 0; i < 12; i++) Edge.due("number", put(x, low), i);
            Edge.due("a thirteenth", put(x, low), -1);
        });
        Edge.test(20, "CAP: breadth * length * depth by 10000, downwards.", () -> {
            LooseWater x = Edge.crank();
            x.place(0, 1, 1, 1, 1, 0);
            x.place(0, 1, 99, 101, 1, 0);
            x.place(0, 1, 100, 100, 1, 0);
            x.place(0, 999, 400, 2000, 1, 0);
            Edge.due("1", x.of(0, 1), 0);
            Edge.due("9999", x.of(1, 1), 0);
            Edge.due("10000", x.of(2, 1), 1);
            Edge.due("799200000", x.of(3, 1), 79920);
        });
        Edge.test(5, "WATER: 0 to CAP (0 at first).", () -> {
            LooseWater x = Edge.crank();
            x.place(0, 100, 100, 100, 1, 0);
            x.place(0, 1, 1, 1, 1, 0);
            Edge.due("at first", x.of(0, 0), 0);
            Edge.due("above CAP", x.water(0, 101), -1);
            Edge.due("to CAP", x.water(0, 100), 0);
            Edge.due("below 0", x.water(0, -1), -1);
            Edge.due("to 0", x.water(0, 0), 100);
            Edge.due("CAP 0, to 0", x.water(1, 0), 0);
            Edge.due("CAP 0, to 1", x.water(1, 1), -1);
        });
        Edge.test(20, "LEVEL: WATER * 10000 by (breadth * length), downwards, depth at most.", () -> {
            LooseWater x = Edge.crank();
            x.place(0, 999, 400, 2000, 1, 0);
            x.place(0, 1, 100, 100, 1, 0);
            x.place(0, 77, 33, 500, 1, 0);
            level(x, 0, 0, 0);
            // 790000, 800000, 1600000 by 800000
            level(x, 0, 79, 0);
            level(x, 0, 80, 1);
            level(x, 0, 159, 1);
            level(x, 0, 79919, 998);
            level(x, 0, 79920, 999);
            level(x, 1, 1, 1);
            // 1270000 by 16500: full, and below depth yet
            level(x, 2, 127, 76);
            for (int p = 0; p < 3; p++) {
                Edge.due("depth at most", x.of(p, 2) <= x.of(p, 6), true);
            }
        });
        Edge.test(16, "Its height is bottom and half of LEVEL, downwards.", () -> {
            LooseWater x = Edge.leaf();
            x.place(7, 100, 100, 100, 1, 0);
            x.place(2000, 999, 400, 2000, 1, 0);
            Edge.due("no water", x.up(), 1);
            x.water(0, 1);
            Edge.due("LEVEL 1", x.up(), 1 + 7);
            x.water(0, 2);
            Edge.due("LEVEL 2", x.up(), 1 + 2 * 8);
            x.water(0, 99);
            Edge.due("LEVEL 99", x.up(), 1 + 99 * (7 + 49));
            x.water(0, 0);
            x.water(1, 79920);
            Edge.due("LEVEL 999", x.up(), 1 + 79920L * 2499);
        });
        Edge.test(21, "RUN of a PLACE at d degrees (0 to 60): the lesser of (length * breadth * breadth * breadth by (1200 * walls * walls), downwards) times SIN by 1000, downwards, and 5 * breadth * the lesser of WATER and (CAP less WATER) by walls, downwards.", EdgesOfTerms::runs);
    }

    private static void runs() {
        LooseWater x = Edge.crank();
        x.place(0, 101, 100, 100, 1, 0);
        Edge.due("empty", x.flows(0, 60), 0);
        x.water(0, 101);
        Edge.due("full", x.flows(0, 60), 0);
        // 83333 * 864 by 1000 is 71999; 500 * 50
        x.water(0, 50);
        Edge.due("50 of 101", x.flows(0, 60), 25000);
        x.water(0, 51);
        Edge.due("51 of 101", x.flows(0, 60), 25000);
        Edge.due("at 0", x.flows(0, 0), 0);
        Edge.due("at 1", x.flows(0, 1), 1416);
        Edge.due("at 61", x.flows(0, 61), -1);
        Edge.due("at -1", x.flows(0, -1), -1);
        x.walls(0, 9);
        // 100000000 by 97200 is 1028, times 864 by 1000 is 888; 25000 by 9 is 2777
        Edge.due("nine parts", x.flows(0, 60), 888);
        x.water(0, 1);
        Edge.due("500 by 9", x.flows(0, 60), 55);
        x.walls(0, 3);
        Edge.due("500 by 3", x.flows(0, 60), 166);
        x.walls(0, 9);
        x.water(0, 100);
        Edge.due("room for 1", x.flows(0, 60), 55);
        x.place(0, 999, 1, 1199, 1, 0);
        x.water(1, 50);
        Edge.due("1199 by 1200", x.flows(1, 60), 0);
        x.place(0, 999, 1, 2000, 1, 0);
        x.water(2, 50);
        Edge.due("1 times 864 by 1000", x.flows(2, 60), 0);
        x.place(0, 999, 400, 2000, 1, 0);
        x.water(3, 39960);
        // 128000000000 by 1200 is 106666666: times 705 by 1000 is 75199999; 2000 * 39960
        Edge.due("the most, by its form", x.flows(3, 45), 75199999);
        Edge.due("the most, by its water", x.flows(3, 60), 79920000);
    }

    private static int put(LooseWater x, int[] a) {
        return x.place(a[0], a[1], a[2], a[3], a[4], a[5]);
    }

    private static void level(LooseWater x, int p, int water, int want) {
        x.water(p, water);
        Edge.due("level of " + water, x.of(p, 2), want);
    }

    // ---- cargo, openings and what is set

    private static void parts() {
        Edge.test(7, "CARGO 0 to 5: weight (1 to 9999), height (0 to 3000), angle (1 to 60), slide (0 to 200)", () -> {
            int[] low = {1, 0, 1, 0};
            int[] high = {9999, 3000, 60, 200};
            for (int i = 0; i < 4; i++) {
                LooseWater x = Edge.crank();
                int[] a = {9, 9, 9, 9};
                a[i] = low[i];
                Edge.due("least of " + i, stow(x, a), 0);
                a[i] = high[i];
                Edge.due("most of " + i, stow(x, a), 1);
                for (int n : new int[] {low[i] - 1, high[i] + 1, Edge.LEAST, Edge.MOST}) {
                    a[i] = n;
                    Edge.due("another of " + i, stow(x, a), -1);
                }
                Edge.due("two", x.count(1), 2);
            }
            LooseWater x = Edge.crank();
            for (int i = 0; i < 6; i++) Edge.due("number", stow(x, low), i);
            Edge.due("a seventh", stow(x, low), -1);
            Edge.due("its weight is not aboard", x.tells(4), 1006);
        });
        Edge.test(24, "SLID: 0 (at first), 1 to the right, -1 to the left.", () -> {
            LooseWater x = Edge.crank();
            x.cargo(1, 1, 1, 1);
            Edge.plan(x, "pace 0");
            Edge.due("at first", x.slid(0), 0);
            x.sets(2, 2);
            x.run(0, 1);
            Edge.due("to the right", x.slid(0), 1);
            x.sets(2, -2);
            x.run(0, 1);
            Edge.due("to the left", x.slid(0), -1);
        });
        Edge.test(10, "ASIDE: -99999 to 99999 (0 at first).", () -> bounds(0, 2, -99999, 99999));
        Edge.test(10, "PACE: 0 to 99 (0 at first).", () -> bounds(1, 3, 0, 99));
        Edge.test(10, "LEAN: -60 to 60 degrees, to the right above 0 (0 at first).", () -> {
            bounds(2, 0, -60, 60);
            LooseWater x = Edge.crank();
            x.sets(2, 1);
            // 100 and 8: the right side is the deeper one
            Edge.due("to the right above 0", x.outside(1), 108);
        });
        Edge.test(8, "DOORS and PORTS, 12 each: of a PLACE, a side (-1 left, 0 ahead, 1 right), sill (0 to 3000), width (1 to 200).", () -> openings(true));
        Edge.test(9, "DOORS and PORTS, 12 each: of a PLACE, a side (-1 left, 0 ahead, 1 right), sill (0 to 3000), width (1 to 200).", () -> openings(false));
        Edge.test(14, "ROUND (0 at first, 9999 at most).", () -> {
            LooseWater x = Edge.leaf();
            Edge.plan(x, "pace 0");
            Edge.due("at first", x.tells(1), 0);
            for (int i = 0; i < 166; i++) x.run(0, 60);
            Edge.due("40 more", x.run(0, 40), Edge.UNTOLD);
            Edge.due("9960 yet", x.tells(1), 9960);
            Edge.due("39 more", x.run(0, 39), 0);
            Edge.due("9999", x.tells(1), 9999);
            Edge.due("1 more", x.run(0, 1), Edge.UNTOLD);
            Edge.due("9999 yet", x.tells(1), 9999);
        });
        Edge.test(15, "OVER: LEAN is 60 or -60.", () -> {
            LooseWater x = Edge.crank();
            int[][] told = {{0, 0}, {59, 0}, {60, 1}, {-59, 0}, {-60, 1}};
            for (int[] t : told) {
                x.sets(2, t[0]);
                Edge.due("at " + t[0], x.tells(10), t[1]);
            }
        });
    }

    private static int stow(LooseWater x, int[] a) {
        return x.cargo(a[0], a[1], a[2], a[3]);
    }

    private static void bounds(int what, int tells, int low, int high) {
        LooseWater x = Edge.crank();
        Edge.due("at first", x.tells(tells), 0);
        Edge.due("least", x.sets(what, low), 0);
        Edge.due("too small", x.sets(what, low - 1), Edge.UNTOLD);
        Edge.due("least int", x.sets(what, Edge.LEAST), Edge.UNTOLD);
        Edge.due("it is the least", x.tells(tells), low);
        Edge.due("most", x.sets(what, high), low);
        Edge.due("too large", x.sets(what, high + 1), Edge.UNTOLD);
        Edge.due("most int", x.sets(what, Edge.MOST), Edge.UNTOLD);
        Edge.due("it is the most", x.tells(tells), high);
    }

    private static void openings(boolean doors) {
        int[] low = {0, -1, 0, 1};
        int[] high = {1, 1, 3000, 200};
        for (int i = 0; i < 4; i++) {
            LooseWater x = Edge.crank();
            x.place(0, 10, 10, 10, 1, 0);
            x.place(0, 10, 10, 10, 1, 0);
            int[] a = {0, 0, 9, 9};
            a[i] = low[i];
            Edge.due("least of " + i, open(x, doors, a), 0);
            a[i] = high[i];
            Edge.due("most of " + i, open(x, doors, a), 1);
            for (int n : new int[] {low[i] - 1, high[i] + 1, Edge.LEAST, Edge.MOST}) {
                a[i] = n;
                Edge.due("another of " + i, open(x, doors, a), -1);
            }
            Edge.due("doors", x.count(2), doors ? 2 : 0);
            Edge.due("ports", x.count(3), doors ? 0 : 2);
        }
        LooseWater x = Edge.crank();
        x.place(0, 10, 10, 10, 1, 0);
        for (int i = 0; i < 12; i++) Edge.due("number", open(x, doors, low), i);
        Edge.due("a thirteenth", open(x, doors, low), -1);
        Edge.due("the others have their own twelve", open(x, !doors, low), 0);
    }

    private static int open(LooseWater x, boolean door, int[] a) {
        return door ? x.door(a[0], a[1], a[2], a[3]) : x.port(a[0], a[1], a[2], a[3]);
    }

    // ---- sums

    private static void sums() {
        Edge.test(15, "TOTAL: weight, all CARGO and WATER.", () -> {
            Edge.due("weight alone", Edge.leaf().tells(4), 1);
            LooseWater x = fullShip();
            Edge.due("the most", x.tells(4), 99999 + 6 * 9999 + 12 * 79920);
            x.water(11, 0);
            Edge.due("the last one empty", x.tells(4), 99999 + 6 * 9999 + 11 * 79920);
            x.load(9999, 3000);
            Edge.due("no LOADS", x.tells(4), 99999 + 6 * 9999 + 11 * 79920);
        });
        Edge.test(16, "UP: each of these times its height, together.", () -> {
            Edge.due("weight alone", Edge.leaf().up(), 1);
            // more than an int can hold
            Edge.due("the most", fullShip().up(), 2876619960L);
        });
        Edge.test(15, "DRAFT: TOTAL by how much it takes to sink, downwards.", () -> {
            int[][] told = {{998, 999, 0}, {999, 999, 1}, {1997, 999, 1}, {1998, 999, 2}, {1, 1, 1}, {99999, 1, 99999}};
            for (int[] t : told) {
                LooseWater x = new LooseWater();
                x.ship(10, t[0], 1, t[1]);
                Edge.due(t[0] + " by " + t[1], x.tells(5), t[2]);
            }
            Edge.due("the most", fullShip().tells(5), 1119033);
        });
    }

    /** All that can be in her, each as heavy and as high as can be, slid and off to the right. */
    private static LooseWater fullShip() {
        LooseWater x = new LooseWater();
        x.ship(400, 99999, 3000, 1);
        for (int i = 0; i < 6; i++) x.cargo(9999, 3000, 1, 200);
        for (int i = 0; i < 12; i++) {
            x.place(2000, 999, 400, 2000, 1, 200);
            x.water(i, 79920);
        }
        return x;
    }

    // ---- TURN and REST

    private static void turns() {
        Edge.test(17, "ASIDE * 10, WATER * off * 10 of all PLACES, weight * SLID * slide * 10 of all CARGO, these together times COS of d (without sign) by 1000, towards 0", () -> {
            LooseWater x = Edge.leaf();
            x.sets(0, -3);
            // -30 * 864 by 1000 is -25.9
            Edge.due("towards 0 from below", x.turn(30), -25);
            Edge.due("to the left, too", x.turn(-30), -25);
            x.sets(0, 3);
            Edge.due("towards 0 from above", x.turn(30), 25);
            Edge.due("d without sign", x.turn(-30), 25);
            x.sets(0, 99999);
            Edge.due("the most aside, upright", x.turn(0), 999990);
            Edge.due("the most aside, at 60", x.turn(60), 499995);
            x.sets(0, 0);
            x.place(0, 1, 100, 100, 1, 200);
            x.place(0, 1, 100, 100, 1, -200);
            x.place(0, 1, 100, 100, 1, 0);
            x.water(2, 1);
            Edge.due("off 0", x.turn(0), 0);
            x.water(0, 1);
            Edge.due("off 200", x.turn(0), 2000);
            x.water(1, 1);
            Edge.due("together", x.turn(0), 0);
            x.water(0, 0);
            Edge.due("off -200", x.turn(0), -2000);
        });
        Edge.test(17, "weight * SLID * slide * 10 of all CARGO", () -> {
            LooseWater x = Edge.leaf();
            x.cargo(3, 0, 1, 200);
            x.cargo(5, 0, 1, 0);
            x.cargo(7, 0, 60, 100);
            Edge.plan(x, "pace 0");
            Edge.due("not slid", x.turn(0), 0);
            x.sets(2, 2);
            x.run(0, 1);
            Edge.due("to the right; none with slide 0, none below its angle", x.turn(0), 6000);
            x.sets(2, -2);
            x.run(0, 1);
            Edge.due("to the left", x.turn(0), -6000);

            x = fullShip();
            Edge.plan(x, "pace 0");
            x.sets(2, 2);
            x.run(0, 1);
            x.sets(0, 99999);
            // 12 * 159840000, 6 * 19998000 and 999990
            Edge.due("the most of all", x.turn(0), 2039067990L);
        });
        Edge.test(17, "and with the sign of d (0 at 0): all RUNS, and UP times SIN by 1000, downwards, less TOTAL times LEVER, all at d without sign.", () -> {
            LooseWater x = Edge.crank();
            Edge.due("0 at 0", x.turn(0), 0);
            Edge.due("at 1", x.turn(1), 8500);
            Edge.due("at -1", x.turn(-1), -8500);
            x.form(12, 3000);
            Edge.due("at 60", x.turn(60), 432000 - 3000000);
            Edge.due("at -60", x.turn(-60), 3000000 - 432000);
            LooseWater y = new LooseWater();
            y.ship(10, 2, 1, 1);
            // 2 * 484 and 2 * 500 by 1000; the sign comes behind
            Edge.due("downwards at 29", y.turn(29), 0);
            Edge.due("downwards at -29", y.turn(-29), 0);
            Edge.due("at 30", y.turn(30), 1);
            Edge.due("at -30", y.turn(-30), -1);
            LooseWater z = Edge.leaf();
            for (int i = 0; i < 12; i++) {
                z.place(0, 2, 100, 100, 1, 0);
                z.water(i, 1);
            }
            // 12 RUNS of 500 (71999 by its form)
            Edge.due("all RUNS", z.turn(60), 6000);
            Edge.due("all RUNS to the left", z.turn(-60), -6000);
            Edge.due("none at 0", z.turn(0), 0);
        });
        Edge.test(18, "Above 0 it turns her to the right.", () -> {
            LooseWater x = Edge.leaf();
            x.sets(0, 1);
            Edge.due("10 * 1000 by 1000", x.turn(0), 10);
            Edge.due("to the right", x.rest(0), 60);
            x.sets(0, -1);
            Edge.due("-10 * 1000 by 1000", x.turn(0), -10);
            Edge.due("to the left", x.rest(0), -60);
        });
    }

    private static void rests() {
        Edge.test(18, "REST from a LEAN: while TURN there is above 0, one degree to the right, till it is not, or at 60; while it is below 0, likewise to the left", () -> {
            LooseWater x = Edge.leaf();
            for (int d = -60; d <= 60; d++) Edge.due("TURN is 0 at " + d, x.rest(d), d);
            x.sets(0, 1);
            Edge.due("from side to side", x.rest(-60), 60);
            Edge.due("at 60", x.rest(60), 60);
            x.sets(0, -1);
            Edge.due("and back", x.rest(60), -60);
            Edge.due("at -60", x.rest(-60), -60);

            LooseWater y = Edge.feather();
            y.form(1, 87);
            Edge.due("TURN is 1 at 5", y.turn(5), 1);
            Edge.due("1 is above 0", y.rest(5), 60);
            Edge.due("-1 is below 0", y.rest(-5), -60);
            y.form(1, 88);
            Edge.due("TURN is 0 at 5", y.turn(5), 0);
            Edge.due("0 is neither", y.rest(5), 5);
            Edge.due("nor to the left", y.rest(-5), -5);
            y.form(1, 89);
            // LEVER 71 and 53 at 4 and 3; SIN 70 and 53
            Edge.due("-1 turns her back till it is 0", y.rest(5), 3);
            Edge.due("and 1 from the left", y.rest(-5), -3);
        });
        Edge.test(18, "(one way alone, as at first)", () -> {
            LooseWater x = Edge.steady();
            x.sets(0, 350);
            // at 0 it is 3500; at 1 3496 + 8500 - 12000 is -4
            Edge.due("TURN at 0", x.turn(0), 3500);
            Edge.due("TURN at 1", x.turn(1), -4);
            Edge.due("not back from 1", x.rest(0), 1);
            Edge.due("from 1 to the left", x.rest(1), 0);
            Edge.due("not to the right again", x.rest(60), 0);
        });
    }

    public static void main(String[] args) {
        ship();
        places();
        parts();
        sums();
        turns();
        rests();
        Edge.finish();
    }
}
