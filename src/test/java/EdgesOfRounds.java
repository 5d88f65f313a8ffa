/** The edges of OUTSIDE, INSIDE and of A ROUND by a PLAN. */
public final class EdgesOfRounds {

    // ---- the sea and the water within

    private static void heights() {
        Edge.test(23, "OUTSIDE at a side: DRAFT, and ahead PACE * PACE by 10, downwards", () -> {
            LooseWater x = Edge.crank();
            int[][] told = {{0, 100}, {3, 100}, {4, 101}, {99, 1080}};
            for (int[] t : told) {
                x.sets(1, t[0]);
                Edge.due("ahead at pace " + t[0], x.outside(0), t[1]);
                Edge.due("right at pace " + t[0], x.outside(1), 100);
                Edge.due("left at pace " + t[0], x.outside(-1), 100);
            }
            x.sets(2, 59);
            Edge.due("ahead, leaning", x.outside(0), 1080);
        });
        Edge.test(23, "to the right (left) more by (less by) her breadth * 5 times SIN of LEAN by 1000 (all without sign, downwards) if she leans to the right, less (more) if to the left.", () -> {
            // 500 * 17 by 1000 is 8, 500 * 864 by 1000 is 432
            sides(100, 0, 100, 100);
            sides(100, 1, 108, 92);
            sides(100, -1, 92, 108);
            sides(100, 60, 532, -332);
            sides(100, -60, -332, 532);
            // 50 * 17 by 1000 is 0, 65 * 17 by 1000 is 1: less by 1, not by 2
            sides(10, 1, 100, 100);
            sides(10, -1, 100, 100);
            sides(13, 1, 101, 99);
            sides(13, -1, 99, 101);
            // 2000 * 864 by 1000
            sides(400, 60, 1828, -1628);
        });
        Edge.test(22, "INSIDE of a PLACE at a side: 0 without WATER; else LEVEL", () -> {
            LooseWater x = Edge.crank();
            x.place(2000, 999, 400, 2000, 1, 0);
            x.sets(2, 30);
            for (int side = -1; side <= 1; side++) Edge.due("without WATER", x.inside(0, side), 0);
            x.sets(2, 0);
            x.water(0, 1);
            for (int side = -1; side <= 1; side++) Edge.due("LEVEL 0, upright", x.inside(0, side), 2000);
            x.water(0, 79920);
            for (int side = -1; side <= 1; side++) Edge.due("full, upright", x.inside(0, side), 2999);
        });
        Edge.test(22, "to the side she leans to more by breadth * 5 by walls, downwards, times SIN by 1000, downwards, to the other side so much less, held to 0 to depth; and bottom.", EdgesOfRounds::within);
    }

    private static void within() {
        LooseWater x = Edge.crank();
        x.place(7, 999, 400, 2000, 1, 0);
        x.water(0, 1);
        x.sets(2, 30);
        // LEVEL 0; 2000 * 500 by 1000 is 1000: held to 999, and to 0
        three(x, 0, 7 + 999, 7, 7);
        x.sets(2, -30);
        three(x, 0, 7, 7, 7 + 999);
        x.walls(0, 9);
        // 222 * 500 by 1000
        three(x, 0, 7, 7, 7 + 111);

        x.place(40, 100, 100, 100, 1, 0);
        x.sets(2, 1);
        // 500 * 17 by 1000 is 8
        x.water(1, 92);
        three(x, 1, 40 + 100, 40 + 92, 40 + 84);
        x.water(1, 93);
        three(x, 1, 40 + 100, 40 + 93, 40 + 85);
        x.water(1, 100);
        three(x, 1, 40 + 100, 40 + 100, 40 + 92);
        x.water(1, 8);
        three(x, 1, 40 + 16, 40 + 8, 40);
        x.water(1, 7);
        three(x, 1, 40 + 15, 40 + 7, 40);

        x.place(0, 999, 7, 100, 9, 0);
        x.place(0, 999, 399, 2000, 1, 0);
        x.water(3, 1);
        x.sets(2, 30);
        // 1995 * 500 by 1000
        three(x, 3, 997, 0, 0);
        x.water(2, 35);
        x.sets(2, 60);
        // LEVEL 350000 by 700; 35 by 9 is 3, times 864 by 1000 is 2
        three(x, 2, 502, 500, 498);
        x.sets(2, -60);
        three(x, 2, 498, 500, 502);
    }

    private static void three(LooseWater x, int place, int right, int ahead, int left) {
        Edge.due("inside to the right", x.inside(place, 1), right);
        Edge.due("inside ahead", x.inside(place, 0), ahead);
        Edge.due("inside to the left", x.inside(place, -1), left);
    }

    private static void sides(int breadth, int lean, int right, int left) {
        LooseWater x = new LooseWater();
        x.ship(breadth, 1000, 500, 10);
        x.sets(2, lean);
        Edge.due("right at " + lean, x.outside(1), right);
        Edge.due("left at " + lean, x.outside(-1), left);
        Edge.due("ahead at " + lean, x.outside(0), 100);
    }

    // ---- clauses

    private static void clauses() {
        Edge.test(14, "A ROUND by a PLAN: if she is OVER, ROUND is 1 more alone.", () -> {
            for (int lean = -60; lean <= 60; lean += 120) {
                LooseWater x = Edge.steady();
                x.place(900, 100, 100, 100, 1, 0);
                x.water(0, 50);
                x.cargo(9, 9, 1, 9);
                x.door(0, 0, 0, 200);
                x.port(0, 0, 0, 100);
                Edge.plan(x, "fill a 5; pump a 1; pace 9; shift 5");
                x.sets(2, lean);
                Edge.due("LEAN", x.run(0, 1), lean);
                Edge.due("ROUND", x.tells(1), 1);
                Edge.due("WATER", x.of(0, 0), 50);
                Edge.due("PACE", x.tells(3), 0);
                Edge.due("ASIDE", x.tells(2), 0);
                Edge.due("SLID", x.slid(0), 0);
                x.run(0, 60);
                Edge.due("ROUND", x.tells(1), 61);
                Edge.due("LEAN stays", x.tells(0), lean);
                x.sets(2, lean / 60 * 59);
                x.run(0, 1);
                Edge.due("at 59 all goes on", x.tells(3), 9);
                Edge.due("LEAN", x.tells(0), lean / 60 * 56);
            }
        });
        Edge.test(14, "pump: WATER of the PLACE is less by so much (0 at least)", () -> {
            int[][] told = {{5, 0, 5}, {5, 4, 1}, {5, 5, 0}, {5, 6, 0}, {5, 9999, 0}, {0, 1, 0}, {100, 100, 0}};
            for (int[] t : told) Edge.due("pump " + t[1] + " of " + t[0], after(t[0], "pump a " + t[1]), t[2]);
        });
        Edge.test(14, "fill: more (CAP at most)", () -> {
            int[][] told = {{95, 0, 95}, {95, 4, 99}, {95, 5, 100}, {95, 6, 100}, {0, 9999, 100}, {100, 1, 100}, {0, 100, 100}};
            for (int[] t : told) Edge.due("fill " + t[1] + " on " + t[0], after(t[0], "fill a " + t[1]), t[2]);
        });
        Edge.test(14, "cross: from the one to the other as much as can go, so much at most", () -> {
            crossed(10, 95, 0, 10, 95);
            crossed(10, 95, 3, 7, 98);
            crossed(10, 95, 5, 5, 100);
            crossed(10, 95, 6, 5, 100);
            crossed(10, 0, 10, 0, 10);
            crossed(10, 0, 11, 0, 10);
            crossed(10, 0, 9999, 0, 10);
            crossed(0, 50, 5, 0, 50);
            crossed(50, 100, 5, 50, 100);
            crossed(100, 0, 100, 0, 100);
        });
        Edge.test(14, "pace: PACE is so much", () -> {
            for (int n : new int[] {0, 1, 99}) {
                LooseWater x = Edge.leaf();
                x.sets(1, 50);
                Edge.plan(x, "pace " + n);
                x.run(0, 1);
                Edge.due("pace " + n, x.tells(3), n);
            }
        });
        Edge.test(14, "shift: ASIDE is SUM, held to its bounds.", () -> {
            Edge.worth(Edge.leaf(), "99998+0", 99998);
            Edge.worth(Edge.leaf(), "99998+1", 99999);
            Edge.worth(Edge.leaf(), "99999+1", 99999);
            Edge.worth(Edge.leaf(), "0-99998", -99998);
            Edge.worth(Edge.leaf(), "0-99999", -99999);
            Edge.worth(Edge.leaf(), "0-99999-1", -99999);
            Edge.worth(Edge.leaf(), "99999*99999", 99999);
            Edge.worth(Edge.leaf(), "0-99999*99999", -99999);
            LooseWater x = Edge.leaf();
            x.sets(0, 50);
            Edge.worth(x, "0", 0);
        });
        Edge.test(14, "(A PLACE that is not there: nothing; cross with itself: nothing.)", EdgesOfRounds::nothing);
        Edge.test(14, "(All as it is then.)", () -> {
            LooseWater x = Edge.leaf();
            x.place(0, 100, 100, 100, 1, 0);
            Edge.plan(x, "fill a 5; pace 3 if a = 5; shift a * 1000 + pace * 10 + draft; pace 4 if a = 0");
            x.run(0, 1);
            // DRAFT is TOTAL, 6
            Edge.due("what was done is seen", x.tells(2), 5036);
            Edge.due("what was is not", x.tells(3), 3);
        });
        Edge.test(14, "CLAUSES, one by one, if there is no TEST, or it holds then", () -> {
            LooseWater x = Edge.leaf();
            x.place(0, 100, 100, 100, 1, 0);
            Edge.plan(x, "fill a 1; fill a 2 if a = 1; fill a 4 if a = 1; fill a 8 if not a = 1; fill a 16 if a > 99");
            x.run(0, 1);
            Edge.due("1, 2 and 8", x.of(0, 0), 11);
        });
    }

    /** WATER of a place of 100 behind a round. */
    private static int after(int water, String text) {
        LooseWater x = Edge.leaf();
        x.place(0, 100, 100, 100, 1, 0);
        x.water(0, water);
        Edge.plan(x, text);
        x.run(0, 1);
        Edge.due("TOTAL", x.tells(4), 1 + x.of(0, 0));
        return x.of(0, 0);
    }

    private static void crossed(int from, int to, int n, int fromThen, int toThen) {
        LooseWater x = Edge.leaf();
        x.place(0, 100, 100, 100, 1, 0);
        x.place(0, 100, 100, 100, 1, 0);
        x.water(0, from);
        x.water(1, to);
        Edge.plan(x, "cross a b " + n);
        x.run(0, 1);
        Edge.due("the one", x.of(0, 0), fromThen);
        Edge.due("the other", x.of(1, 0), toThen);
        Edge.due("TOTAL", x.tells(4), 1 + from + to);
    }

    private static void nothing() {
        String[] texts = {"fill b 5", "pump b 5", "cross a b 5", "cross b a 5", "cross b b 5", "cross a a 50",
            "cross l k 5", "fill l 9999", "cross a a 9999"};
        for (String t : texts) {
            LooseWater x = Edge.leaf();
            // a place of an earlier ship is not there either
            x.place(0, 100, 100, 100, 1, 0);
            x.place(0, 100, 100, 100, 1, 0);
            x.water(1, 50);
            x.ship(10, 1, 1, 1);
            x.place(0, 100, 100, 100, 1, 0);
            x.water(0, 80);
            Edge.plan(x, t);
            x.run(0, 1);
            Edge.due(t + ": WATER", x.of(0, 0), 80);
            Edge.due(t + ": TOTAL", x.tells(4), 81);
            Edge.due(t + ": places", x.count(0), 1);
            Edge.due(t + ": ROUND", x.tells(1), 1);
        }
        LooseWater y = Edge.leaf();
        Edge.plan(y, "fill a 5; pump a 5; cross a a 5; cross a b 5");
        y.run(0, 1);
        Edge.due("no places at all", y.tells(4), 1);
    }

    // ---- doors and ports

    private static void openings() {
        Edge.test(14, "(2) DOORS, by their numbers: if OUTSIDE is above the greater of sill and INSIDE (0 without WATER), WATER is more by width times the difference by 100, downwards (CAP at most).", () -> {
            // DRAFT 100, and 105 with 50 in her
            Edge.due("sill as high as OUTSIDE", let(0, 0, true, 100, 200), 0);
            Edge.due("sill above OUTSIDE", let(0, 0, true, 3000, 200), 0);
            Edge.due("99 by 100", let(0, 0, true, 99, 99), 0);
            Edge.due("100 by 100", let(0, 0, true, 99, 100), 1);
            Edge.due("200 by 100", let(0, 0, true, 99, 200), 2);
            Edge.due("INSIDE is 0 without WATER, however high", let(2000, 0, true, 0, 50), 50);
            Edge.due("just CAP", let(0, 0, true, 0, 100), 100);
            Edge.due("CAP at most", let(0, 0, true, 0, 200), 100);
            Edge.due("INSIDE as high as OUTSIDE", let(55, 50, true, 0, 200), 50);
            Edge.due("INSIDE above OUTSIDE", let(56, 50, true, 0, 200), 50);
            Edge.due("INSIDE lower by 1", let(54, 50, true, 0, 100), 51);
            Edge.due("INSIDE above sill", let(40, 50, true, 89, 100), 65);
            Edge.due("sill above INSIDE", let(40, 50, true, 91, 100), 64);
            Edge.due("full", let(0, 100, true, 0, 200), 100);
        });
        Edge.test(14, "(2) DOORS, by their numbers", () -> {
            LooseWater x = Edge.crank();
            x.place(0, 999, 100, 100, 1, 0);
            x.door(0, 0, 90, 100);
            x.door(0, 0, 0, 100);
            Edge.plan(x, "pace 0");
            x.run(0, 1);
            // 10; then DRAFT is 101, INSIDE 10: 91
            Edge.due("the high one first", x.of(0, 0), 101);
            LooseWater y = Edge.crank();
            y.place(0, 999, 100, 100, 1, 0);
            y.door(0, 0, 0, 100);
            y.door(0, 0, 90, 100);
            Edge.plan(y, "pace 0");
            y.run(0, 1);
            // 100; then DRAFT is 110, INSIDE 100: 10
            Edge.due("the low one first", y.of(0, 0), 110);
        });
        Edge.test(14, "DOORS and PORTS, 12 each: of a PLACE, a side (-1 left, 0 ahead, 1 right)", () -> {
            LooseWater x = Edge.crank();
            for (int i = 0; i < 12; i++) {
                x.place(0, 999, 1, 1000, 1, 0);
                x.door(i, i % 3 - 1, 90, 100);
            }
            x.sets(1, 10);
            x.sets(2, 1);
            Edge.plan(x, "pace 10");
            x.run(0, 1);
            // DRAFT less 8 to the left, and 10 more ahead, 8 to the right: what is above 90 comes in;
            // DRAFT is 100, 100, 102, 104, 104, 107, 109, 110, 113, 116, 118, 122
            int[] told = {2, 20, 20, 6, 24, 25, 11, 30, 31, 18, 38, 40};
            for (int i = 0; i < 12; i++) Edge.due("place " + i, x.of(i, 0), told[i]);
        });
        Edge.test(14, "(3) PORTS, by their numbers: if INSIDE is above the greater of sill and OUTSIDE: WATER is less by width times the difference by 100, downwards (0 at least).", () -> {
            // INSIDE is bottom and 50, DRAFT 105
            Edge.due("sill as high as INSIDE", let(900, 50, false, 950, 200), 50);
            Edge.due("sill above INSIDE", let(900, 50, false, 3000, 200), 50);
            Edge.due("99 by 100", let(900, 50, false, 949, 99), 50);
            Edge.due("100 by 100", let(900, 50, false, 949, 100), 49);
            Edge.due("200 by 100", let(900, 50, false, 949, 200), 48);
            Edge.due("just 0", let(900, 50, false, 900, 100), 0);
            Edge.due("0 at least", let(900, 50, false, 0, 200), 0);
            Edge.due("OUTSIDE as high as INSIDE", let(55, 50, false, 0, 200), 50);
            Edge.due("OUTSIDE above INSIDE", let(0, 50, false, 0, 200), 50);
            Edge.due("OUTSIDE lower by 1", let(56, 50, false, 0, 100), 49);
            Edge.due("OUTSIDE above sill", let(60, 50, false, 104, 100), 45);
            Edge.due("sill above OUTSIDE", let(60, 50, false, 106, 100), 46);
            Edge.due("without WATER", let(2000, 0, false, 0, 200), 0);
            LooseWater x = new LooseWater();
            x.ship(400, 1, 1, 999);
            x.place(2000, 100, 100, 100, 1, 0);
            x.port(0, -1, 0, 200);
            x.sets(2, 59);
            Edge.plan(x, "pace 0");
            Edge.due("OUTSIDE below 0", x.outside(-1), -1710);
            x.run(0, 1);
            Edge.due("0 is not above the sill", x.of(0, 0), 0);
        });
        Edge.test(14, "(3) PORTS, by their numbers", () -> {
            LooseWater x = Edge.crank();
            x.place(900, 100, 100, 100, 1, 0);
            x.water(0, 100);
            x.port(0, 0, 950, 50);
            x.port(0, 0, 900, 50);
            Edge.plan(x, "pace 0");
            x.run(0, 1);
            // 25 of 50; then INSIDE is 975: 37 of 75
            Edge.due("the high one first", x.of(0, 0), 100 - 25 - 37);
            LooseWater y = Edge.crank();
            y.place(900, 100, 100, 100, 1, 0);
            y.water(0, 100);
            y.port(0, 0, 900, 50);
            y.port(0, 0, 950, 50);
            Edge.plan(y, "pace 0");
            y.run(0, 1);
            // 50 of 100; then INSIDE is 950: none
            Edge.due("the low one first", y.of(0, 0), 50);
            LooseWater z = Edge.crank();
            z.place(900, 100, 100, 100, 1, 0);
            z.port(0, 1, 900, 100);
            z.door(0, 0, 0, 50);
            Edge.plan(z, "pace 0");
            z.run(0, 1);
            // 50 come in, to 950; all of it goes out
            Edge.due("behind the doors", z.of(0, 0), 0);
        });
    }

    /** WATER of a place of 100 behind a round with one door or port ahead. */
    private static int let(int bottom, int water, boolean door, int sill, int width) {
        LooseWater x = Edge.crank();
        x.place(bottom, 100, 100, 100, 1, 0);
        x.water(0, water);
        if (door) {
            x.door(0, 0, sill, width);
        } else {
            x.port(0, 0, sill, width);
        }
        Edge.plan(x, "pace 0");
        x.run(0, 1);
        return x.of(0, 0);
    }

    // ---- cargo and lean

    private static void ends() {
        Edge.test(14, "(4) CARGO whose angle LEAN, without sign, is above, has SLID to that side.", () -> {
            int[][] told = {{1, 1, 0}, {1, 2, 1}, {1, -1, 0}, {1, -2, -1}, {58, 58, 0}, {58, 59, 1}, {58, -59, -1},
                {59, 59, 0}, {60, 59, 0}, {1, 0, 0}};
            for (int[] t : told) {
                LooseWater x = Edge.leaf();
                x.cargo(1, 0, t[0], 0);
                x.sets(2, t[1]);
                Edge.plan(x, "pace 0");
                x.run(0, 1);
                Edge.due("angle " + t[0] + ", LEAN " + t[1], x.slid(0), t[2]);
            }
            LooseWater x = Edge.leaf();
            x.cargo(1, 0, 5, 0);
            x.sets(2, 6);
            Edge.plan(x, "pace 0");
            x.run(0, 1);
            x.sets(2, 0);
            x.run(0, 1);
            Edge.due("it stays when she is upright", x.slid(0), 1);
            x.sets(2, -5);
            x.run(0, 1);
            Edge.due("it stays at its angle", x.slid(0), 1);
            LooseWater y = Edge.crank();
            y.cargo(1, 0, 3, 200);
            y.sets(2, 3);
            Edge.plan(y, "pace 0");
            Edge.due("she leans to 6 in this round", y.run(0, 1), 6);
            Edge.due("and it slides in the next one", y.slid(0), 0);
            y.run(0, 1);
            Edge.due("slid", y.slid(0), 1);
        });
        Edge.test(14, "(5) LEAN goes to REST from it, but by 3 degrees at most.", () -> {
            int[][] over = {{0, 0}, {1, 4}, {56, 59}, {57, 60}, {58, 60}, {59, 60}, {-1, -4}, {-56, -59}, {-58, -60}};
            for (int[] t : over) Edge.due("over from " + t[0], leant(Edge.crank(), t[0]), t[1]);
            int[][] back = {{59, 56}, {4, 1}, {3, 0}, {2, 0}, {1, 0}, {0, 0}, {-1, 0}, {-3, 0}, {-4, -1}, {-59, -56}};
            for (int[] t : back) Edge.due("back from " + t[0], leant(Edge.steady(), t[0]), t[1]);
            LooseWater x = Edge.steady();
            x.sets(0, 350);
            // REST from 0 is 1, from 1 it is 0
            Edge.due("one degree", leant(x, 0), 1);
        });
        Edge.test(14, "ROUND is 1 more.", () -> {
            LooseWater x = Edge.leaf();
            Edge.plan(x, "pace 0");
            x.run(0, 1);
            Edge.due("one", x.tells(1), 1);
            x.run(0, 60);
            Edge.due("sixty", x.tells(1), 61);
        });
    }

    private static int leant(LooseWater x, int lean) {
        x.sets(2, lean);
        Edge.plan(x, "pace 0");
        return x.run(0, 1);
    }

    public static void main(String[] args) {
        heights();
        clauses();
        openings();
        ends();
        Edge.finish();
    }
}
