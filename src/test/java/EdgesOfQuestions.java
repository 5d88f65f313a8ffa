/** The edges that III and IV name: STIFF to ICE, LOADS to IMAGES. */
public final class EdgesOfQuestions {

    // ---- STIFF, BEAT, LOLL, RANGE

    private static void stiffness() {
        Edge.test(15, "STIFF: TOTAL * LEVER of 5 less UP * SIN of 5 by 1000, downwards, less all RUNS at 5, times 1000 by (TOTAL * SIN of 5), downwards.", () -> {
            LooseWater x = Edge.crank();
            x.form(1, 44);
            Edge.due("44000 less 44000", x.tells(6), 0);
            x.cargo(1, 512, 60, 0);
            // 44044 less 44045: -1000 by 88088
            Edge.due("downwards below 0", x.tells(6), -1);
            x = Edge.crank();
            x.form(1, 44);
            x.cargo(1, 489, 60, 0);
            // 44044 less 44043: 1000 by 88088
            Edge.due("downwards above 0", x.tells(6), 0);
            x = Edge.leaf();
            x.form(1, 3000);
            Edge.due("the most: 3000000 by 88", x.tells(6), 34090);
            x = new LooseWater();
            x.ship(10, 99999, 3000, 1);
            Edge.due("as high as can be", x.tells(6), -3000);
            x = Edge.leaf();
            for (int i = 0; i < 12; i++) {
                x.place(0, 999, 400, 2000, 1, 0);
                x.water(i, 39960);
            }
            // UP 119400481 gives 10507242, twelve RUNS of 9386666; -123147234000 by 42197848
            Edge.due("twelve RUNS", x.tells(6), -2919);
        });
        Edge.test(15, "BEAT: the greatest whole t with t * t * STIFF not above 64 * her breadth * her breadth (none if STIFF is not above 0).", () -> {
            LooseWater x = Edge.crank();
            x.form(1, 44);
            Edge.due("STIFF 0", x.tells(7), -1);
            x.cargo(1, 512, 60, 0);
            Edge.due("STIFF -1", x.tells(7), -1);
            for (int breadth : new int[] {10, 100, 400}) {
                LooseWater y = new LooseWater();
                y.ship(breadth, 1000, 500, 10);
                y.form(1, 45);
                y.cargo(10, 1534, 60, 0);
                // 45450 less 45349: 101000 by 88880
                Edge.due("STIFF 1", y.tells(6), 1);
                Edge.due("8 * breadth and no more", y.tells(7), 8 * breadth);
            }
            LooseWater z = Edge.leaf();
            z.form(1, 563);
            // 563000 by 88; 6400 is not below 6397
            Edge.due("STIFF", z.tells(6), 6397);
            Edge.due("a BEAT of 1", z.tells(7), 1);
            z.form(1, 564);
            Edge.due("STIFF", z.tells(6), 6409);
            Edge.due("a BEAT of 0", z.tells(7), 0);
        });
        Edge.test(15, "LOLL: REST from 1 if ASIDE, off of all PLACES and SLID of all CARGO were 0 (0 is none).", () -> {
            Edge.due("none", Edge.steady().tells(8), 0);
            Edge.due("over", Edge.crank().tells(8), 60);
            Edge.due("TURN at 1 is 0", Edge.leaf().tells(8), 1);
            LooseWater x = Edge.leaf();
            x.sets(0, -99999);
            Edge.due("ASIDE", x.rest(1), -60);
            Edge.due("as if ASIDE were 0", x.tells(8), 1);
            Edge.due("ASIDE stays", x.tells(2), -99999);
            x = Edge.leaf();
            x.place(0, 1, 100, 100, 1, -200);
            x.water(0, 1);
            Edge.due("off", x.rest(1), -60);
            Edge.due("as if off were 0", x.tells(8), 1);
            Edge.due("off stays", x.of(0, 4), -200);
            x = Edge.leaf();
            x.cargo(1, 0, 1, 200);
            x.sets(2, -2);
            Edge.plan(x, "pace 0");
            x.run(0, 1);
            Edge.due("SLID", x.rest(1), -60);
            Edge.due("as if SLID were 0", x.tells(8), 1);
            Edge.due("SLID stays", x.slid(0), -1);
            x = Edge.steady();
            x.sets(0, 99999);
            x.sets(2, 50);
            Edge.due("nor does LEAN matter", x.tells(8), 0);
        });
        Edge.test(15, "RANGE: the first LEAN d above 0, d behind REST from LEAN or 0, whichever is greater, at which TURN is above 0 and not below it at any LEAN from there to 60; 61 if there is none.", EdgesOfQuestions::ranges);
    }

    private static void ranges() {
        LooseWater x = Edge.feather();
        Edge.due("REST from 0 is 0", x.tells(9), 1);
        x.sets(2, -1);
        Edge.due("REST is -60", x.tells(9), 1);
        x.sets(2, 1);
        Edge.due("REST is 60", x.tells(9), 61);
        Edge.due("TURN is 0 everywhere", Edge.leaf().tells(9), 61);
        Edge.due("TURN is below 0 everywhere", Edge.steady().tells(9), 61);
        x.sets(2, 0);
        x.form(11, 817);
        Edge.due("0 at 55 is not below it", x.tells(9), 1);
        x.form(11, 818);
        Edge.due("-1 at 55 is", x.tells(9), 56);
        x.form(11, 3000);
        x.form(12, 863);
        Edge.due("1 at 60", x.tells(9), 60);
        x.form(12, 864);
        Edge.due("0 at 60", x.tells(9), 61);
        x.form(12, 865);
        Edge.due("-1 at 60", x.tells(9), 61);
        LooseWater y = Edge.feather();
        y.form(1, 50);
        y.form(2, 175);
        // above 0 from 1 to 9, 0 at 10, above 0 from 11 on
        Edge.due("from 0 on", y.tells(9), 1);
        y.sets(2, 1);
        Edge.due("REST from 1", y.rest(1), 10);
        Edge.due("behind it", y.tells(9), 11);
    }

    // ---- SINKS, PARTS, CARRIED

    private static void whatItTakes() {
        Edge.test(25, "SINKS her: the least of hundredths (0 to 100) of CAP (CAP times it by 100, downwards) of a PLACE with which as WATER, all else as it is, LOLL is not 0.", () -> {
            Edge.due("empty, she lolls", sinking(crankPlace()), 0);
            // at 1: 170 less 10 * LEVER of 1; 1 in it, full, is 204 less 11 * LEVER
            LooseWater x = tenShip(90, 100, 10, 10);
            Edge.due("CAP 1: 99 hundredths are none", sinking(x), 100);
            x = tenShip(100, 100, 10, 10);
            Edge.due("not even full", sinking(x), -2);
            // 1 in it runs, too: 204 and 500 less 198
            x = tenShip(90, 99, 100, 100);
            Edge.due("CAP 99: 1 hundredth is none", sinking(x), 2);
            x = tenShip(90, 100, 100, 100);
            Edge.due("CAP 100", sinking(x), 1);
            x.water(0, 100);
            Edge.due("whatever is in it", sinking(x), 1);
            Edge.due("it stays", x.of(0, 0), 100);
            x = Edge.steady();
            x.place(0, 1, 1, 1, 1, 0);
            Edge.due("CAP 0", sinking(x), -2);
            // 199 of 199 at 2497, 503903: 8566 less 41 * 209; one more would be 8615 less 41 * 210
            x = new LooseWater();
            x.ship(10, 10, 700, 1);
            x.form(1, 205);
            x.place(2000, 999, 1, 2000, 1, 0);
            Edge.due("100 hundredths are the most", sinking(x), -2);
            // TURN at 1 is 0: LOLL is 1
            Edge.due("just 0", sinking(tenShip(85, 100, 10, 10)), 0);
        });
        Edge.test(26, "PARTS: the least walls (1 to 9) of a PLACE with which LOLL is 0.", () -> {
            // at 1: 170 and RUN less TOTAL * LEVER of 1; RUN with 1, 2, 8, 9 parts: 1416, 354, 22, 17
            LooseWater x = partShip(500);
            Edge.due("one", x.parts(0), 1);
            x = partShip(150);
            Edge.due("two: 524 less 600", x.parts(0), 2);
            x = partShip(48);
            x.cargo(1, 0, 60, 0);
            Edge.due("nine: 187 less 189", x.parts(0), 9);
            Edge.due("walls stay", x.of(0, 3), 1);
            x = partShip(48);
            Edge.due("none: 187 less 180", x.parts(0), -2);
            x.walls(0, 4);
            Edge.due("none, whatever they are", x.parts(0), -2);
            Edge.due("they stay", x.of(0, 3), 4);
            x = partShip(25);
            x.cargo(17, 0, 60, 0);
            // TOTAL 37: 170 and 17 less 185; ten parts would do
            Edge.due("nine are the most", x.parts(0), -2);
        });
        Edge.test(27, "CARRIED: a weight (1 to 999) carried by so much (1 to 999) to the right: ASIDE more by their product: REST from LEAN then", () -> {
            LooseWater x = Edge.leaf();
            Edge.due("the least", x.carried(1, 1, 0), 60);
            Edge.due("the most", x.carried(999, 999, 0), 60);
            Edge.due("weight 0", x.carried(0, 1, 0), -2000000);
            Edge.due("weight 1000", x.carried(1000, 1, 0), -2000000);
            Edge.due("far 0", x.carried(1, 0, 0), -2000000);
            Edge.due("far 1000", x.carried(1, 1000, 0), -2000000);
            x.sets(0, -6);
            Edge.due("-1 yet", x.carried(5, 1, 0), -60);
            Edge.due("just 0", x.carried(2, 3, 0), 0);
            Edge.due("1 more", x.carried(7, 1, 0), 60);
            x.sets(2, 9);
            Edge.due("from LEAN", x.carried(2, 3, 0), 9);
            Edge.due("ASIDE stays", x.tells(2), -6);
            // its bounds are of what is set, or shifted: nothing is held here
            LooseWater y = Edge.shaped(250);
            y.sets(0, 99999);
            // LEVER 50 a degree: 925990 + 187500 - 1100000 at 22, 918990 + 195500 - 1150000 at 23;
            // with 998001 more 5489955 + 432000 - 3000000 at 60
            Edge.due("the most ASIDE", y.rest(0), 23);
            Edge.due("beyond the bounds of ASIDE", y.carried(999, 999, 0), 60);
        });
        Edge.test(27, "STIFF by it: the product * 10 * 1000 by (TOTAL * SIN of how far that is from REST from LEAN now, 90 at most), downwards.", () -> {
            LooseWater x = Edge.leaf();
            // REST 0 and 60: 10000 by 864; 9980010000 by 864
            Edge.due("60 degrees", x.carried(1, 1, 1), 11);
            Edge.due("the most", x.carried(999, 999, 1), 11550937);
            x.sets(0, -1);
            // REST -60 and 60: 120 are 90; 19980000 by 1000
            Edge.due("90 at most", x.carried(999, 2, 1), 19980);
            // REST -60 and 0
            Edge.due("to 0", x.carried(1, 1, 1), 11);
            LooseWater y = new LooseWater();
            y.ship(10, 99999, 1, 1);
            Edge.due("downwards to 0", y.carried(1, 1, 1), 0);
            Edge.due("it leans otherwise", y.carried(1, 1, 0), 60);
            // 98 * 10 and 8500 - 12000: REST 1; 980000 by 17000
            Edge.due("one degree", Edge.steady().carried(98, 1, 1), 57);
        });
    }

    private static LooseWater crankPlace() {
        LooseWater x = Edge.crank();
        x.place(0, 100, 100, 100, 1, 0);
        return x;
    }

    /** TOTAL 10, UP 10000, one place at 2000. */
    private static LooseWater tenShip(int lever, int depth, int breadth, int length) {
        LooseWater x = new LooseWater();
        x.ship(10, 10, 1000, 1);
        x.form(1, lever);
        x.place(2000, depth, breadth, length, 1, 0);
        return x;
    }

    /** TOTAL 20 and UP 10050: 10 of 20 in one place. */
    private static LooseWater partShip(int lever) {
        LooseWater x = new LooseWater();
        x.ship(10, 10, 1000, 1);
        x.form(1, lever);
        x.place(0, 20, 100, 100, 1, 0);
        x.water(0, 10);
        return x;
    }

    private static int sinking(LooseWater x) {
        return x.sinks(0);
    }

    // ---- ORDER

    private static void orders() {
        Edge.test(28, "ORDER: a set of PLACES (1 to 6), each filled to its CAP, one behind the other", () -> {
            LooseWater x = Edge.leaf();
            for (int i = 0; i < 7; i++) x.place(0, 100, 100, 100, 1, 0);
            Edge.due("none", x.order(0, 59, 0), -1);
            Edge.due("one", x.order(1, 59, 0), 0);
            Edge.due("the last", x.order(64, 59, 0), 6);
            for (int k = 0; k < 6; k++) Edge.due("six", x.order(126, 59, k), k + 1);
            Edge.due("seven", x.order(127, 59, 0), -1);
            Edge.due("one that is not there", x.order(128, 59, 0), -1);
            Edge.due("one there and one not", x.order(129, 59, 0), -1);
            Edge.due("the least int", x.order(Edge.LEAST, 59, 0), -1);
            Edge.due("-1", x.order(-1, 59, 0), -1);
            Edge.due("the most int", x.order(Edge.MOST, 59, 0), -1);
            Edge.due("nothing is filled", x.tells(4), 1);
            for (int i = 7; i < 12; i++) x.place(0, 100, 100, 100, 1, 0);
            Edge.due("twelve there, the last", x.order(1 << 11, 59, 0), 11);
            Edge.due("a thirteenth", x.order(1 << 12, 59, 0), -1);
            Edge.due("the highest bit but one", x.order(1 << 30, 59, 0), -1);
            x.water(0, 100);
            Edge.due("full already", x.order(1, 59, 0), 0);
        });
        Edge.test(28, "so that at each step, half full (CAP by 2, downwards; left out if it has more) and full", () -> {
            // LEAN 1. Half full, 50 at 1025: 9371 and 1416 less 10500 turns her on, beyond 10 degrees;
            // full, 100 at 1050: 10285 less 11000 turns her back
            int[][] told = {{100, 0, -2}, {100, 49, -2}, {100, 50, -2}, {100, 51, 0}, {100, 100, 0},
                {101, 50, -2}, {101, 51, 0}};
            for (int[] t : told) {
                LooseWater x = Edge.shaped(50);
                x.place(1000, t[0], 100, 100, 1, 0);
                x.water(0, t[1]);
                x.sets(2, 1);
                Edge.due(t[1] + " of " + t[0], x.order(1, 10, 0), t[2]);
                Edge.due("it stays", x.of(0, 0), t[1]);
            }
        });
        Edge.test(28, "REST from what it was last (LEAN at first) is not above a bound (1 to 59) without sign", () -> {
            // off 20: 5 degrees half full, 4 full (see the remark at offShip)
            for (int side = -1; side <= 1; side += 2) {
                LooseWater x = offShip(20 * side);
                Edge.due("5", x.order(1, 5, 0), 0);
                Edge.due("4", x.order(1, 4, 0), -2);
                Edge.due("1", x.order(1, 1, 0), -2);
                Edge.due("59", x.order(1, 59, 0), 0);
                Edge.due("bound 0", x.order(1, 0, 0), -1);
                Edge.due("bound 60", x.order(1, 60, 0), -1);
            }
            for (int side = -1; side <= 1; side += 2) {
                LooseWater x = offShip(20 * side);
                x.walls(0, 9);
                // half full 2368 at 2, -1200 at 3; full 7125 at 3, 2490 at 4, -1640 at 5
                Edge.due("3 half full, 5 full", x.order(1, 5, 0), 0);
                Edge.due("3 half full, 5 full", x.order(1, 4, 0), -2);
            }
            LooseWater y = Edge.leaf();
            y.place(0, 1, 1, 1, 1, 0);
            y.sets(2, 59);
            Edge.due("LEAN at first: it stays at 59", y.order(1, 59, 0), 0);
            Edge.due("which is above 58", y.order(1, 58, 0), -2);
            y.sets(2, -59);
            Edge.due("to the left, too", y.order(1, 58, 0), -2);
            y.sets(2, 60);
            Edge.due("over", y.order(1, 59, 0), -2);
        });
        Edge.test(28, "the first such row of all (the lesser PLACE first where they part).", () -> {
            LooseWater x = offShip(20);
            x.place(0, 100, 100, 100, 1, -20);
            x.place(0, 999, 100, 100, 1, 0);
            Edge.due("any bound", x.order(7, 59, 0), 0);
            Edge.due("any bound", x.order(7, 59, 1), 1);
            Edge.due("any bound", x.order(7, 59, 2), 2);
            // neither of the first two within 4, but behind 999 low down: 2, then 3 degrees
            Edge.due("the last first", x.order(7, 4, 0), 2);
            Edge.due("then the first", x.order(7, 4, 1), 0);
            Edge.due("then the second", x.order(7, 4, 2), 1);
            Edge.due("none", x.order(7, 1, 0), -2);
        });
    }

    /**
     * LEVER 12 a degree. Half full: 10000 aside, TOTAL 1050, UP 501250: TURN at 4 is 9970 + 35087 + 5833
     * - 50400 = 490, at 5 it is 9960 + 44110 + 7333 - 63000 = -1597. Full: 20000 aside, TOTAL 1100, UP
     * 505000: at 5 19920 + 44440 - 66000 = -1640, at 4 19940 + 35350 - 52800 = 2490.
     */
    private static LooseWater offShip(int off) {
        LooseWater x = Edge.steady();
        x.place(0, 100, 100, 100, 1, off);
        return x;
    }

    // ---- AHEAD, SAVED, HOSES, ICE

    private static void aheads() {
        Edge.test(29, "AHEAD of n ROUNDS (0 to 60) by a PLAN: LEAN, OVER, WATER of all PLACES together then", () -> {
            LooseWater x = Edge.crank();
            x.place(0, 100, 100, 100, 1, 0);
            x.place(0, 100, 100, 100, 1, 0);
            x.water(1, 30);
            Edge.plan(x, "fill a 3; shift 1");
            Edge.due("now", x.ahead(0, 0, 0), 0);
            Edge.due("now", x.ahead(0, 0, 1), 0);
            Edge.due("now", x.ahead(0, 0, 2), 30);
            Edge.due("19", x.ahead(0, 19, 0), 57);
            Edge.due("19", x.ahead(0, 19, 1), 0);
            Edge.due("19", x.ahead(0, 19, 2), 30 + 57);
            Edge.due("20", x.ahead(0, 20, 0), 60);
            Edge.due("20", x.ahead(0, 20, 1), 1);
            Edge.due("60: no more water once she is OVER", x.ahead(0, 60, 2), 30 + 60);
            Edge.due("-1", x.ahead(0, -1, 0), Edge.UNTOLD);
            Edge.due("61", x.ahead(0, 61, 0), Edge.UNTOLD);
            Edge.due("it stays", x.of(0, 0), 0);
            Edge.due("no ROUND", x.tells(1), 0);
            Edge.due("no places", noPlaces().ahead(0, 5, 2), 0);
            // 9999 is a bound of what goes by, not of what would (see NOTES.md)
            LooseWater y = Edge.leaf();
            Edge.plan(y, "pace 0");
            for (int i = 0; i < 166; i++) y.run(0, 60);
            y.run(0, 39);
            Edge.due("at ROUND 9999", y.ahead(0, 60, 0), 0);
            Edge.due("ROUND 9999 yet", y.tells(1), 9999);
        });
        Edge.test(29, "the first ROUND from now on (0: now) behind which she is OVER.", () -> {
            LooseWater x = Edge.crank();
            Edge.plan(x, "shift 1");
            Edge.due("none in 0", x.ahead(0, 0, 3), -2);
            Edge.due("none in 19", x.ahead(0, 19, 3), -2);
            Edge.due("the last of 20", x.ahead(0, 20, 3), 20);
            Edge.due("of 60", x.ahead(0, 60, 3), 20);
            x.run(0, 5);
            Edge.due("from now on", x.ahead(0, 60, 3), 15);
            x.sets(2, -60);
            Edge.due("now, of 0", x.ahead(0, 0, 3), 0);
            Edge.due("now, of 60", x.ahead(0, 60, 3), 0);
        });
        Edge.test(30, "SAVED: from an IMAGE on, by one PLAN for k ROUNDS, then by another one for n less k: the greatest k (0 to n) with which she is not OVER at the end.", () -> {
            LooseWater x = Edge.crank();
            Edge.plan(x, "shift 1");
            Edge.plan(x, "shift 0");
            x.form(12, 3000);
            x.form(11, 3000);
            x.form(10, 3000);
            x.form(9, 3000);
            // by the first to the right, 3 degrees a ROUND; LEVERS from 41 on hold her
            x.image(0);
            Edge.due("0 ROUNDS", x.saved(0, 0, 1, 0), 0);
            Edge.due("30 ROUNDS", x.saved(0, 0, 1, 30), 30);
            LooseWater y = Edge.crank();
            Edge.plan(y, "shift 1");
            Edge.plan(y, "shift 0");
            y.image(3);
            Edge.due("19 of 19", y.saved(3, 0, 0, 19), 19);
            Edge.due("none of 20", y.saved(3, 0, 0, 20), -2);
            // upright she stays so by the second; one ROUND of the first and she goes on by herself
            Edge.due("all 20 by the second", y.saved(3, 1, 0, 20), 20);
            Edge.due("none by the first", y.saved(3, 0, 1, 20), 0);
            Edge.due("all 30 by the second", y.saved(3, 1, 0, 30), 30);
            Edge.due("none of 30 by the first", y.saved(3, 0, 1, 30), 0);
            y.sets(2, 60);
            y.image(1);
            Edge.due("OVER in it, 0 ROUNDS", y.saved(1, 0, 1, 0), -2);
            Edge.due("OVER in it, 30 ROUNDS", y.saved(1, 0, 1, 30), -2);
            Edge.due("of the IMAGE, not of now", y.saved(3, 0, 0, 19), 19);
        });
        Edge.test(31, "HOSES: the greatest number (0 to 99) by which WATER of a PLACE can be more in each of n ROUNDS (ahead of each, CAP at most) by a PLAN so that she is not OVER at the end.", EdgesOfQuestions::hoses);
        Edge.test(32, "ICE: the least number of times (0 to 200) that so much weight (1 to 999) must come at a height (0 to 3000) for LOLL not to be 0.", () -> {
            LooseWater x = Edge.steady();
            Edge.due("at once", Edge.crank().ice(1, 0), 0);
            Edge.due("at once, with a TURN of 0", Edge.leaf().ice(1, 0), 0);
            // at 1 it is -3500; 200 at 1736 each make it 14402 - 14400, 199 of them 14372 - 14388
            Edge.due("200", x.ice(1, 1736), 200);
            // 200 at 1735 make it 14399 - 14400
            Edge.due("more than 200", x.ice(1, 1735), -2);
            // 999 at 3000: 59449 - 23988
            Edge.due("one", x.ice(999, 3000), 1);
            Edge.due("never", x.ice(999, 0), -2);
            Edge.due("weight 0", x.ice(0, 9), -1);
            Edge.due("weight 1000", x.ice(1000, 9), -1);
            Edge.due("height -1", x.ice(9, -1), -1);
            Edge.due("height 3001", x.ice(9, 3001), -1);
            Edge.due("none stays aboard", x.tells(4), 1000);
        });
    }

    private static LooseWater noPlaces() {
        LooseWater x = Edge.crank();
        Edge.plan(x, "fill a 5");
        return x;
    }

    private static void hoses() {
        LooseWater x = Edge.crank();
        x.place(0, 100, 100, 100, 1, 0);
        x.place(0, 100, 100, 100, 1, 1);
        x.place(0, 30, 100, 100, 1, 1);
        Edge.plan(x, "pace 0");
        Edge.plan(x, "pump b 40; pump c 30");
        Edge.plan(x, "pump b 9999 if b >= 50");
        Edge.due("99 amidships", x.hoses(0, 0, 20), 99);
        // any water there and she goes over, 3 degrees a ROUND
        Edge.due("19 ROUNDS", x.hoses(0, 1, 19), 99);
        Edge.due("20 ROUNDS", x.hoses(0, 1, 20), 0);
        Edge.due("1 ROUND", x.hoses(0, 1, 1), 99);
        Edge.due("0 ROUNDS", x.hoses(0, 1, 0), -1);
        Edge.due("21 ROUNDS", x.hoses(0, 1, 21), -1);
        Edge.due("ahead of each: as much as is pumped", x.hoses(1, 1, 20), 40);
        Edge.due("CAP at most: 30 of 99 come, and are pumped", x.hoses(1, 2, 20), 99);
        Edge.due("the greatest, though lesser ones are too much", x.hoses(2, 1, 20), 99);
        Edge.due("no water", x.tells(4), 1000);
        x.sets(2, 1);
        Edge.due("58 degrees behind 19", x.hoses(0, 0, 19), 99);
        Edge.due("none: over by herself", x.hoses(0, 0, 20), -2);
        x.sets(2, -60);
        Edge.due("none: over now", x.hoses(0, 0, 1), -2);
    }

    // ---- LOADS, NIGHT, GUESS

    private static void guesses() {
        Edge.test(33, "LOADS 0 to 5: a weight (1 to 9999), a height (0 to 3000).", () -> {
            LooseWater x = Edge.crank();
            int[][] others = {{0, 9}, {10000, 9}, {9, -1}, {9, 3001}, {Edge.LEAST, 9}, {Edge.MOST, 9},
                {9, Edge.LEAST}, {9, Edge.MOST}};
            for (int[] o : others) Edge.due("another", x.load(o[0], o[1]), -1);
            Edge.due("least", x.load(1, 0), 0);
            Edge.due("most", x.load(9999, 3000), 1);
            for (int i = 2; i < 6; i++) Edge.due("number", x.load(9, 9), i);
            Edge.due("a seventh", x.load(9, 9), -1);
            Edge.due("six", x.count(6), 6);
        });
        Edge.test(34, "NIGHT: the first row of all LOADS (the lesser first where they part) so that STIFF is not below a bound behind each of them that comes aboard (TOTAL more by the weight, UP by weight times height).", () -> {
            LooseWater x = Edge.steady();
            x.load(100, 3000);
            x.load(1000, 0);
            x.load(50, 500);
            // STIFF with 0: (66000 - 70400) * 1000 by 96800 = -46; 1: 431; 2: (63000 - 46200) by 92400 = 181;
            // 0 and 2: (69000 - 72600) * 1000 by 101200 = -36; 1 and 0: 300; 1 and 2: 425; all: 298
            Edge.due("all in their order", x.night(-46, 0), 0);
            Edge.due("all in their order", x.night(-46, 1), 1);
            Edge.due("all in their order", x.night(-46, 2), 2);
            Edge.due("not the first first", x.night(-45, 0), 1);
            Edge.due("then the first", x.night(-45, 1), 0);
            Edge.due("at the bound", x.night(298, 0), 1);
            Edge.due("298 is below", x.night(299, 0), -2);
            Edge.due("any", x.night(-99999, 2), 2);
            Edge.due("none", x.night(99999, 2), -2);
            Edge.due("not aboard", x.tells(4), 1000);
            LooseWater y = Edge.steady();
            for (int i = 0; i < 6; i++) y.load(1, 500);
            for (int i = 0; i < 6; i++) Edge.due("six that are the same", y.night(0, i), i);
        });
        Edge.test(35, "GUESS for a LEAN and a BEAT: of all PLACES, and hundredths (0 to 100) of its CAP as WATER of it, all else as it is", () -> {
            LooseWater x = Edge.leaf();
            x.place(0, 1, 100, 100, 1, 200);
            // CAP 1: 1 in it, at 100 hundredths alone, and she goes to 60
            Edge.due("full", x.guess(60, 0, 1), 100);
            Edge.due("full is not off", x.guess(60, 0, 2), 0);
            Edge.due("empty", x.guess(0, 0, 1), 0);
            Edge.due("empty is not off", x.guess(0, 0, 2), 0);
            x.water(0, 1);
            Edge.due("whatever is in it", x.guess(0, 0, 1), 0);
            Edge.due("it stays", x.of(0, 0), 1);
            x.place(0, 1, 1, 1, 1, 0);
            // all else as it is: with the first one full she is over, whatever is in the second
            Edge.due("the second for 60: the first is as good", x.guess(60, 0, 0), 0);
            Edge.due("the first alone for 0", x.guess(0, 0, 0), 0);
        });
        Edge.test(35, "how far REST from 0 is from that LEAN, times 10, and how far BEAT (0 if there is none) is from that BEAT, together", () -> {
            LooseWater x = Edge.crank();
            x.place(0, 1, 1, 1, 1, 0);
            // REST 0, no BEAT
            Edge.due("0 and 0", x.guess(0, 0, 2), 0);
            Edge.due("-60 and 9999", x.guess(-60, 9999, 2), 600 + 9999);
            Edge.due("60 and 9999", x.guess(60, 9999, 2), 600 + 9999);
            Edge.due("1 and 1", x.guess(1, 1, 2), 11);
            Edge.due("LEAN -61", x.guess(-61, 0, 2), -1);
            Edge.due("LEAN 61", x.guess(61, 0, 2), -1);
            Edge.due("BEAT -1", x.guess(0, -1, 2), -1);
            Edge.due("BEAT 10000", x.guess(0, 10000, 2), -1);
            LooseWater y = Edge.steady();
            y.place(0, 1, 1, 1, 1, 0);
            y.sets(2, 50);
            // BEAT 59; REST is from 0, not from LEAN
            Edge.due("BEAT", y.guess(0, 59, 2), 0);
            Edge.due("below BEAT", y.guess(0, 0, 2), 59);
            Edge.due("above BEAT", y.guess(0, 60, 2), 1);
        });
        Edge.test(35, "the least, of several the least PLACE, then the least hundredth.", () -> {
            LooseWater x = Edge.steady();
            for (int i = 0; i < 12; i++) x.place(0, 1, 100, 100, 1, i < 11 ? 0 : 200);
            // one of 1000 moves neither REST nor BEAT; the last one full is 2000 aside: REST 1
            LooseWater y = Edge.steady();
            y.place(0, 100, 400, 2000, 1, 0);
            // full: 540000 - 79200, STIFF 581, BEAT 33; 99 of 100: STIFF 378, BEAT 41; empty 59; none between
            Edge.due("100 hundredths are the most", y.guess(0, 30, 1), 100);
            Edge.due("3 off", y.guess(0, 30, 2), 3);
            Edge.due("the least PLACE", x.guess(0, 59, 0), 0);
            Edge.due("the least hundredth", x.guess(0, 59, 1), 0);
            Edge.due("the last PLACE", x.guess(1, 59, 0), 11);
            Edge.due("its last hundredth", x.guess(1, 59, 1), 100);
            Edge.due("not off", x.guess(1, 59, 2), 0);
        });
    }

    // ---- BEST

    private static void bests() {
        Edge.test(36, "A ROW of PLANS: n stages (1 to 4) of r ROUNDS (1 to 10) each, each by one PLAN, from now on: its WORST is the greatest LEAN, without sign, behind any of these ROUNDS.", () -> {
            LooseWater x = Edge.crank();
            Edge.plan(x, "shift 1");
            // 3 degrees a ROUND
            Edge.due("1 of 1", x.best(1, 1, -1), 3);
            Edge.due("1 of 10", x.best(1, 10, -1), 30);
            Edge.due("4 of 1", x.best(4, 1, -1), 12);
            Edge.due("4 of 10", x.best(4, 10, -1), 60);
            Edge.due("0 stages", x.best(0, 1, -1), -3);
            Edge.due("5 stages", x.best(5, 1, -1), -3);
            Edge.due("0 ROUNDS", x.best(1, 0, -1), -3);
            Edge.due("11 ROUNDS", x.best(1, 11, -1), -3);
            LooseWater y = Edge.steady();
            Edge.plan(y, "shift 0");
            y.sets(2, -59);
            Edge.due("behind the first, not now; without sign", y.best(1, 10, -1), 56);
            y.sets(2, -60);
            Edge.due("over", y.best(1, 1, -1), 60);
            Edge.due("no ROUND went by", y.tells(1), 0);
        });
        Edge.test(36, "BEST: the ROW with the least WORST, of several the first (the lesser PLAN first where they part).", () -> {
            LooseWater x = Edge.steady();
            for (int i = 0; i < 6; i++) Edge.plan(x, i == 4 ? "shift 0" : "shift 2000");
            Edge.due("the least", x.best(4, 10, -1), 0);
            for (int k = 0; k < 4; k++) Edge.due("by the fifth alone", x.best(4, 10, k), 4);
            x.sets(2, 60);
            for (int k = 0; k < 4; k++) Edge.due("all alike", x.best(4, 10, k), 0);
            x.sets(2, 9);
            // 6 behind the first ROUND by any; from 6 by 2000 aside to 7, by 0 to 3, from there to 6 by any
            Edge.due("6 at least", x.best(3, 1, -1), 6);
            Edge.due("any", x.best(3, 1, 0), 0);
            Edge.due("by the fifth", x.best(3, 1, 1), 4);
            Edge.due("any", x.best(3, 1, 2), 0);
        });
    }

    // ---- SLOP, STILL, FLOODS, LEAVES, IMAGES

    private static void beats() {
        Edge.test(37, "SLOP of a PLACE: the greatest whole t with t * t * LEVEL not above 41 * breadth * breadth (none if LEVEL is 0).", () -> {
            LooseWater x = Edge.crank();
            x.place(0, 999, 10, 1000, 1, 0);
            Edge.due("empty", x.slop(0), -2);
            x.water(0, 41);
            Edge.due("100 * 41 is not above 4100", x.slop(0), 10);
            x.water(0, 42);
            Edge.due("100 * 42 is", x.slop(0), 9);
            x.place(0, 999, 1, 2000, 1, 0);
            x.water(1, 8);
            Edge.due("LEVEL 40 is not above 41", x.slop(1), 1);
            x.water(1, 9);
            Edge.due("LEVEL 45 is: a SLOP of 0", x.slop(1), 0);
            x.place(0, 999, 400, 25, 1, 0);
            x.water(2, 1);
            Edge.due("the most", x.slop(2), 2561);
            x.place(0, 999, 400, 2000, 1, 0);
            x.water(3, 79);
            Edge.due("water, but LEVEL 0", x.slop(3), -2);
        });
        Edge.test(38, "STILL: the hundredth (1 to 100) of CAP with which as its WATER SLOP and BEAT (there being both) differ least, of several the least.", () -> {
            LooseWater x = Edge.steady();
            x.place(0, 100, 10, 1000, 1, 0);
            // 1 of 100: LEVEL 1, SLOP 64, BEAT 59; 2 of 100: SLOP 45
            Edge.due("the first", x.still(0), 1);
            x.place(0, 100, 10, 10, 1, 0);
            // CAP 1: no SLOP below 100 hundredths
            Edge.due("the last", x.still(1), 100);
            x.place(0, 200, 10, 100, 1, 0);
            // CAP 20: 1 in it from 5 hundredths on, LEVEL 10: SLOP 20, the greatest
            Edge.due("of several the least", x.still(2), 5);
            Edge.due("it stays", x.of(2, 0), 0);
            x.place(0, 1, 1, 1, 1, 0);
            Edge.due("CAP 0: no SLOP", x.still(3), -2);
            LooseWater y = Edge.crank();
            y.place(0, 100, 100, 100, 1, 0);
            Edge.due("no BEAT", y.still(0), -2);
            LooseWater z = new LooseWater();
            z.ship(10, 1000, 1, 1);
            z.form(1, 3000);
            z.place(0, 999, 1, 2000, 1, 0);
            // BEAT 0 is one; CAP 199, SLOP 0 from 9 on, 5 hundredths
            Edge.due("both 0", z.still(0), 5);
        });
        Edge.test(39, "FLOODS at a side (-1, 1) over a height: the least LEAN, 0 to 60 to that side, at which OUTSIDE there would be above it.", () -> {
            for (int side = -1; side <= 1; side += 2) {
                LooseWater x = Edge.crank();
                // DRAFT 100; 8 at 1, 17 at 2, 427 at 59, 432 at 60
                int[][] told = {{0, 0}, {99, 0}, {100, 1}, {107, 1}, {108, 2}, {526, 59}, {527, 60}, {531, 60}, {532, -2}, {3000, -2}};
                for (int[] t : told) Edge.due("over " + t[0], x.floods(side, t[0]), t[1]);
                x.sets(2, 60);
                x.sets(1, 99);
                Edge.due("whatever LEAN and PACE are", x.floods(side, 100), 1);
                Edge.due("LEAN stays", x.tells(0), 60);
                LooseWater y = new LooseWater();
                y.ship(10, 1, 1, 999);
                // DRAFT 0; 50 * 17 by 1000 is 0, 50 * 35 by 1000 is 1
                Edge.due("over 0", y.floods(side, 0), 2);
            }
            Edge.due("ahead", Edge.crank().floods(0, 100), -1);
        });
        Edge.test(40, "LEAVES: how many times all PORTS of a PLACE (by their numbers, as in a ROUND, all else as it is) must go till its WATER is not above a number (0: now; 400 at most).", EdgesOfQuestions::leaves);
        Edge.test(42, "IMAGES 0 to 3: the SHIP with all that is told of her, as she is; gone back to, she is as she was (PLANS, TAPE stay).", EdgesOfQuestions::images);
        Edge.test(43, "IMAGES 0 to 3: the SHIP with all that is told of her, as she is; gone back to, she is as she was (PLANS, TAPE stay).", EdgesOfQuestions::imagesSail);
    }

    private static void leaves() {
        LooseWater x = Edge.steady();
        x.place(900, 999, 100, 1000, 1, 0);
        x.place(900, 999, 100, 1000, 1, 0);
        x.water(0, 9990);
        x.water(1, 9990);
        Edge.due("now", x.leaves(0, 9990), 0);
        Edge.due("now, of the most", x.leaves(0, 99999), 0);
        Edge.due("no port", x.leaves(0, 9989), -2);
        x.port(1, 0, 0, 200);
        Edge.due("a port of another place", x.leaves(0, 9989), -2);
        // DRAFT 2098 is above INSIDE 1899: none goes by it
        Edge.due("a port below the sea", x.leaves(1, 9989), -2);
        LooseWater y = Edge.steady();
        y.place(900, 999, 100, 1000, 1, 0);
        y.water(0, 9990);
        y.port(0, 0, 1700, 1);
        // LEVEL is a tenth: one goes at a time, as long as it is 100 or more above the sill
        Edge.due("1", y.leaves(0, 9989), 1);
        Edge.due("400", y.leaves(0, 9590), 400);
        Edge.due("401", y.leaves(0, 9589), -2);
        Edge.due("0 is never come to", y.leaves(0, 0), -2);
        Edge.due("it stays", y.of(0, 0), 9990);
        LooseWater z = Edge.steady();
        z.place(900, 100, 100, 100, 1, 0);
        z.water(0, 100);
        z.port(0, 0, 950, 50);
        z.port(0, 0, 900, 50);
        // 25, then 37 of 75; then none and 19 of 38
        Edge.due("both, by their numbers", z.leaves(0, 38), 1);
        Edge.due("both are one time", z.leaves(0, 37), 2);
        Edge.due("twice", z.leaves(0, 19), 2);
        z.port(0, 0, 0, 200);
        Edge.due("to 0", z.leaves(0, 0), 1);
    }

    private static void images() {
        LooseWater x = sailing();
        String was = Edge.tale(x);
        Edge.due("0", x.image(0), 1);
        Edge.due("3", x.image(3), 1);
        Edge.due("-1", x.image(-1), -1);
        Edge.due("4", x.image(4), -1);
        other(x);
        Edge.due("back", x.back(3), 1);
        Edge.due("as she was", Edge.tale(x).equals(was), true);
        x.water(0, 0);
        Edge.plan(x, "pace 5");
        x.feed(1, 2, 3, 4, 5);
        Edge.due("back to the other", x.back(0), 1);
        // 166 * 140 by 1000 is 23: 963 was 43 above the port, 8 went out
        Edge.due("WATER", x.of(0, 0), 32);
        Edge.due("PLANS stay", x.count(4), 2);
        Edge.due("TAPE stays", x.count(5), 20);
    }

    /** What can't be asked of her (doors, ports, loads, cargo) shows in what she does. */
    private static void imagesSail() {
        LooseWater x = sailing();
        LooseWater y = sailing();
        x.image(2);
        other(x);
        x.back(2);
        for (int i = 0; i < 3; i++) Edge.due("NIGHT", x.night(0, i), y.night(0, i));
        Edge.due("NIGHT", x.night(0, 0), 1);
        Edge.due("UP", x.up(), y.up());
        for (int i = 0; i < 4; i++) {
            Edge.due("LEAN", x.run(0, 1), y.run(0, 1));
            Edge.due("as one that never was another", Edge.tale(x).equals(Edge.tale(y)), true);
        }
        Edge.due("water came in", x.of(1, 0) > 0, true);
        Edge.due("water went out", x.of(0, 0) < 32, true);
    }

    private static LooseWater sailing() {
        LooseWater x = Edge.steady();
        x.place(900, 100, 100, 100, 3, 7);
        x.place(9, 100, 100, 100, 1, -7);
        x.water(0, 40);
        x.cargo(10, 10, 2, 10);
        x.cargo(20, 20, 9, 30);
        x.door(1, 1, 50, 10);
        x.port(0, 1, 920, 20);
        x.load(100, 3000);
        x.load(1000, 0);
        x.load(50, 500);
        Edge.plan(x, "pace 4");
        x.sets(2, 8);
        x.run(0, 1);
        x.sets(0, 70);
        x.sets(2, 20);
        return x;
    }

    private static void other(LooseWater x) {
        x.ship(400, 1, 1, 1);
        for (int i = 0; i < 4; i++) {
            x.place(0, 1, 1, 1, 1, 0);
            x.cargo(1, 0, 60, 0);
            x.door(3, 0, 0, 1);
            x.port(3, 0, 0, 1);
            x.load(1, 1);
        }
    }

    public static void main(String[] args) {
        stiffness();
        whatItTakes();
        orders();
        aheads();
        guesses();
        bests();
        beats();
        Edge.finish();
    }
}
