import java.util.function.LongSupplier;

/** The edges that Promise 1 to Promise 43 name themselves: refused calls, and that nothing happens then. */
public final class EdgesOfPromises {
    private static final int UNTOLD = Edge.UNTOLD;
    private static final int LEAST = Edge.LEAST;
    private static final int MOST = Edge.MOST;

    /**
     * One of each thing there is, LEAN 8, ROUND 3, ASIDE 70, PACE 9, the CARGO slid to the left; PLAN 0
     * stops her, PLAN 1 pulls her over.
     */
    private static LooseWater laden() {
        LooseWater x = Edge.steady();
        x.place(50, 100, 100, 100, 2, 5);
        x.water(0, 40);
        x.cargo(10, 10, 2, 10);
        x.door(0, 0, 3000, 1);
        x.port(0, 0, 3000, 1);
        x.load(5, 5);
        Edge.plan(x, "pace 0");
        Edge.plan(x, "shift 99999");
        x.sets(2, -8);
        x.run(0, 3);
        x.sets(0, 70);
        x.sets(1, 9);
        x.sets(2, 8);
        x.image(1);
        return x;
    }

    /** All calls on a new object answer the same; nothing happens. */
    private static void withoutShip(LooseWater x, long want, LongSupplier... calls) {
        Edge.refused(x, want, calls);
        Edge.due("no SHIP yet", x.tells(0), UNTOLD);
    }

    // ---- promises 1 to 9

    private static void ships() {
        Edge.test(1, "The constants: `NONE = -1`: None.", () -> Edge.due("NONE", LooseWater.NONE, -1));
        Edge.test(1, "No SHIP, no PLANS.", () -> {
            LooseWater x = new LooseWater();
            for (int i = 0; i <= 10; i++) Edge.due("tells " + i, x.tells(i), UNTOLD);
            for (int i : new int[] {0, 1, 2, 3, 6}) Edge.due("count " + i, x.count(i), -1);
            Edge.due("PLANS", x.count(4), 0);
            Edge.due("TAPE", x.count(5), 0);
            for (int k = 0; k <= 3; k++) Edge.due("no IMAGES", x.back(k), -1);
            LooseWater y = Edge.leaf();
            new LooseWater();
            Edge.due("another object is another ship", y.tells(4), 1);
        });
        Edge.test(2, "A SHIP is begun in place of one there was (no PLACES, CARGO, DOORS, PORTS, LOADS; LEVERS 0): true", () -> {
            LooseWater x = laden();
            x.feed(1, 2, 3, 4, 5);
            Edge.due("anew", x.ship(50, 20, 30, 3), true);
            for (int i : new int[] {0, 1, 2, 3, 6}) Edge.due("count " + i, x.count(i), 0);
            for (int d = 0; d <= 60; d++) Edge.due("LEVER", x.lever(d), 0);
            for (int i = 0; i <= 3; i++) Edge.due("LEAN, ROUND, ASIDE, PACE " + i, x.tells(i), 0);
            Edge.due("TOTAL", x.tells(4), 20);
            Edge.due("UP", x.up(), 600);
            Edge.due("DRAFT", x.tells(5), 6);
            Edge.due("PLANS stay", x.count(4), 2);
            Edge.due("TAPE stays", x.count(5), 20);
            Edge.due("a PLACE is the first one again", x.place(0, 100, 100, 100, 1, 0), 0);
            Edge.due("and empty", x.of(0, 0), 0);
            Edge.due("its LEVEL", x.of(0, 2), 0);
            Edge.due("its RUN", x.flows(0, 60), 0);
            Edge.due("CARGO is the first one again", x.cargo(1, 1, 1, 1), 0);
            Edge.due("and has not slid", x.slid(0), 0);
            Edge.due("IMAGES stay", x.back(1), 3);
            Edge.due("of the one there was", x.tells(4), 1050);
        });
        Edge.test(2, "false, and nothing happens, for others.", () -> {
            int[][] others = {{9, 1, 1, 1}, {401, 1, 1, 1}, {10, 0, 1, 1}, {10, 100000, 1, 1}, {10, 1, 0, 1},
                {10, 1, 3001, 1}, {10, 1, 1, 0}, {10, 1, 1, 1000}, {LEAST, LEAST, LEAST, LEAST}, {MOST, MOST, MOST, MOST}};
            for (int[] o : others) {
                LooseWater x = laden();
                Edge.refused(x, 0, () -> x.ship(o[0], o[1], o[2], o[3]) ? 1 : 0);
            }
            LooseWater y = new LooseWater();
            withoutShip(y, 0, () -> y.ship(9, 1, 1, 1) ? 1 : 0, () -> y.ship(10, 0, 1, 1) ? 1 : 0);
        });
        Edge.test(3, "LEVER of 5 * k degrees (k 1 to 12) becomes n: what it was; NONE, and nothing happens, without these (no SHIP, too).", () -> {
            LooseWater x = laden();
            Edge.refused(x, -1, () -> x.form(0, 1), () -> x.form(13, 1), () -> x.form(-1, 1), () -> x.form(1, -1),
                    () -> x.form(1, 3001), () -> x.form(LEAST, 1), () -> x.form(MOST, 1), () -> x.form(1, LEAST), () -> x.form(12, MOST));
            Edge.due("the first", x.form(1, 7), 60);
            Edge.due("the last", x.form(12, 3000), 720);
            Edge.due("what it was", x.form(1, 0), 7);
            LooseWater y = new LooseWater();
            withoutShip(y, -1, () -> y.form(1, 1), () -> y.form(12, 0));
            y.ship(10, 1, 1, 1);
            Edge.due("nothing happened", y.lever(5), 0);
        });
        Edge.test(4, "A PLACE: its number; NONE: there are 12, or something is not as told.", () -> {
            LooseWater x = laden();
            Edge.refused(x, -1, () -> x.place(-1, 1, 1, 1, 1, 0), () -> x.place(0, 0, 1, 1, 1, 0), () -> x.place(0, 1, 0, 1, 1, 0),
                    () -> x.place(0, 1, 1, 0, 1, 0), () -> x.place(0, 1, 1, 1, 0, 0), () -> x.place(0, 1, 1, 1, 1, -201),
                    () -> x.place(2001, 1, 1, 1, 1, 0), () -> x.place(0, 1000, 1, 1, 1, 0), () -> x.place(0, 1, 401, 1, 1, 0),
                    () -> x.place(0, 1, 1, 2001, 1, 0), () -> x.place(0, 1, 1, 1, 10, 0), () -> x.place(0, 1, 1, 1, 1, 201));
            for (int i = 1; i < 12; i++) Edge.due("number", x.place(0, 1, 1, 1, 1, 0), i);
            Edge.due("there are 12", x.place(0, 1, 1, 1, 1, 0), -1);
            Edge.due("12 yet", x.count(0), 12);
            LooseWater y = new LooseWater();
            withoutShip(y, -1, () -> y.place(0, 1, 1, 1, 1, 0));
        });
        Edge.test(5, "WATER of a PLACE becomes n (0 to CAP): what it was; NONE, and nothing happens, without these.", () -> {
            LooseWater x = laden();
            Edge.refused(x, -1, () -> x.water(0, 101), () -> x.water(0, -1), () -> x.water(1, 0), () -> x.water(-1, 0), () -> x.water(12, 0),
                    () -> x.water(0, LEAST), () -> x.water(0, MOST), () -> x.water(LEAST, 0), () -> x.water(MOST, 0));
            Edge.due("what it was", x.water(0, 100), 40);
            Edge.due("what it was", x.water(0, 0), 100);
            LooseWater y = new LooseWater();
            withoutShip(y, -1, () -> y.water(0, 0));
        });
        Edge.test(6, "walls of a PLACE become n: what they were; NONE, and nothing happens, without these.", () -> {
            LooseWater x = laden();
            Edge.refused(x, -1, () -> x.walls(0, 0), () -> x.walls(0, 10), () -> x.walls(1, 1), () -> x.walls(-1, 1),
                    () -> x.walls(0, LEAST), () -> x.walls(0, MOST), () -> x.walls(LEAST, 1), () -> x.walls(MOST, 1));
            Edge.due("what they were", x.walls(0, 1), 2);
            Edge.due("what they were", x.walls(0, 9), 1);
            Edge.due("they are", x.of(0, 3), 9);
            LooseWater y = new LooseWater();
            withoutShip(y, -1, () -> y.walls(0, 1));
        });
        Edge.test(7, "CARGO: its number; NONE: there are 6, or something is not as told.", () -> {
            LooseWater x = laden();
            Edge.refused(x, -1, () -> x.cargo(0, 0, 1, 0), () -> x.cargo(10000, 0, 1, 0), () -> x.cargo(1, -1, 1, 0), () -> x.cargo(1, 3001, 1, 0),
                    () -> x.cargo(1, 0, 0, 0), () -> x.cargo(1, 0, 61, 0), () -> x.cargo(1, 0, 1, -1), () -> x.cargo(1, 0, 1, 201));
            for (int i = 1; i < 6; i++) Edge.due("number", x.cargo(1, 0, 1, 0), i);
            Edge.refused(x, -1, () -> x.cargo(1, 0, 1, 0));
            LooseWater y = new LooseWater();
            withoutShip(y, -1, () -> y.cargo(1, 0, 1, 0));
        });
        Edge.test(8, "A DOOR: its number; NONE: there are 12, or something is not as told.", () -> {
            LooseWater x = laden();
            Edge.refused(x, -1, () -> x.door(1, 0, 0, 1), () -> x.door(-1, 0, 0, 1), () -> x.door(0, -2, 0, 1), () -> x.door(0, 2, 0, 1),
                    () -> x.door(0, 0, -1, 1), () -> x.door(0, 0, 3001, 1), () -> x.door(0, 0, 0, 0), () -> x.door(0, 0, 0, 201));
            for (int i = 1; i < 12; i++) Edge.due("number", x.door(0, 0, 0, 1), i);
            Edge.refused(x, -1, () -> x.door(0, 0, 0, 1));
            LooseWater y = new LooseWater();
            withoutShip(y, -1, () -> y.door(0, 0, 0, 1));
        });
        Edge.test(9, "A PORT, as a DOOR.", () -> {
            LooseWater x = laden();
            Edge.refused(x, -1, () -> x.port(1, 0, 0, 1), () -> x.port(-1, 0, 0, 1), () -> x.port(0, -2, 0, 1), () -> x.port(0, 2, 0, 1),
                    () -> x.port(0, 0, -1, 1), () -> x.port(0, 0, 3001, 1), () -> x.port(0, 0, 0, 0), () -> x.port(0, 0, 0, 201));
            for (int i = 1; i < 12; i++) Edge.due("number", x.port(0, 0, 0, 1), i);
            Edge.refused(x, -1, () -> x.port(0, 0, 0, 1));
            LooseWater y = new LooseWater();
            withoutShip(y, -1, () -> y.port(0, 0, 0, 1));
        });
    }

    // ---- promises 10 to 14

    private static void tapes() {
        Edge.test(10, "What 0: ASIDE, 1: PACE, 2: LEAN becomes n: what it was; -1000000, and nothing happens, without these.", () -> {
            LooseWater x = laden();
            Edge.refused(x, UNTOLD, () -> x.sets(-1, 0), () -> x.sets(3, 0), () -> x.sets(LEAST, 0), () -> x.sets(MOST, 0),
                    () -> x.sets(0, -100000), () -> x.sets(0, 100000), () -> x.sets(1, -1), () -> x.sets(1, 100),
                    () -> x.sets(2, -61), () -> x.sets(2, 61), () -> x.sets(0, LEAST), () -> x.sets(1, MOST), () -> x.sets(2, LEAST));
            Edge.due("what it was", x.sets(2, -60), 8);
            Edge.due("what it was", x.sets(2, 0), -60);
            LooseWater y = new LooseWater();
            withoutShip(y, UNTOLD, () -> y.sets(0, 0), () -> y.sets(1, 0), () -> y.sets(2, 0));
            y.ship(10, 1, 1, 1);
            Edge.due("nothing happened", y.tells(2), 0);
        });
        Edge.test(11, "Twenty bytes come behind the TAPE, of each number the highest first: how many it has", () -> {
            LooseWater x = Edge.leaf();
            // "pace 7;pace 8;pace 9"
            Edge.due("twenty", x.feed(0x70616365, 0x20373b70, 0x61636520, 0x383b7061, 0x63652039), 20);
            // "9;shift 1+0;pump a 1", behind it: pace 99
            Edge.due("behind it", x.feed(0x393b7368, 0x69667420, 0x312b303b, 0x70756d70, 0x20612031), 40);
            Edge.due("a plan", x.plan(), 0);
            x.run(0, 1);
            Edge.due("PACE", x.tells(3), 99);
            Edge.due("ASIDE", x.tells(2), 1);
            Edge.due("without a SHIP", new LooseWater().feed(0, 0, 0, 0, 0), 20);
            // bytes of 128 and above, and of 0, count as others do
            Edge.due("all bits", x.feed(-1, LEAST, MOST, 0, 0x80808080), 20);
            Edge.due("they can't stand there", x.plan(), -3);
        });
        Edge.test(11, "NONE, and none comes, if it would have more than 400.", () -> {
            LooseWater x = new LooseWater();
            for (int i = 1; i <= 20; i++) Edge.due("feed", x.feed(0x20202020, 0x20202020, 0x20202020, 0x20202020, 0x20202020), 20 * i);
            Edge.refused(x, -1, () -> x.feed(0, 0, 0, 0, 0));
            Edge.due("none came", x.count(5), 400);
            x.end(381);
            Edge.due("401", x.feed(0, 0, 0, 0, 0), -1);
            Edge.due("none came", x.count(5), 381);
            // all blank: the end is where the text ends, so none came by half
            Edge.due("blanks alone", x.plan(), -2 - (1 + 8 * 381));
            for (int i = 1; i <= 19; i++) x.feed(0, 0, 0, 0, 0);
            Edge.due("380 and 20", x.feed(0, 0, 0, 0, 0), 400);
        });
        Edge.test(12, "The TAPE has its first n bytes alone: n; NONE, and nothing happens, if it has not so many, or n is below 0.", () -> {
            LooseWater x = new LooseWater();
            Edge.due("0 of 0", x.end(0), 0);
            Edge.refused(x, -1, () -> x.end(1), () -> x.end(-1), () -> x.end(LEAST), () -> x.end(MOST));
            x.feed(0x70616365, 0x20373737, 0, 0, 0);
            Edge.refused(x, -1, () -> x.end(21), () -> x.end(-1), () -> x.end(400), () -> x.end(LEAST), () -> x.end(MOST));
            Edge.due("20 of 20", x.end(20), 20);
            Edge.due("6 of 20", x.end(6), 6);
            Edge.due("7 of 6", x.end(7), -1);
            Edge.due("6 yet", x.count(5), 6);
            Edge.due("pace 7", x.plan(), 0);
            x.ship(10, 1, 1, 1);
            x.run(0, 1);
            Edge.due("the first bytes alone", x.tells(3), 7);
        });
        Edge.test(13, "The TAPE, which is empty then, is a PLAN: its number; -2 - its FAULT; NONE, and nothing happens: there are 6.", () -> {
            LooseWater x = new LooseWater();
            Edge.due("an empty TAPE", x.plan(), -3);
            Edge.write(x, "pace 100");
            Edge.due("-2 less 1 + 8 * 5 + 1", x.plan(), -44);
            Edge.due("empty then", x.count(5), 0);
            Edge.due("no PLAN", x.count(4), 0);
            for (int i = 0; i < 6; i++) {
                Edge.due("its number", Edge.plan(x, "pace " + i), i);
                Edge.due("empty then", x.count(5), 0);
            }
            Edge.refused(x, -1, x::plan);
            Edge.write(x, "pace 6");
            Edge.refused(x, -1, x::plan);
            Edge.due("the TAPE stays", x.count(5), 6);
            Edge.write(x, "pace 100");
            Edge.refused(x, -1, x::plan);
            Edge.due("with a FAULT, too", x.count(5), 8);
            x.ship(10, 1, 1, 1);
            x.run(5, 1);
            Edge.due("the last one", x.tells(3), 5);
            x.run(0, 1);
            Edge.due("the first one", x.tells(3), 0);
        });
        Edge.test(14, "So many ROUNDS (1 to 60) go by, by a PLAN: LEAN; -1000000, and nothing happens, without these, or if ROUND would be above 9999.", () -> {
            LooseWater x = laden();
            Edge.refused(x, UNTOLD, () -> x.run(2, 1), () -> x.run(-1, 1), () -> x.run(0, 0), () -> x.run(0, 61), () -> x.run(0, -1),
                    () -> x.run(LEAST, 1), () -> x.run(MOST, 1), () -> x.run(0, LEAST), () -> x.run(0, MOST));
            Edge.due("1: LEAN", x.run(1, 1), 11);
            Edge.due("60: LEAN", x.run(1, 60), 60);
            LooseWater y = new LooseWater();
            Edge.plan(y, "pace 0");
            withoutShip(y, UNTOLD, () -> y.run(0, 1));
            LooseWater z = Edge.leaf();
            Edge.plan(z, "pace 5");
            for (int i = 0; i < 166; i++) z.run(0, 60);
            z.sets(1, 0);
            Edge.refused(z, UNTOLD, () -> z.run(0, 40), () -> z.run(0, 60));
            Edge.due("to 9999", z.run(0, 39), 0);
            Edge.refused(z, UNTOLD, () -> z.run(0, 1));
            z.sets(2, 60);
            Edge.refused(z, UNTOLD, () -> z.run(0, 1));
        });
    }

    // ---- promises 15 to 24

    private static void told() {
        Edge.test(15, "What 0: LEAN, 1: ROUND, 2: ASIDE, 3: PACE, 4: TOTAL, 5: DRAFT, 6: STIFF", () -> {
            LooseWater x = Edge.steady();
            Edge.plan(x, "pace 0");
            x.run(0, 9);
            x.sets(0, -99999);
            x.sets(1, 99);
            x.sets(2, -60);
            // (60000 - 44000) * 1000 by 88000
            int[] told = {-60, 9, -99999, 99, 1000, 100, 181};
            for (int i = 0; i < told.length; i++) Edge.due("what " + i, x.tells(i), told[i]);
        });
        Edge.test(15, "10: 1 if she is OVER, else 0. -1000000 without these.", () -> {
            LooseWater x = laden();
            Edge.due("OVER", x.tells(10), 0);
            x.sets(2, 60);
            Edge.due("OVER", x.tells(10), 1);
            Edge.refused(x, UNTOLD, () -> x.tells(-1), () -> x.tells(11), () -> x.tells(LEAST), () -> x.tells(MOST));
            LooseWater y = new LooseWater();
            for (int i = -1; i <= 11; i++) Edge.due("no SHIP", y.tells(i), UNTOLD);
        });
        Edge.test(15, "7: BEAT (NONE: none), 8: LOLL, 9: RANGE", () -> {
            LooseWater x = Edge.crank();
            Edge.due("no BEAT", x.tells(7), -1);
            Edge.due("LOLL", x.tells(8), 60);
            Edge.due("RANGE", x.tells(9), 1);
            LooseWater y = Edge.steady();
            Edge.due("BEAT", y.tells(7), 59);
            Edge.due("LOLL: 0 is none", y.tells(8), 0);
            Edge.due("RANGE: none", y.tells(9), 61);
        });
        Edge.test(16, "UP; NONE without a SHIP.", () -> {
            Edge.due("none", new LooseWater().up(), -1);
            Edge.due("the least", Edge.leaf().up(), 1);
        });
        Edge.test(17, "TURN at a LEAN; 0 also without these.", () -> {
            LooseWater x = Edge.crank();
            Edge.due("60", x.turn(60), 432000);
            Edge.due("-60", x.turn(-60), -432000);
            for (int lean : new int[] {61, -61, 90, LEAST, MOST}) Edge.due("lean " + lean, x.turn(lean), 0);
            Edge.due("no SHIP", new LooseWater().turn(5), 0);
        });
        Edge.test(18, "REST from a LEAN; -100 without these.", () -> {
            LooseWater x = Edge.crank();
            Edge.due("60", x.rest(60), 60);
            Edge.due("-60", x.rest(-60), -60);
            for (int lean : new int[] {61, -61, -100, LEAST, MOST}) Edge.due("lean " + lean, x.rest(lean), -100);
            Edge.due("no SHIP", new LooseWater().rest(0), -100);
        });
        Edge.test(19, "LEVER of 0 to 60 degrees; NONE without these.", () -> {
            LooseWater x = Edge.steady();
            Edge.due("0", x.lever(0), 0);
            Edge.due("60", x.lever(60), 720);
            for (int d : new int[] {-1, 61, LEAST, MOST}) Edge.due("degrees " + d, x.lever(d), -1);
            Edge.due("no SHIP", new LooseWater().lever(0), -1);
        });
        Edge.test(20, "Of a PLACE what 0: WATER, 1: CAP, 2: LEVEL, 3: walls, 4: off, 5: bottom, 6: depth, 7: breadth, 8: length. -1000 without these.", () -> {
            LooseWater x = Edge.crank();
            x.place(5, 77, 33, 500, 3, -200);
            int[] told = {0, 127, 0, 3, -200, 5, 77, 33, 500};
            for (int i = 0; i < 9; i++) Edge.due("what " + i, x.of(0, i), told[i]);
            Edge.refused(x, -1000, () -> x.of(0, -1), () -> x.of(0, 9), () -> x.of(1, 0), () -> x.of(-1, 0), () -> x.of(0, LEAST),
                    () -> x.of(0, MOST), () -> x.of(LEAST, 0), () -> x.of(MOST, 0), () -> x.of(11, 1), () -> x.of(12, 1));
            Edge.due("no SHIP", new LooseWater().of(0, 0), -1000);
        });
        Edge.test(21, "RUN of a PLACE at 0 to 60 degrees; NONE without these.", () -> {
            LooseWater x = laden();
            Edge.due("0", x.flows(0, 0), 0);
            // 20833 * 864 by 1000 is 17999; 500 * 40 by 2
            Edge.due("60", x.flows(0, 60), 10000);
            Edge.refused(x, -1, () -> x.flows(0, -1), () -> x.flows(0, 61), () -> x.flows(1, 0), () -> x.flows(-1, 0), () -> x.flows(0, LEAST),
                    () -> x.flows(0, MOST), () -> x.flows(LEAST, 0), () -> x.flows(MOST, 0));
            Edge.due("no SHIP", new LooseWater().flows(0, 0), -1);
        });
        Edge.test(22, "INSIDE of a PLACE at a side; -1000000 without these.", () -> {
            LooseWater x = laden();
            Edge.refused(x, UNTOLD, () -> x.inside(0, -2), () -> x.inside(0, 2), () -> x.inside(1, 0), () -> x.inside(-1, 0), () -> x.inside(0, LEAST),
                    () -> x.inside(0, MOST), () -> x.inside(LEAST, 0), () -> x.inside(MOST, 0));
            Edge.due("ahead", x.inside(0, 0), 90);
            Edge.due("no SHIP", new LooseWater().inside(0, 0), UNTOLD);
        });
        Edge.test(23, "OUTSIDE at a side; -1000000 without these.", () -> {
            LooseWater x = laden();
            Edge.refused(x, UNTOLD, () -> x.outside(-2), () -> x.outside(2), () -> x.outside(LEAST), () -> x.outside(MOST));
            Edge.due("ahead", x.outside(0), 105 + 8);
            Edge.due("no SHIP", new LooseWater().outside(0), UNTOLD);
        });
        Edge.test(24, "SLID of CARGO; -2 without it.", () -> {
            LooseWater x = laden();
            Edge.due("it", x.slid(0), -1);
            Edge.refused(x, -2, () -> x.slid(-1), () -> x.slid(1), () -> x.slid(5), () -> x.slid(6), () -> x.slid(LEAST), () -> x.slid(MOST));
            Edge.due("no SHIP", new LooseWater().slid(0), -2);
        });
    }

    // ---- promises 25 to 34

    private static void asked() {
        Edge.test(25, "SINKS; -2: none; NONE without these.", () -> {
            LooseWater x = laden();
            Edge.refused(x, -1, () -> x.sinks(1), () -> x.sinks(-1), () -> x.sinks(12), () -> x.sinks(LEAST), () -> x.sinks(MOST));
            Edge.refused(x, -2, () -> x.sinks(0));
            Edge.due("no SHIP", new LooseWater().sinks(0), -1);
        });
        Edge.test(26, "PARTS; -2: none; NONE without these.", () -> {
            LooseWater x = laden();
            Edge.refused(x, -1, () -> x.parts(1), () -> x.parts(-1), () -> x.parts(12), () -> x.parts(LEAST), () -> x.parts(MOST));
            Edge.refused(x, 1, () -> x.parts(0));
            LooseWater y = Edge.crank();
            y.place(0, 1, 1, 1, 1, 0);
            Edge.refused(y, -2, () -> y.parts(0));
            Edge.due("no SHIP", new LooseWater().parts(0), -1);
        });
        Edge.test(27, "CARRIED what 0: REST, 1: STIFF by it (-1000000 if it does not lean otherwise); -2000000 without these.", () -> {
            LooseWater x = laden();
            Edge.refused(x, -2000000, () -> x.carried(0, 1, 0), () -> x.carried(1000, 1, 0), () -> x.carried(1, 0, 0), () -> x.carried(1, 1000, 1),
                    () -> x.carried(1, 1, -1), () -> x.carried(1, 1, 2), () -> x.carried(LEAST, 1, 0), () -> x.carried(MOST, MOST, 0),
                    () -> x.carried(1, LEAST, 1), () -> x.carried(1, 1, MOST));
            LooseWater y = Edge.crank();
            y.sets(2, 60);
            Edge.refused(y, 60, () -> y.carried(1, 1, 0));
            Edge.refused(y, UNTOLD, () -> y.carried(1, 1, 1));
            Edge.due("no SHIP", new LooseWater().carried(1, 1, 0), -2000000);
        });
        Edge.test(28, "ORDER of a set of PLACES k 0 and above: the PLACE at that place of the row; -2: there is none; NONE without these.", () -> {
            LooseWater x = laden();
            x.sets(2, 0);
            x.place(0, 100, 100, 100, 1, 0);
            Edge.due("the first", x.order(3, 59, 0), 0);
            Edge.due("the last", x.order(3, 59, 1), 1);
            Edge.refused(x, -1, () -> x.order(3, 59, -1), () -> x.order(3, 59, LEAST), () -> x.order(0, 59, 0), () -> x.order(4, 59, 0), () -> x.order(7, 59, 0),
                    () -> x.order(-1, 59, 0), () -> x.order(LEAST, 59, 0), () -> x.order(MOST, 59, 0), () -> x.order(3, 0, 0), () -> x.order(3, 60, 0),
                    () -> x.order(3, LEAST, 0), () -> x.order(3, MOST, 0));
            // beyond the row: as NIGHT says it of its k (see NOTES.md)
            Edge.refused(x, -1, () -> x.order(3, 59, 2), () -> x.order(3, 59, MOST));
            LooseWater y = Edge.crank();
            y.place(0, 1, 1, 1, 1, 0);
            y.sets(2, 1);
            Edge.refused(y, -2, () -> y.order(1, 59, 0));
            Edge.due("no SHIP", new LooseWater().order(1, 59, 0), -1);
            Edge.due("no PLACES", Edge.leaf().order(1, 59, 0), -1);
        });
        Edge.test(29, "AHEAD what 0: LEAN, 1: 1 if she is OVER, else 0, 2: WATER of all PLACES", () -> {
            LooseWater x = laden();
            int[][] told = {{0, 8, 0, 40}, {17, 59, 0, 40}, {18, 60, 1, 40}, {60, 60, 1, 40}};
            for (int[] t : told) {
                for (int what = 0; what <= 2; what++) Edge.due(t[0] + " ROUNDS, what " + what, x.ahead(1, t[0], what), t[what + 1]);
            }
            LooseWater y = Edge.leaf();
            Edge.plan(y, "fill l 5");
            Edge.due("no PLACES", y.ahead(0, 1, 2), 0);
            for (int i = 0; i < 12; i++) {
                y.place(0, 100, 100, 100, 1, 0);
                y.water(i, i + 1);
            }
            Edge.due("twelve PLACES, now", y.ahead(0, 0, 2), 78);
            Edge.due("twelve PLACES, the last one filled", y.ahead(0, 2, 2), 88);
        });
        Edge.test(29, "3: the first ROUND behind which she is OVER (-2: none). -1000000 without these.", () -> {
            LooseWater x = laden();
            Edge.refused(x, UNTOLD, () -> x.ahead(2, 1, 0), () -> x.ahead(-1, 1, 0), () -> x.ahead(0, -1, 0), () -> x.ahead(0, 61, 0),
                    () -> x.ahead(0, 1, -1), () -> x.ahead(0, 1, 4), () -> x.ahead(LEAST, 1, 0), () -> x.ahead(MOST, 1, 0),
                    () -> x.ahead(0, LEAST, 0), () -> x.ahead(0, MOST, 0), () -> x.ahead(0, 1, LEAST), () -> x.ahead(0, 1, MOST));
            Edge.refused(x, -2, () -> x.ahead(0, 60, 3), () -> x.ahead(1, 17, 3), () -> x.ahead(1, 0, 3));
            // from 8 by 3 a ROUND: 59 behind 17; the CARGO slides to the right, and is as it was
            Edge.refused(x, 18, () -> x.ahead(1, 18, 3), () -> x.ahead(1, 60, 3));
            LooseWater y = new LooseWater();
            Edge.plan(y, "pace 0");
            withoutShip(y, UNTOLD, () -> y.ahead(0, 0, 0), () -> y.ahead(0, 1, 3));
        });
        Edge.test(30, "SAVED (n 0 to 30); -2: none; NONE without these.", () -> {
            LooseWater x = laden();
            Edge.refused(x, -1, () -> x.saved(0, 0, 1, 5), () -> x.saved(2, 0, 1, 5), () -> x.saved(-1, 0, 1, 5), () -> x.saved(4, 0, 1, 5),
                    () -> x.saved(1, 2, 1, 5), () -> x.saved(1, 0, 2, 5), () -> x.saved(1, -1, 1, 5), () -> x.saved(1, 0, -1, 5),
                    () -> x.saved(1, 0, 1, -1), () -> x.saved(1, 0, 1, 31), () -> x.saved(LEAST, 0, 1, 5), () -> x.saved(MOST, 0, 1, 5),
                    () -> x.saved(1, LEAST, 1, 5), () -> x.saved(1, 0, MOST, 5), () -> x.saved(1, 0, 1, LEAST), () -> x.saved(1, 0, 1, MOST));
            Edge.refused(x, 0, () -> x.saved(1, 1, 0, 0));
            Edge.refused(x, 30, () -> x.saved(1, 0, 1, 30), () -> x.saved(1, 0, 0, 30));
            Edge.refused(x, -2, () -> x.saved(1, 1, 1, 18), () -> x.saved(1, 1, 1, 30));
            Edge.due("the IMAGE stays", x.back(1), 3);
            Edge.due("as it was", x.tells(0), 8);
            Edge.due("no SHIP", new LooseWater().saved(0, 0, 0, 0), -1);
        });
        Edge.test(31, "HOSES (n 1 to 20); -2: none; NONE without these.", () -> {
            LooseWater x = laden();
            Edge.refused(x, -1, () -> x.hoses(2, 0, 1), () -> x.hoses(-1, 0, 1), () -> x.hoses(0, 1, 1), () -> x.hoses(0, -1, 1),
                    () -> x.hoses(0, 0, 0), () -> x.hoses(0, 0, 21), () -> x.hoses(LEAST, 0, 1), () -> x.hoses(MOST, 0, 1),
                    () -> x.hoses(0, LEAST, 1), () -> x.hoses(0, MOST, 1), () -> x.hoses(0, 0, LEAST), () -> x.hoses(0, 0, MOST));
            Edge.refused(x, 99, () -> x.hoses(0, 0, 1), () -> x.hoses(1, 0, 17));
            Edge.refused(x, -2, () -> x.hoses(1, 0, 18), () -> x.hoses(1, 0, 20));
            LooseWater y = new LooseWater();
            Edge.plan(y, "pace 0");
            withoutShip(y, -1, () -> y.hoses(0, 0, 1));
        });
        Edge.test(32, "ICE; -2: more than 200; NONE without these.", () -> {
            LooseWater x = Edge.steady();
            Edge.refused(x, -1, () -> x.ice(0, 0), () -> x.ice(1000, 0), () -> x.ice(1, -1), () -> x.ice(1, 3001), () -> x.ice(LEAST, 0),
                    () -> x.ice(MOST, 0), () -> x.ice(1, LEAST), () -> x.ice(1, MOST));
            Edge.refused(x, -2, () -> x.ice(1, 1735), () -> x.ice(999, 0));
            Edge.refused(x, 200, () -> x.ice(1, 1736));
            Edge.due("no SHIP", new LooseWater().ice(1, 0), -1);
        });
        Edge.test(33, "A LOAD: its number; NONE: there are 6, or something is not as told.", () -> {
            LooseWater x = laden();
            Edge.refused(x, -1, () -> x.load(0, 0), () -> x.load(10000, 0), () -> x.load(1, -1), () -> x.load(1, 3001));
            for (int i = 1; i < 6; i++) Edge.due("number", x.load(1, 0), i);
            Edge.refused(x, -1, () -> x.load(1, 0));
            LooseWater y = new LooseWater();
            withoutShip(y, -1, () -> y.load(1, 0));
        });
        Edge.test(34, "NIGHT for a bound (-99999 to 99999) k 0 and above: the LOAD at that place of the row; -2: there is none; NONE without these (k one of the LOADS).", () -> {
            LooseWater x = Edge.steady();
            Edge.due("no LOADS", x.night(0, 0), -1);
            x.load(5, 5);
            x.load(6, 6);
            Edge.due("the first", x.night(-99999, 0), 0);
            Edge.due("the last", x.night(-99999, 1), 1);
            Edge.refused(x, -2, () -> x.night(99999, 0), () -> x.night(99999, 1));
            Edge.refused(x, -1, () -> x.night(-100000, 0), () -> x.night(100000, 0), () -> x.night(0, -1), () -> x.night(0, 2), () -> x.night(99999, 2),
                    () -> x.night(LEAST, 0), () -> x.night(MOST, 0), () -> x.night(0, LEAST), () -> x.night(0, MOST));
            Edge.due("no SHIP", new LooseWater().night(0, 0), -1);
        });
    }

    // ---- promises 35 to 43

    private static void last() {
        Edge.test(35, "GUESS (LEAN -60 to 60, BEAT 0 to 9999) what 0: the PLACE, 1: the hundredth, 2: how far off; -2: no PLACES; NONE without these.", () -> {
            LooseWater x = laden();
            Edge.refused(x, -1, () -> x.guess(-61, 0, 0), () -> x.guess(61, 0, 0), () -> x.guess(0, -1, 0), () -> x.guess(0, 10000, 0), () -> x.guess(0, 0, -1),
                    () -> x.guess(0, 0, 3), () -> x.guess(LEAST, 0, 0), () -> x.guess(MOST, 0, 0), () -> x.guess(0, LEAST, 0), () -> x.guess(0, MOST, 0),
                    () -> x.guess(0, 0, LEAST), () -> x.guess(0, 0, MOST));
            Edge.refused(x, 0, () -> x.guess(-60, 0, 0), () -> x.guess(60, 9999, 0));
            LooseWater y = Edge.leaf();
            Edge.refused(y, -2, () -> y.guess(0, 0, 0), () -> y.guess(60, 9999, 1), () -> y.guess(-60, 0, 2));
            Edge.due("no SHIP", new LooseWater().guess(0, 0, 0), -1);
        });
        Edge.test(36, "BEST of n stages of r ROUNDS k -1: its WORST, 0 to n less 1: the PLAN of that stage; -2: no PLANS; -3 without these.", () -> {
            LooseWater x = laden();
            Edge.refused(x, -3, () -> x.best(0, 1, -1), () -> x.best(5, 1, -1), () -> x.best(1, 0, -1), () -> x.best(1, 11, -1), () -> x.best(1, 1, -2),
                    () -> x.best(1, 1, 1), () -> x.best(4, 1, 4), () -> x.best(LEAST, 1, -1), () -> x.best(MOST, 1, -1), () -> x.best(1, LEAST, -1),
                    () -> x.best(1, MOST, -1), () -> x.best(1, 1, LEAST), () -> x.best(1, 1, MOST));
            // from 8 to 5 by the first
            Edge.refused(x, 5, () -> x.best(1, 1, -1), () -> x.best(4, 10, -1));
            Edge.refused(x, 0, () -> x.best(1, 1, 0), () -> x.best(4, 10, 0), () -> x.best(4, 10, 3));
            LooseWater y = Edge.leaf();
            Edge.refused(y, -2, () -> y.best(1, 1, -1), () -> y.best(4, 10, 3));
            Edge.refused(y, -3, () -> y.best(0, 1, -1), () -> y.best(1, 1, 1));
            LooseWater z = new LooseWater();
            withoutShip(z, -3, () -> z.best(1, 1, -1));
            Edge.plan(z, "pace 0");
            withoutShip(z, -3, () -> z.best(1, 1, -1));
        });
        Edge.test(37, "SLOP; -2: none; NONE without it.", () -> {
            LooseWater x = laden();
            // LEVEL 40: 410000 by 40 is 10250
            Edge.refused(x, 101, () -> x.slop(0));
            Edge.refused(x, -1, () -> x.slop(1), () -> x.slop(-1), () -> x.slop(12), () -> x.slop(LEAST), () -> x.slop(MOST));
            x.water(0, 0);
            Edge.refused(x, -2, () -> x.slop(0));
            Edge.due("no SHIP", new LooseWater().slop(0), -1);
        });
        Edge.test(38, "STILL; -2: none; NONE without it.", () -> {
            LooseWater x = Edge.crank();
            x.place(0, 100, 100, 100, 1, 0);
            x.water(0, 50);
            Edge.refused(x, -2, () -> x.still(0));
            Edge.refused(x, -1, () -> x.still(1), () -> x.still(-1), () -> x.still(12), () -> x.still(LEAST), () -> x.still(MOST));
            Edge.due("no SHIP", new LooseWater().still(0), -1);
        });
        Edge.test(39, "FLOODS over a height (0 to 3000); -2: at none; NONE without these.", () -> {
            LooseWater x = Edge.crank();
            Edge.refused(x, -1, () -> x.floods(0, 5), () -> x.floods(-2, 5), () -> x.floods(2, 5), () -> x.floods(1, -1), () -> x.floods(1, 3001),
                    () -> x.floods(LEAST, 5), () -> x.floods(MOST, 5), () -> x.floods(1, LEAST), () -> x.floods(1, MOST));
            Edge.refused(x, 0, () -> x.floods(1, 0), () -> x.floods(-1, 0));
            Edge.refused(x, -2, () -> x.floods(1, 3000), () -> x.floods(-1, 3000));
            LooseWater y = new LooseWater();
            y.ship(10, 3001, 1, 1);
            Edge.due("3001 is above 3000", y.floods(1, 3000), 0);
            Edge.due("no SHIP", new LooseWater().floods(1, 0), -1);
        });
        Edge.test(40, "LEAVES (n 0 to 99999); -2: not with 400; NONE without these.", () -> {
            LooseWater x = laden();
            Edge.refused(x, -1, () -> x.leaves(1, 0), () -> x.leaves(-1, 0), () -> x.leaves(0, -1), () -> x.leaves(0, 100000), () -> x.leaves(LEAST, 0),
                    () -> x.leaves(MOST, 0), () -> x.leaves(0, LEAST), () -> x.leaves(0, MOST));
            Edge.refused(x, 0, () -> x.leaves(0, 40), () -> x.leaves(0, 99999));
            Edge.refused(x, -2, () -> x.leaves(0, 39), () -> x.leaves(0, 0));
            x.water(0, 0);
            Edge.refused(x, 0, () -> x.leaves(0, 0));
            Edge.due("no SHIP", new LooseWater().leaves(0, 0), -1);
        });
        Edge.test(41, "What 0: PLACES, 1: CARGO, 2: DOORS, 3: PORTS, 6: LOADS (NONE without a SHIP), 4: PLANS, 5: bytes of the TAPE. NONE for others.", () -> {
            LooseWater x = laden();
            for (int i : new int[] {0, 1, 2, 3, 6}) Edge.due("count " + i, x.count(i), 1);
            Edge.due("PLANS", x.count(4), 2);
            Edge.due("TAPE", x.count(5), 0);
            for (int i : new int[] {-1, 7, LEAST, MOST}) Edge.due("count " + i, x.count(i), -1);
            LooseWater y = new LooseWater();
            Edge.plan(y, "pace 0");
            y.feed(1, 2, 3, 4, 5);
            for (int i : new int[] {0, 1, 2, 3, 6, -1, 7}) Edge.due("no SHIP: count " + i, y.count(i), -1);
            Edge.due("PLANS without a SHIP", y.count(4), 1);
            Edge.due("TAPE without a SHIP", y.count(5), 20);
            LooseWater z = Edge.leaf();
            for (int i = 0; i <= 6; i++) Edge.due("none of " + i, z.count(i), 0);
        });
        Edge.test(42, "An IMAGE is made: ROUND; NONE without it, or without a SHIP.", () -> {
            LooseWater x = laden();
            x.run(0, 7);
            Edge.due("ROUND", x.image(0), 10);
            Edge.due("ROUND", x.image(3), 10);
            Edge.refused(x, -1, () -> x.image(-1), () -> x.image(4), () -> x.image(LEAST), () -> x.image(MOST));
            Edge.due("an IMAGE anew", x.image(1), 10);
            x.run(0, 1);
            Edge.due("in place of the one there was", x.back(1), 10);
            LooseWater y = new LooseWater();
            withoutShip(y, -1, () -> y.image(0), () -> y.image(3));
            y.ship(10, 1, 1, 1);
            Edge.due("none was made", y.back(0), -1);
        });
        Edge.test(43, "She is as in an IMAGE: ROUND; NONE, and nothing happens, if it was never made, or without it.", () -> {
            LooseWater x = laden();
            x.run(0, 7);
            Edge.refused(x, -1, () -> x.back(0), () -> x.back(2), () -> x.back(3), () -> x.back(-1), () -> x.back(4), () -> x.back(LEAST), () -> x.back(MOST));
            Edge.due("ROUND", x.back(1), 3);
            Edge.due("LEAN", x.tells(0), 8);
            x.run(0, 1);
            Edge.due("ROUND, again", x.back(1), 3);
            LooseWater y = new LooseWater();
            withoutShip(y, -1, () -> y.back(0), () -> y.back(3));
        });
    }

    public static void main(String[] args) {
        ships();
        tapes();
        told();
        asked();
        last();
        Edge.finish();
    }
}
