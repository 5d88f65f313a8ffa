/**
 * Promise by promise: ordinary inputs, the edges that the document names, wrong inputs. The
 * numbers are worked out by hand from the document, not taken from the program.
 */
public final class PromiseTest {
    private static final int UNTOLD = -1000000;
    private static int wrong = 0;
    private static int asked = 0;

    private static void due(int promise, String what, long got, long want) {
        asked++;
        if (got != want) {
            wrong++;
            System.out.println("promise " + promise + ": " + what + " answered " + got + ", due is " + want);
        }
    }

    private static void due(int promise, String what, boolean got, boolean want) {
        due(promise, what, got ? 1 : 0, want ? 1 : 0);
    }

    // ---- ships that the tests begin with

    /** TOTAL 1000, UP 500000, DRAFT 100; LEVER is 12 a degree: she comes back from everywhere. */
    private static LooseWater steady() {
        return shaped(60);
    }

    /** LEVER is (step / 5) a degree. */
    private static LooseWater shaped(int step) {
        LooseWater x = new LooseWater();
        x.ship(100, 1000, 500, 10);
        for (int k = 1; k <= 12; k++) x.form(k, step * k);
        return x;
    }

    /** No LEVERS at all: a touch and she goes over. */
    private static LooseWater crank() {
        LooseWater x = new LooseWater();
        x.ship(100, 1000, 500, 10);
        return x;
    }

    private static int plan(LooseWater x, String text) {
        x.end(0);
        for (int i = 0; i < text.length(); i += 20) {
            int[] n = new int[5];
            for (int j = 0; j < 20; j++) {
                n[j / 4] = n[j / 4] << 8 | (i + j < text.length() ? text.charAt(i + j) & 255 : 7);
            }
            x.feed(n[0], n[1], n[2], n[3], n[4]);
        }
        x.end(text.length());
        return x.plan();
    }

    private static String times(String s, int n) {
        StringBuilder b = new StringBuilder();
        for (int i = 0; i < n; i++) b.append(s);
        return b.toString();
    }

    // ---- promises 1 to 9

    private static void newObject() {
        LooseWater x = new LooseWater();
        due(1, "NONE", LooseWater.NONE, -1);
        for (int i = 0; i <= 3; i++) due(1, "count(" + i + ")", x.count(i), -1);
        due(1, "count(6)", x.count(6), -1);
        due(1, "no plans", x.count(4), 0);
        due(1, "no tape", x.count(5), 0);
        for (int i = 0; i <= 10; i++) due(1, "tells(" + i + ")", x.tells(i), UNTOLD);
        due(1, "form", x.form(1, 1), -1);
        due(1, "place", x.place(0, 10, 10, 10, 1, 0), -1);
        due(1, "water", x.water(0, 0), -1);
        due(1, "walls", x.walls(0, 1), -1);
        due(1, "cargo", x.cargo(1, 1, 1, 1), -1);
        due(1, "door", x.door(0, 0, 0, 1), -1);
        due(1, "port", x.port(0, 0, 0, 1), -1);
        due(1, "sets", x.sets(0, 0), UNTOLD);
        due(1, "run", x.run(0, 1), UNTOLD);
        due(1, "up", x.up(), -1);
        due(1, "turn", x.turn(5), 0);
        due(1, "rest", x.rest(0), -100);
        due(1, "lever", x.lever(0), -1);
        due(1, "of", x.of(0, 0), -1000);
        due(1, "flows", x.flows(0, 0), -1);
        due(1, "inside", x.inside(0, 0), UNTOLD);
        due(1, "outside", x.outside(0), UNTOLD);
        due(1, "slid", x.slid(0), -2);
        due(1, "sinks", x.sinks(0), -1);
        due(1, "parts", x.parts(0), -1);
        due(1, "carried", x.carried(1, 1, 0), -2000000);
        due(1, "order", x.order(1, 10, 0), -1);
        due(1, "ahead", x.ahead(0, 0, 0), UNTOLD);
        due(1, "saved", x.saved(0, 0, 0, 0), -1);
        due(1, "hoses", x.hoses(0, 0, 1), -1);
        due(1, "ice", x.ice(1, 1), -1);
        due(1, "load", x.load(1, 1), -1);
        due(1, "night", x.night(0, 0), -1);
        due(1, "guess", x.guess(0, 0, 0), -1);
        due(1, "best", x.best(1, 1, -1), -3);
        due(1, "slop", x.slop(0), -1);
        due(1, "still", x.still(0), -1);
        due(1, "floods", x.floods(1, 0), -1);
        due(1, "leaves", x.leaves(0, 0), -1);
        due(1, "image", x.image(0), -1);
        due(1, "back", x.back(0), -1);
    }

    private static void ship() {
        LooseWater x = new LooseWater();
        due(2, "least", x.ship(10, 1, 1, 1), true);
        due(2, "most", x.ship(400, 99999, 3000, 999), true);
        due(2, "up of the most", x.up(), 299997000L);
        int[][] others = {{9, 1, 1, 1}, {401, 1, 1, 1}, {10, 0, 1, 1}, {10, 100000, 1, 1},
            {10, 1, 0, 1}, {10, 1, 3001, 1}, {10, 1, 1, 0}, {10, 1, 1, 1000},
            {Integer.MIN_VALUE, 1, 1, 1}, {10, 1, 1, Integer.MAX_VALUE}};
        for (int[] o : others) due(2, "another", x.ship(o[0], o[1], o[2], o[3]), false);
        due(2, "nothing happened", x.tells(4), 99999);

        x = steady();
        int p = plan(x, "shift 500");
        x.place(0, 10, 10, 10, 1, 0);
        x.cargo(5, 5, 5, 5);
        x.door(0, 0, 0, 1);
        x.port(0, 0, 0, 1);
        x.load(1, 1);
        x.run(p, 2);
        x.sets(1, 7);
        x.image(2);
        x.feed(1, 2, 3, 4, 5);
        due(2, "anew", x.ship(50, 20, 30, 3), true);
        for (int i : new int[] {0, 1, 2, 3, 6}) due(2, "count(" + i + ")", x.count(i), 0);
        for (int i = 0; i <= 3; i++) due(2, "tells(" + i + ")", x.tells(i), 0);
        due(2, "lever", x.lever(60), 0);
        due(2, "plans stay", x.count(4), 1);
        due(2, "tape stays", x.count(5), 20);
        due(2, "total", x.tells(4), 20);
        due(2, "draft", x.tells(5), 6);
        due(2, "an image of the one there was", x.back(2), 2);
        due(2, "her total", x.tells(4), 1005);
    }

    private static void form() {
        LooseWater x = crank();
        due(3, "first", x.form(1, 3000), 0);
        due(3, "again", x.form(1, 7), 3000);
        due(3, "last", x.form(12, 50), 0);
        due(3, "k 0", x.form(0, 5), -1);
        due(3, "k 13", x.form(13, 5), -1);
        due(3, "n below", x.form(1, -1), -1);
        due(3, "n above", x.form(1, 3001), -1);
        due(3, "it stays", x.lever(5), 7);
        due(3, "of 0 always 0", x.lever(0), 0);
        due(3, "57 degrees", x.lever(57), 20);
    }

    private static void place() {
        LooseWater x = crank();
        due(4, "least", x.place(0, 1, 1, 1, 1, -200), 0);
        due(4, "most", x.place(2000, 999, 400, 2000, 9, 200), 1);
        due(4, "cap of the least", x.of(0, 1), 0);
        due(4, "cap of the most", x.of(1, 1), 79920);
        due(4, "empty", x.of(1, 0), 0);
        int[][] others = {{-1, 1, 1, 1, 1, 0}, {2001, 1, 1, 1, 1, 0}, {0, 0, 1, 1, 1, 0}, {0, 1000, 1, 1, 1, 0},
            {0, 1, 0, 1, 1, 0}, {0, 1, 401, 1, 1, 0}, {0, 1, 1, 0, 1, 0}, {0, 1, 1, 2001, 1, 0},
            {0, 1, 1, 1, 0, 0}, {0, 1, 1, 1, 10, 0}, {0, 1, 1, 1, 1, -201}, {0, 1, 1, 1, 1, 201}};
        for (int[] o : others) due(4, "another", x.place(o[0], o[1], o[2], o[3], o[4], o[5]), -1);
        for (int i = 2; i < 12; i++) due(4, "place", x.place(1, 100, 100, 100, 2, 3), i);
        due(4, "a thirteenth", x.place(1, 100, 100, 100, 2, 3), -1);
        due(4, "count", x.count(0), 12);
    }

    private static void water() {
        LooseWater x = crank();
        x.place(0, 100, 100, 100, 1, 0);
        due(5, "to cap", x.water(0, 100), 0);
        due(5, "above cap", x.water(0, 101), -1);
        due(5, "below 0", x.water(0, -1), -1);
        due(5, "no place", x.water(1, 0), -1);
        due(5, "place -1", x.water(-1, 0), -1);
        due(5, "it stayed", x.water(0, 0), 100);
        due(5, "it is 0", x.of(0, 0), 0);
        due(5, "total", x.tells(4), 1000);
    }

    private static void walls() {
        LooseWater x = crank();
        x.place(0, 100, 100, 100, 4, 0);
        x.water(0, 50);
        due(6, "to 9", x.walls(0, 9), 4);
        due(6, "0", x.walls(0, 0), -1);
        due(6, "10", x.walls(0, 10), -1);
        due(6, "no place", x.walls(1, 1), -1);
        due(6, "to 2", x.walls(0, 2), 9);
        due(6, "they are 2", x.of(0, 3), 2);
        // 100 * 1000000 by 4800 is 20833; times 88 by 1000
        due(6, "the run", x.flows(0, 5), 1833);
    }

    private static void cargo() {
        LooseWater x = crank();
        int[][] others = {{0, 0, 1, 0}, {10000, 0, 1, 0}, {1, -1, 1, 0}, {1, 3001, 1, 0}, {1, 0, 0, 0},
            {1, 0, 61, 0}, {1, 0, 1, -1}, {1, 0, 1, 201}};
        for (int[] o : others) due(7, "another", x.cargo(o[0], o[1], o[2], o[3]), -1);
        due(7, "least", x.cargo(1, 0, 1, 0), 0);
        due(7, "most", x.cargo(9999, 3000, 60, 200), 1);
        for (int i = 2; i < 6; i++) due(7, "cargo", x.cargo(10, 10, 10, 10), i);
        due(7, "a seventh", x.cargo(10, 10, 10, 10), -1);
        due(7, "total", x.tells(4), 1000 + 1 + 9999 + 40);
        due(7, "up", x.up(), 500000 + 29997000 + 400);
        due(7, "count", x.count(1), 6);
    }

    private static void doorsAndPorts() {
        for (int promise = 8; promise <= 9; promise++) {
            LooseWater x = crank();
            x.place(0, 100, 100, 100, 1, 0);
            int[][] others = {{-1, 0, 0, 1}, {1, 0, 0, 1}, {0, -2, 0, 1}, {0, 2, 0, 1}, {0, 0, -1, 1},
                {0, 0, 3001, 1}, {0, 0, 0, 0}, {0, 0, 0, 201}};
            for (int[] o : others) due(promise, "another", open(x, promise, o), -1);
            due(promise, "least", open(x, promise, new int[] {0, -1, 0, 1}), 0);
            due(promise, "most", open(x, promise, new int[] {0, 1, 3000, 200}), 1);
            for (int i = 2; i < 12; i++) due(promise, "one more", open(x, promise, new int[] {0, 0, 5, 5}), i);
            due(promise, "a thirteenth", open(x, promise, new int[] {0, 0, 5, 5}), -1);
            due(promise, "doors", x.count(2), promise == 8 ? 12 : 0);
            due(promise, "ports", x.count(3), promise == 9 ? 12 : 0);
        }
    }

    private static int open(LooseWater x, int promise, int[] o) {
        return promise == 8 ? x.door(o[0], o[1], o[2], o[3]) : x.port(o[0], o[1], o[2], o[3]);
    }

    // ---- promises 10 to 14

    private static void sets() {
        LooseWater x = crank();
        int[][] edges = {{-99999, 99999}, {0, 99}, {-60, 60}};
        int[] told = {2, 3, 0};
        for (int w = 0; w < 3; w++) {
            due(10, "least " + w, x.sets(w, edges[w][0]), 0);
            due(10, "most " + w, x.sets(w, edges[w][1]), edges[w][0]);
            due(10, "below " + w, x.sets(w, edges[w][0] - 1), UNTOLD);
            due(10, "above " + w, x.sets(w, edges[w][1] + 1), UNTOLD);
            due(10, "it is " + w, x.tells(told[w]), edges[w][1]);
        }
        due(10, "what -1", x.sets(-1, 0), UNTOLD);
        due(10, "what 3", x.sets(3, 0), UNTOLD);
    }

    private static void tape() {
        LooseWater x = new LooseWater();
        for (int i = 1; i <= 20; i++) due(11, "feed", x.feed(-1, 0, 0x20202020, 1, 2), 20 * i);
        due(11, "one too many", x.feed(0, 0, 0, 0, 0), -1);
        due(11, "none came", x.count(5), 400);
        due(12, "end 381", x.end(381), 381);
        due(11, "401 bytes", x.feed(0, 0, 0, 0, 0), -1);
        due(12, "end 382", x.end(382), -1);
        due(12, "end -1", x.end(-1), -1);
        due(12, "nothing happened", x.count(5), 381);
        due(12, "end 380", x.end(380), 380);
        due(11, "400 bytes", x.feed(0, 0, 0, 0, 0), 400);
        due(12, "end 0", x.end(0), 0);
        due(12, "end 0 of 0", x.end(0), 0);
        due(12, "end 1 of 0", x.end(1), -1);
        // the highest byte first: "pace 7;pace 8;pace 9" in five numbers
        due(11, "letters", x.feed(0x70616365, 0x20373b70, 0x61636520, 0x383b7061, 0x63652039), 20);
        due(11, "are a plan", x.plan(), 0);
        due(11, "and none is left", x.count(5), 0);
        due(11, "behind what is there", x.feed(0x70616365, 0x20373b70, 0x61636520, 0x383b7061, 0x63652039), 20);
        due(12, "the first bytes alone", x.end(6), 6);
        due(12, "they are a plan", x.plan(), 1);
    }

    private static void fault(String text, int place, int kind) {
        LooseWater x = new LooseWater();
        due(13, "plan \"" + text + "\"", plan(x, text), -2 - (1 + 8 * place + kind));
        due(13, "no plan", x.count(4), 0);
        due(13, "the tape is empty", x.count(5), 0);
    }

    private static void good(String text) {
        due(13, "plan \"" + text + "\"", plan(new LooseWater(), text), 0);
    }

    private static void plans() {
        LooseWater x = new LooseWater();
        for (int i = 0; i < 6; i++) due(13, "plan", plan(x, "pace " + i), i);
        due(13, "a seventh", plan(x, "pace 6"), -1);
        due(13, "nothing happened", x.count(5), 6);
        due(13, "six", x.count(4), 6);

        good("pump a 0");
        good("fill l 9999");
        good("cross a a 00001");
        good("pace 00099");
        good("  pace  99  ");
        good("pace5if a<1and b<2or c<3");
        good("pump a5;fill b5;cross c d5");
        good("shift lean+side-round*draft/pace+total+stiff+a+l+99999");
        good("pace 1 if not not [not a<=b] and [[c>=1 or d>2]]");
        good("pace 1 if " + times("[", 10) + "a<1" + times("]", 10));
        good("pace 1 if " + times("not ", 10) + "a<1 and " + times("not [", 5) + "a<1" + times("]", 5));
        good(times("pace 1;", 11) + "pace 1");
        good("shift " + times("1+", 59) + "1");
        good("pace 1 if " + times("a<1 or ", 19) + "a<1");
        good("pace 1 if a<1" + times(" ", 387));

        fault("", 0, 0);
        fault("   ", 3, 0);
        fault("Pace 1", 0, 0);
        fault("pacea 1", 0, 0);
        fault("pace", 4, 0);
        fault("pace   ", 7, 0);
        fault("pace a", 5, 0);
        fault("pace -1", 5, 0);
        fault("pace 100", 5, 1);
        fault("pace 000001", 5, 1);
        fault("pump 5", 5, 0);
        fault("pump m 5", 5, 0);
        fault("pump lean 5", 5, 0);
        fault("dace 1", 0, 0);
        fault("pack 1", 0, 0);
        fault("shift mean", 6, 0);
        fault("shift stifff", 6, 0);
        fault("pump a b", 7, 0);
        fault("fill a 10000", 7, 1);
        fault("fill a 123456", 7, 1);
        fault("cross a 5", 8, 0);
        fault("cross a bc 5", 8, 0);
        fault("pace 1;", 7, 0);
        fault("pace 1,", 6, 0);
        fault("pace 1\t", 6, 0);
        fault("pace 1" + (char) 255, 6, 0);
        fault("pace 1" + (char) 0, 6, 0);
        fault("pace 1 2", 7, 0);
        fault("pace 1 222222", 7, 0);
        fault("pace 1 pace 1", 7, 0);
        fault("pace 1 if", 9, 0);
        fault("pace 1 if a", 11, 0);
        fault("pace 1 if a<", 12, 0);
        fault("pace 1 if a< =1", 13, 0);
        fault("pace 1 if a=<1", 12, 0);
        fault("pace 1 if a<1<2", 13, 0);
        fault("pace 1 if a<1 if b<1", 14, 0);
        fault("pace 1 if a<1]", 13, 0);
        fault("pace 1 if [a<1", 14, 0);
        fault("pace 1 if [a<1;pace 2", 14, 0);
        fault("pace 1 if [a]<1", 12, 0);
        fault("pace 1 if a<not", 12, 0);
        fault("pace 1 if and", 10, 0);
        fault("shift", 5, 0);
        fault("shift -1", 6, 0);
        fault("shift 1+", 8, 0);
        fault("shift 1+*2", 8, 0);
        fault("shift 100000", 6, 1);
        fault("shift pump", 6, 0);
        fault("shift m", 6, 0);
        fault("pace 1 if " + times("[", 11) + "a<1" + times("]", 11), 20, 2);
        fault("pace 1 if " + times("not ", 11) + "a<1", 50, 2);
        fault("pace 1 if " + times("not[", 6) + "a<1", 30, 2);
        fault("shift " + times("1+", 60) + "1", 126, 3);
        fault("shift " + times("1+", 60) + "a", 126, 3);
        fault("shift " + times("1+", 60) + "m", 126, 0);
        fault("shift " + times("1+", 60) + "123456", 126, 1);
        // 57 values, a fact of three, and the next value is the 61st; with 56 the next sign is
        fault("shift " + times("1+", 56) + "1 if a<1 or a<1", 130, 3);
        fault("shift " + times("1+", 55) + "1 if a<1 or a<1", 129, 3);
        fault("pace 1 if " + times("a<1 or ", 20) + "a<1", 150, 3);
        fault(times("pace 1;", 12) + "pace 1", 84, 4);
        fault(times("pace 1;", 12) + "  pump", 86, 4);
        fault(times("pace 1;", 12) + "lean", 84, 0);
        fault(times("pace 1;", 12), 84, 0);
        fault(times(";", 400), 0, 0);
        fault("pace 1 if " + times("not ", 3) + times("[", 7) + times("a", 371), 29, 0);
        fault("pace 1;" + times("+", 393), 7, 0);
        fault("shift 1" + times(" ", 392) + "+", 400, 0);
        fault("pace 1" + times(" ", 393) + ";", 400, 0);
    }

    /** What a test or a sum is worth, told by PACE or ASIDE behind one round. */
    private static void worth(String test, boolean holds) {
        LooseWater x = worthShip();
        int p = plan(x, "pace 77 if " + test);
        due(14, "plan of " + test, p, 0);
        x.run(p, 1);
        due(14, test, x.tells(3), holds ? 77 : 9);
    }

    private static void sum(String text, int worth) {
        LooseWater x = worthShip();
        int p = plan(x, "shift " + text);
        due(14, "plan of " + text, p, 0);
        x.run(p, 1);
        due(14, text, x.tells(2), worth);
    }

    /** LEAN -20, ROUND 0, DRAFT 105, PACE 9, TOTAL 1050, STIFF 125, a 50, b 0. */
    private static LooseWater worthShip() {
        LooseWater x = steady();
        x.place(0, 100, 100, 100, 1, 0);
        x.place(0, 100, 100, 100, 1, 0);
        x.water(0, 50);
        x.sets(1, 9);
        x.sets(2, -20);
        return x;
    }

    private static void language() {
        worth("lean = 20", true);
        worth("side = 0 - 1", true);
        worth("round = 0", true);
        worth("draft = 105", true);
        worth("pace = 9", true);
        worth("total = 1050", true);
        worth("a = 50", true);
        worth("b = 0 and l = 0", true);
        worth("a < 50", false);
        worth("a <= 50", true);
        worth("a >= 50", true);
        worth("a > 50", false);
        worth("a < 51", true);
        worth("a > 49", true);
        worth("not a = 50", false);
        worth("not not a = 50", true);
        worth("a = 1 and a = 2 or a = 50", true);
        worth("a = 50 or a = 1 and a = 2", true);
        worth("[a = 50 or a = 1] and a = 2", false);
        worth("not [a = 50 and b = 1]", true);
        worth("not a = 50 or a = 50", true);
        // TOTAL 1050, UP 501250: 1050*60 - 44110 - 7333 = 11557, times 1000 by 92400
        worth("stiff = 125", true);
        sum("2 + 3 * 4", 14);
        sum("20 - 3 - 4", 13);
        sum("100 / 7 * 7", 98);
        sum("1 - 100 / 0", 1);
        sum("0 - 7 / 2", -3);
        sum("side * 7 / 2", -3);
        sum("99999 * 99999", 99999);
        sum("0 - 99999 * 99999", -99999);
        // 99999 to the fourth goes round in 64 bits: 99996000059999600001 less 5 * 2^64 is above 0
        sum("99999 * 99999 * 99999 * 99999", 99999);
        // 99999 * 99999 * 99999 * 10000 is 9999700002999900000 - below 2^64 but above 2^63: below 0
        sum("99999 * 99999 * 99999 * 10000", -99999);
    }

    private static void rounds() {
        LooseWater x = steady();
        x.place(0, 100, 100, 100, 1, 0);
        x.place(0, 50, 100, 100, 1, 0);
        int fill = plan(x, "fill a 60; fill c 5; pump c 5; cross a c 5; cross c a 5");
        int cross = plan(x, "cross a b 45; cross a a 5; cross b a 3 if b = 45");
        int pump = plan(x, "pump a 9999; shift 0 - 7; pace 3 if a = 0");
        due(14, "no plan", x.run(3, 1), UNTOLD);
        due(14, "plan -1", x.run(-1, 1), UNTOLD);
        due(14, "0 rounds", x.run(fill, 0), UNTOLD);
        due(14, "61 rounds", x.run(fill, 61), UNTOLD);
        due(14, "no round went by", x.tells(1), 0);
        due(14, "fill", x.run(fill, 1), 0);
        due(14, "a", x.of(0, 0), 60);
        x.run(fill, 1);
        due(14, "cap at most", x.of(0, 0), 100);
        x.run(cross, 1);
        due(14, "from the one", x.of(0, 0), 100 - 45 + 3);
        due(14, "to the other", x.of(1, 0), 42);
        x.run(cross, 1);
        due(14, "no more than can go in", x.of(1, 0), 50);
        due(14, "no more than went", x.of(0, 0), 50);
        x.water(0, 4);
        x.water(1, 0);
        x.run(cross, 1);
        due(14, "no more than there is", x.of(1, 0), 4);
        x.water(0, 9);
        x.run(pump, 1);
        due(14, "0 at least", x.of(0, 0), 0);
        due(14, "aside", x.tells(2), -7);
        due(14, "as it is then", x.tells(3), 3);
        due(14, "round", x.tells(1), 6);
        due(14, "60 rounds", x.run(pump, 60), x.tells(0));
        due(14, "rounds", x.tells(1), 66);

        x = crank();
        int none = plan(x, "pace 50; pump a 1");
        x.sets(2, 1);
        due(14, "three degrees at most", x.run(none, 1), 4);
        due(14, "three more", x.run(none, 1), 7);
        due(14, "till she is over", x.run(none, 18), 60);
        x.sets(1, 0);
        due(14, "over", x.run(none, 1), 60);
        due(14, "nothing else happens then", x.tells(3), 0);
        due(14, "but a round goes by", x.tells(1), 21);
        x.sets(2, -60);
        x.run(none, 1);
        due(14, "to the left too", x.tells(3), 0);
        for (int i = 0; i < 166; i++) x.run(none, 60);
        due(14, "round 9982", x.tells(1), 9982);
        due(14, "above 9999", x.run(none, 18), UNTOLD);
        due(14, "9999", x.run(none, 17), -60);
        due(14, "one more", x.run(none, 1), UNTOLD);
        due(14, "it stays", x.tells(1), 9999);
    }

    /** What an earlier ship had in places that this one has not must be nowhere. */
    private static void placesOfAnotherShip() {
        LooseWater x = steady();
        for (int i = 0; i < 3; i++) {
            x.place(0, 100, 100, 100, 1, 9);
            x.water(i, 50);
        }
        x.ship(100, 1000, 500, 10);
        x.place(0, 100, 100, 100, 1, 0);
        x.water(0, 50);
        x.run(plan(x, "fill b 5; fill c 5; cross a b 5; cross b a 5; shift a * 1000 + b * 10 + c"), 1);
        due(14, "nothing in places that are not there", x.tells(4), 1050);
        due(14, "nor are they worth anything", x.tells(2), 50000);
        due(4, "a place anew", x.place(0, 100, 100, 100, 1, 0), 1);
        due(4, "is empty", x.of(1, 0), 0);
        due(4, "its level", x.of(1, 2), 0);
        due(4, "its run", x.flows(1, 30), 0);
    }

    private static void openings() {
        // DRAFT 100; at 30 degrees SIN is 500: her side is 250 deeper
        LooseWater x = steady();
        x.place(20, 100, 100, 100, 1, 0);
        x.door(0, 0, 90, 50);
        x.sets(1, 10);
        int none = plan(x, "pump l 1");
        x.run(none, 1);
        // ahead 110 is above 90: 50 * 20 by 100
        due(14, "ahead", x.of(0, 0), 10);
        x.door(0, 1, 0, 200);
        x.run(none, 1);
        // the first: 111 above 90: 10; then to the right 102 above 40: 124, 100 at most
        due(14, "cap at most", x.of(0, 0), 100);

        x = steady();
        x.place(20, 100, 100, 100, 1, 0);
        x.door(0, 1, 100, 200);
        x.run(plan(x, "pump l 1"), 1);
        due(14, "a sill as high as the sea", x.of(0, 0), 0);
        x.door(0, 1, 99, 200);
        x.run(0, 1);
        due(14, "a sill that is lower by one", x.of(0, 0), 2);

        x = steady();
        x.place(0, 100, 100, 100, 1, 0);
        x.door(0, -1, 60, 20);
        x.port(0, 1, 5, 100);
        x.sets(2, -1);
        x.run(plan(x, "pump l 1"), 1);
        // left is 500 * 17 by 1000 = 8 deeper: 108 above 60: 20 * 48 by 100 = 9; then to the
        // right inside is 9 - 8 = 1, below the sill
        due(14, "in to the left", x.of(0, 0), 9);

        x = steady();
        x.place(900, 100, 100, 100, 1, 0);
        x.water(0, 50);
        x.port(0, 0, 940, 100);
        x.port(0, 0, 930, 100);
        int q = plan(x, "pump l 1");
        x.run(q, 1);
        // 950 above 940: 10 go; 940 above 930: 10 go
        due(14, "out, by their numbers", x.of(0, 0), 30);
        x.water(0, 100);
        x.port(0, 0, 0, 200);
        x.run(q, 1);
        // 60, 30 and then by 830 * 2: 0 at least
        due(14, "0 at least", x.of(0, 0), 0);

        x = steady();
        x.cargo(100, 500, 5, 20);
        x.cargo(100, 500, 6, 20);
        x.sets(2, 6);
        x.run(plan(x, "pump l 1"), 1);
        due(14, "above its angle", x.slid(0), 1);
        due(14, "at its angle", x.slid(1), 0);
        x.sets(2, -7);
        x.run(0, 1);
        due(14, "to the left", x.slid(0), -1);
        due(14, "the other too", x.slid(1), -1);
        x.sets(2, 1);
        x.run(0, 1);
        due(14, "it stays there", x.slid(0), -1);
    }

    // ---- promises 15 to 24

    private static void tells() {
        LooseWater x = steady();
        x.sets(0, -5);
        x.sets(1, 8);
        x.sets(2, -60);
        due(15, "lean", x.tells(0), -60);
        due(15, "round", x.tells(1), 0);
        due(15, "aside", x.tells(2), -5);
        due(15, "pace", x.tells(3), 8);
        due(15, "total", x.tells(4), 1000);
        due(15, "draft", x.tells(5), 100);
        // (60000 - 44000) * 1000 by 88000
        due(15, "stiff", x.tells(6), 181);
        // 640000 by 181 is 3535; 59 * 59 = 3481
        due(15, "beat", x.tells(7), 59);
        due(15, "loll", x.tells(8), 0);
        due(15, "range", x.tells(9), 61);
        due(15, "over", x.tells(10), 1);
        x.sets(2, 59);
        due(15, "not over", x.tells(10), 0);
        due(15, "what -1", x.tells(-1), UNTOLD);
        due(15, "what 11", x.tells(11), UNTOLD);

        x = shaped(44);
        // 44000 - 44000: STIFF is 0, and there is no BEAT
        due(15, "stiff 0", x.tells(6), 0);
        due(15, "no beat", x.tells(7), -1);
        // at 1: 8500 - 8000 is above 0; LEVER 8, 17, 26, 35, 44, 52, 61, ..: SIN 17, 35, 53, 70, 88, 105
        // at 2: 17500 - 17000; at 3: 26500 - 26000; at 4: 35000 - 35000 is 0
        due(15, "loll", x.tells(8), 4);

        x = new LooseWater();
        x.ship(10, 1, 1, 1);
        // UP is 1: nothing turns her at any degree
        due(15, "rest from 1 is 1", x.tells(8), 1);
        due(15, "nowhere above 0", x.tells(9), 61);
        x.form(1, 3000);
        // 3000 * 1000 by 88
        due(15, "as stiff as can be", x.tells(6), 34090);
        due(15, "a beat of 0", x.tells(7), 0);

        x = crank();
        x.sets(2, -3);
        due(15, "range behind 0", x.tells(9), 1);
        x.sets(2, 3);
        due(15, "range behind a rest at 60", x.tells(9), 61);
        x = shaped(44);
        x.form(12, 0);
        // LEVER from 56 to 59: 387, 290, 193, 96; UP gives 413, 418, 423, 427
        x.sets(0, -1000);
        x.sets(2, -2);
        due(15, "range", x.tells(9) > 50 && x.tells(9) < 61, true);
        due(15, "turn at range", x.turn(x.tells(9)) > 0, true);
        due(15, "turn ahead of it", x.turn(x.tells(9) - 1) > 0, false);

        // UP 1000 and TOTAL 1: TURN is SIN less LEVER
        x = feather();
        x.form(11, 817);
        due(15, "0 on the way is not below", x.tells(9), 1);
        x.form(11, 818);
        due(15, "-1 is", x.tells(9), 56);
        x.form(11, 3000);
        x.form(12, 863);
        due(15, "1 is above", x.tells(9), 60);
        x.form(12, 864);
        due(15, "0 is not", x.tells(9), 61);
    }

    /** Weight 1 at 1000: UP times SIN by 1000 is SIN. */
    private static LooseWater feather() {
        LooseWater x = new LooseWater();
        x.ship(10, 1, 1000, 1);
        return x;
    }

    private static long sin(int d) {
        return 4000L * d * (180 - d) / (40500 - d * (180 - d));
    }

    private static void heights() {
        LooseWater x = crank();
        x.place(101, 33, 100, 100, 1, 0);
        x.water(0, 31);
        // LEVEL 31, height 101 + 15
        due(16, "up", x.up(), 500000 + 31 * 116);
        x.cargo(7, 11, 1, 1);
        due(16, "with cargo", x.up(), 500000 + 31 * 116 + 77);
        x.load(100, 100);
        due(16, "loads are not aboard", x.up(), 500000 + 31 * 116 + 77);
    }

    private static void turning() {
        LooseWater x = crank();
        due(17, "upright", x.turn(0), 0);
        due(17, "to the right", x.turn(30), 250000);
        due(17, "to the left", x.turn(-30), -250000);
        due(17, "60", x.turn(60), 432000);
        due(17, "-60", x.turn(-60), -432000);
        due(17, "61", x.turn(61), 0);
        due(17, "-61", x.turn(-61), 0);
        x.form(6, 100);
        due(17, "a lever", x.turn(30), 150000);
        x.sets(0, -3);
        due(17, "aside upright", x.turn(0), -30);
        // COS of 30 is SIN of 60, 864: -30 * 864 by 1000, towards 0
        due(17, "aside at 30", x.turn(30), 150000 - 25);
        due(17, "aside at -30", x.turn(-30), -150000 - 25);
        x.sets(0, 0);
        x.place(0, 100, 100, 100, 1, -7);
        x.water(0, 100);
        due(17, "off", x.turn(0), -7000);
        x.cargo(30, 0, 1, 50);
        x.sets(2, 2);
        x.run(plan(x, "pump l 1"), 1);
        due(17, "slid", x.turn(0), -7000 + 15000);
        x.water(0, 50);
        // 11500 * 864 by 1000 = 9936; RUN 25000, UP 501250 gives 250625, TOTAL 1080 * 100
        due(17, "all of it", x.turn(30), 9936 + 25000 + 250625 - 108000);
        due(17, "all of it to the left", x.turn(-30), 9936 - 25000 - 250625 + 108000);

        x = crank();
        for (int i = 0; i < 12; i++) {
            x.place(0, 100, 100, 100, 1, i);
            x.water(i, 50);
        }
        // 12 RUNS of 7333, UP 515000 * 88 by 1000; 50 * 66 * 10 aside, COS of 5 is 996
        due(17, "twelve places", x.turn(5), 12 * 7333 + 45320 + 32868);

        x = feather();
        for (int d = 0; d <= 60; d++) due(17, "SIN of " + d, x.turn(d), sin(d));
        x.sets(0, 100);
        for (int d = 0; d <= 60; d++) due(17, "COS of " + d, x.turn(d), sin(90 - d) + sin(d));
        for (int d = 1; d <= 60; d++) due(17, "COS of -" + d, x.turn(-d), sin(90 - d) - sin(d));

        x = feather();
        x.form(1, 87);
        due(18, "1 turns her", x.rest(5), 60);
        x.form(1, 89);
        // LEVER 71, 53 of 4, 3 degrees; SIN 70, 53
        due(18, "and -1", x.rest(5), 3);
        x = steady();
        due(18, "60", x.rest(60), 0);
        due(18, "-60", x.rest(-60), 0);
        due(18, "61", x.rest(61), -100);
        due(18, "-61", x.rest(-61), -100);
        x.sets(0, 350);
        // at 0 3500; at 1 3500 * 999 by 1000 = 3496 less 3500 is below 0
        due(18, "not back", x.rest(0), 1);
        due(18, "from the other side", x.rest(5), 0);
        x.sets(0, 0);
        x.sets(2, 17);
        due(18, "lean is nothing to it", x.rest(0), 0);
        x = crank();
        due(18, "over", x.rest(1), 60);
        due(18, "at 60", x.rest(60), 60);
        due(18, "at -60", x.rest(-60), -60);
    }

    private static void levers() {
        LooseWater x = crank();
        x.form(1, 10);
        x.form(2, 3);
        x.form(12, 2999);
        due(19, "2", x.lever(2), 4);
        due(19, "5", x.lever(5), 10);
        due(19, "6", x.lever(6), 8);
        due(19, "9", x.lever(9), 4);
        due(19, "10", x.lever(10), 3);
        due(19, "14", x.lever(14), 0);
        due(19, "59", x.lever(59), 2399);
        due(19, "60", x.lever(60), 2999);
        due(19, "61", x.lever(61), -1);
        due(19, "-1", x.lever(-1), -1);
    }

    private static void ofPlaces() {
        LooseWater x = crank();
        x.place(5, 77, 33, 500, 3, -4);
        // 33 * 500 * 77 by 10000
        int[] first = {0, 127, 0, 3, -4, 5, 77, 33, 500};
        for (int i = 0; i < 9; i++) due(20, "what " + i, x.of(0, i), first[i]);
        x.water(0, 127);
        due(20, "level", x.of(0, 2), 76);
        x.water(0, 1);
        due(20, "level of 1", x.of(0, 2), 0);
        due(20, "what 9", x.of(0, 9), -1000);
        due(20, "what -1", x.of(0, -1), -1000);
        due(20, "no place", x.of(1, 0), -1000);
        due(20, "place -1", x.of(-1, 0), -1000);

        x.place(0, 100, 100, 100, 3, 0);
        x.water(1, 2);
        // 9259 * 88 by 1000 = 814; 5 * 100 * 2 by 3 = 333
        due(21, "little water", x.flows(1, 5), 333);
        due(21, "at 0", x.flows(1, 0), 0);
        x.water(1, 60);
        due(21, "water", x.flows(1, 5), 814);
        due(21, "at 60", x.flows(1, 60), 6666);
        x.water(1, 98);
        due(21, "little room", x.flows(1, 60), 333);
        x.water(1, 100);
        due(21, "full", x.flows(1, 60), 0);
        due(21, "61", x.flows(1, 61), -1);
        due(21, "-1", x.flows(1, -1), -1);
        due(21, "no place", x.flows(2, 0), -1);
    }

    private static void insideAndOutside() {
        LooseWater x = steady();
        x.place(40, 100, 100, 100, 3, 0);
        x.sets(2, 30);
        due(22, "without water", x.inside(0, 1), 0);
        x.water(0, 50);
        // 500 by 3 is 166, times 500 by 1000 is 83
        due(22, "right", x.inside(0, 1), 140);
        due(22, "left", x.inside(0, -1), 40);
        due(22, "ahead", x.inside(0, 0), 90);
        x.sets(2, -10);
        // 166 * 175 by 1000 is 29
        due(22, "right of a lean to the left", x.inside(0, 1), 40 + 50 - 29);
        due(22, "left", x.inside(0, -1), 40 + 50 + 29);
        due(22, "side 2", x.inside(0, 2), UNTOLD);
        due(22, "side -2", x.inside(0, -2), UNTOLD);
        due(22, "no place", x.inside(1, 0), UNTOLD);

        x.sets(1, 99);
        // 500 * 175 by 1000 is 87; 99 * 99 by 10 is 980
        due(23, "ahead", x.outside(0), 105 + 980);
        due(23, "right", x.outside(1), 105 - 87);
        due(23, "left", x.outside(-1), 105 + 87);
        x.sets(2, 60);
        due(23, "right", x.outside(1), 105 + 432);
        due(23, "left, below 0", x.outside(-1), 105 - 432);
        due(23, "side 2", x.outside(2), UNTOLD);
        due(23, "side -2", x.outside(-2), UNTOLD);

        due(24, "no cargo", x.slid(0), -2);
        x.cargo(1, 1, 1, 1);
        due(24, "at first", x.slid(0), 0);
        due(24, "-1", x.slid(-1), -2);
        due(24, "1", x.slid(1), -2);
    }

    // ---- promises 25 to 34

    private static void whatItTakes() {
        LooseWater x = shaped(50);
        x.place(1000, 100, 100, 100, 1, 0);
        x.place(0, 100, 100, 100, 1, 0);
        // LEVER of 1 is 10. At 1: 17 * UP by 1000 + RUN less 10 * TOTAL. Empty: 8500 - 10000.
        // 1 in it: UP 501000, 8517 + 500 - 10010 = -993; 2: UP 502002 (level 2, half 1), 8534 + 1000
        // - 10020 = -486; 3: 503003, 8551 + 1416 - 10030 = -63; 4: 504008, 8568 + 1416 - 10040 = -56;
        // 8: UP 508032, 8636 + 1416 - 10080 = -28; 12: 512072, 8705 + 1416 - 10120 = 1
        due(25, "sinks", x.sinks(0), 12);
        due(25, "it stays empty", x.of(0, 0), 0);
        x.water(0, 70);
        due(25, "whatever is in it", x.sinks(0), 12);
        due(25, "it stays", x.of(0, 0), 70);
        // with 70 in the first: UP 572450, 9731 + 1416 - 10700 = 447: the other one, empty: at once
        due(25, "at once", x.sinks(1), 0);
        due(25, "no place", x.sinks(2), -1);
        due(25, "place -1", x.sinks(-1), -1);
        x.water(0, 0);
        x.water(1, 0);
        // low down: 1: 8500 + 500 - 10010; 3: 8500 + 1416 - 10030 = -114, and less and less
        due(25, "never", x.sinks(1), -2);
        due(25, "total", x.tells(4), 1000);

        LooseWater y = feather();
        y.place(0, 10, 100, 100, 1, 0);
        y.form(1, 255);
        // at 1, LEVER 51: 17 - 51, and n in it (0 to 10): 17 + the lesser of 1416 and 500 * the
        // lesser of n and 10 - n, less 51 * n + 51; full 17 - 561: so 1 to 9
        due(25, "sinks", y.sinks(0), 10);
        y.ship(10, 100, 1000, 1);
        y.place(1000, 10, 100, 100, 1, 0);
        y.walls(0, 9);
        y.form(1, 85);
        // LEVER of 1 is 17: 1700 - 1700
        due(25, "a turn of 0 is a loll of 1", y.sinks(0), 0);
        due(32, "a turn of 0 is a loll of 1", y.ice(1, 0), 0);
        y.form(1, 90);
        // LEVER 18: 1700 - 1800; n in it at 1000 + n by 2 with a run of 1028 * 17 by 1000 = 17, or
        // 55 * n: n = 10 has none and no more than 5 * 10 by 1000 of gain, so the full one never
        due(25, "never", y.sinks(0), -2);
        y.ship(10, 10, 1000, 1);
        y.place(2000, 100, 10, 10, 1, 0);
        y.form(1, 90);
        // 170 - 180; CAP 1, so 0 till 100 hundredths: 1 at 2050 gives 34 - 18
        due(25, "full", y.sinks(0), 100);
        y.form(1, 100);
        // LEVER 20: 170 - 200 + 34 - 20
        due(25, "not even full", y.sinks(0), -2);

        y.ship(10, 10, 1000, 1);
        y.place(0, 20, 100, 100, 1, 0);
        y.water(0, 10);
        y.form(1, 150);
        // LEVER 30, TOTAL 20, UP 10050: 170 + RUN - 600; RUN is 1416 by walls squared, 500 * 10 by
        // walls at most: 354 with 2 parts
        due(26, "two", y.parts(0), 2);
        y.form(1, 94);
        // LEVER 18: 170 + RUN - 360: 157 with 3, 190 would be a turn of 0
        due(26, "three", y.parts(0), 3);
        y.form(1, 47);
        // LEVER 9: 170 + RUN - 180: 22 with 8 (1302 * 17 by 1000), 17 with 9
        due(26, "none", y.parts(0), -2);
        y.cargo(2, 0, 60, 0);
        // TOTAL 22: 170 + RUN - 198: 28 with 7 (1700 * 17 by 1000) is a turn of 0, 22 with 8
        due(26, "eight", y.parts(0), 8);
        y.ship(10, 10, 1000, 1);
        y.place(0, 20, 100, 100, 1, 0);
        y.water(0, 10);
        y.form(1, 48);
        y.cargo(1, 0, 60, 0);
        // TOTAL 21, LEVER 9: 170 + RUN - 189: 22 with 8, 17 with 9
        due(26, "nine", y.parts(0), 9);
        y.cargo(16, 0, 60, 0);
        y.form(1, 25);
        // TOTAL 37, LEVER 5: 170 + RUN - 185: with ten it would be 14
        due(26, "nine are the most", y.parts(0), -2);

        x.water(0, 12);
        // two parts: 20833 * 17 by 1000 = 354: 8705 + 354 - 10120 is below 0
        due(26, "parts", x.parts(0), 2);
        due(26, "walls stay", x.of(0, 3), 1);
        x.water(0, 100);
        // full: UP 605000: 10285 - 11000
        due(26, "one", x.parts(0), 1);
        due(26, "no place", x.parts(2), -1);
        due(26, "place -1", x.parts(-1), -1);
        x = crank();
        x.place(0, 100, 100, 100, 5, 0);
        due(26, "none", x.parts(0), -2);
        due(26, "walls stay", x.of(0, 3), 5);
        due(25, "crank", x.sinks(0), 0);
    }

    private static void carried() {
        LooseWater x = steady();
        // at 0 1000; at 1: 999 - 3500 is below 0
        due(27, "rest", x.carried(10, 10, 0), 1);
        // 100 * 10 * 1000 by (1000 * 17)
        due(27, "stiff by it", x.carried(10, 10, 1), 58);
        due(27, "aside is as it was", x.tells(2), 0);
        x.sets(2, 1);
        // from 1: -3500 + 999 turns her back to 0
        due(27, "back", x.carried(10, 10, 0), 0);
        due(27, "no otherwise", x.carried(10, 10, 1), UNTOLD);
        x = crank();
        x.sets(0, -1);
        // now at -60, then at 60: 120 apart, 90 at most; 999 * 999 * 10000 by (1000 * 1000)
        due(27, "far over", x.carried(999, 999, 0), 60);
        due(27, "90 at most", x.carried(999, 999, 1), 9980);
        x.sets(0, 99999);
        due(27, "beyond the bounds of aside", x.carried(1, 1, 0), 60);
        int[][] others = {{0, 1, 0}, {1000, 1, 0}, {1, 0, 0}, {1, 1000, 0}, {1, 1, -1}, {1, 1, 2}};
        for (int[] o : others) due(27, "another", x.carried(o[0], o[1], o[2]), -2000000);
    }

    private static void order() {
        // 12 a degree: 3500, 6500 (35 * 500 is 17500 of 24000), 9500 (26500 of 36000) turn her back
        LooseWater x = steady();
        x.place(0, 100, 100, 100, 1, 20);
        x.place(0, 100, 100, 100, 1, -20);
        x.place(0, 100, 100, 100, 1, 0);
        due(28, "alone", x.order(4, 59, 0), 2);
        due(28, "both", x.order(3, 59, 0), 0);
        due(28, "then", x.order(3, 59, 1), 1);
        due(28, "k 2 of two", x.order(3, 59, 2), -1);
        due(28, "k -1", x.order(3, 59, -1), -1);
        due(28, "no places", x.order(0, 59, 0), -1);
        due(28, "one that is not there", x.order(8, 59, 0), -1);
        due(28, "-1", x.order(-1, 59, 0), -1);
        due(28, "bound 0", x.order(3, 0, 0), -1);
        due(28, "bound 60", x.order(3, 60, 0), -1);
        due(28, "not within one degree", x.order(3, 1, 0), -2);
        due(28, "nothing is filled", x.tells(4), 1000);
        x.place(0, 999, 100, 100, 1, 0);
        // 999 low down ahead of all make her so stiff that the first is no more than a degree
        due(28, "the stiff one first", x.order(11, 4, 0), 3);
        due(28, "then the first", x.order(11, 4, 1), 0);
        due(28, "then the second", x.order(11, 4, 2), 1);

        LooseWater y = steady();
        for (int i = 0; i < 7; i++) y.place(0, 100, 100, 100, 1, 0);
        due(28, "six", y.order(126, 59, 5), 6);
        due(28, "seven", y.order(127, 59, 0), -1);

        // a lean that it is at: half full it would rest at one side, from LEAN it does not
        LooseWater z = crank();
        z.place(0, 1, 1, 1, 1, 0);
        z.sets(2, 1);
        due(28, "rest from LEAN", z.order(1, 59, 0), -2);
        z.sets(2, 0);
        due(28, "rest from 0", z.order(1, 1, 0), 0);

        // half full she rests beyond 20 degrees, full at 0: left out if it has more than half
        LooseWater w = shaped(50);
        w.place(1000, 100, 100, 100, 1, 0);
        w.sets(2, 1);
        due(28, "half full", w.order(1, 10, 0), -2);
        w.water(0, 50);
        due(28, "half full is not more", w.order(1, 10, 0), -2);
        w.water(0, 51);
        due(28, "more than half", w.order(1, 10, 0), 0);
    }

    private static void ahead() {
        LooseWater x = crank();
        x.place(0, 100, 100, 100, 1, 0);
        int p = plan(x, "fill a 3 if round < 2; shift 1");
        due(29, "now", x.ahead(p, 0, 0), 0);
        due(29, "lean", x.ahead(p, 5, 0), 15);
        due(29, "not over", x.ahead(p, 19, 1), 0);
        due(29, "over", x.ahead(p, 20, 1), 1);
        due(29, "water", x.ahead(p, 1, 2), 3);
        due(29, "water of 60", x.ahead(p, 60, 2), 6);
        due(29, "first", x.ahead(p, 60, 3), 20);
        due(29, "none", x.ahead(p, 19, 3), -2);
        due(29, "she stays", x.tells(0), 0);
        due(29, "no round", x.tells(1), 0);
        due(29, "no water", x.of(0, 0), 0);
        due(29, "aside", x.tells(2), 0);
        due(29, "n -1", x.ahead(p, -1, 0), UNTOLD);
        due(29, "n 61", x.ahead(p, 61, 0), UNTOLD);
        due(29, "what -1", x.ahead(p, 1, -1), UNTOLD);
        due(29, "what 4", x.ahead(p, 1, 4), UNTOLD);
        due(29, "no plan", x.ahead(1, 1, 0), UNTOLD);
        due(29, "plan -1", x.ahead(-1, 1, 0), UNTOLD);
        x.sets(2, 60);
        due(29, "now", x.ahead(p, 0, 3), 0);
        due(29, "now, of 60", x.ahead(p, 60, 3), 0);
        due(29, "over now", x.ahead(p, 0, 1), 1);
    }

    private static void saved() {
        LooseWater x = crank();
        int right = plan(x, "shift 99999");
        int left = plan(x, "shift 0 - 99999");
        x.image(3);
        // three degrees a round, whichever way she is pulled while she is upright: 20 make her over
        due(30, "19 rounds", x.saved(3, right, right, 19), 19);
        due(30, "20 rounds", x.saved(3, right, right, 20), -2);
        due(30, "30 rounds", x.saved(3, right, left, 30), 19);
        due(30, "0 rounds", x.saved(3, right, left, 0), 0);
        x.sets(2, 60);
        due(30, "from the image on", x.saved(3, right, left, 5), 5);
        x.image(0);
        due(30, "over in it", x.saved(0, right, left, 0), -2);
        due(30, "never made", x.saved(1, right, left, 5), -1);
        due(30, "image 4", x.saved(4, right, left, 5), -1);
        due(30, "image -1", x.saved(-1, right, left, 5), -1);
        due(30, "n -1", x.saved(3, right, left, -1), -1);
        due(30, "n 31", x.saved(3, right, left, 31), -1);
        due(30, "no plan", x.saved(3, 2, left, 5), -1);
        due(30, "no other", x.saved(3, right, -1, 5), -1);
        due(30, "she stays", x.tells(0), 60);
        due(30, "the image stays", x.back(3), 0);
        due(30, "as it was", x.tells(0), 0);
    }

    private static void hoses() {
        LooseWater x = crank();
        x.place(0, 100, 100, 100, 1, 0);
        x.place(0, 100, 100, 100, 1, 1);
        int none = plan(x, "pump l 1");
        int pump = plan(x, "pump b 40");
        due(31, "amidships", x.hoses(none, 0, 20), 99);
        // any water in the second one and she goes over, 3 degrees a round
        due(31, "19 rounds", x.hoses(none, 1, 19), 99);
        due(31, "20 rounds", x.hoses(none, 1, 20), 0);
        due(31, "as much as the pump takes", x.hoses(pump, 1, 20), 40);
        x.sets(2, 60);
        due(31, "over", x.hoses(none, 0, 1), -2);
        due(31, "n 0", x.hoses(none, 0, 0), -1);
        due(31, "n 21", x.hoses(none, 0, 21), -1);
        due(31, "no plan", x.hoses(2, 0, 1), -1);
        due(31, "no place", x.hoses(none, 2, 1), -1);
        due(31, "place -1", x.hoses(none, -1, 1), -1);
        due(31, "nothing happened", x.tells(1), 0);
        due(31, "no water", x.tells(4), 1000);
    }

    private static void iceAndLoads() {
        LooseWater x = steady();
        // at 1: 8500 - 12000; each 10 at 3000 gives 510 - 120
        due(32, "ice", x.ice(10, 3000), 9);
        due(32, "nothing happened", x.tells(4), 1000);
        due(32, "low down", x.ice(999, 0), -2);
        // each 1 at 1735 gives 29.495 - 12: 3500 are had with 201 (17 * 348735 by 1000 = 5928 - 2412)
        due(32, "more than 200", x.ice(1, 1735), -2);
        due(32, "200", x.ice(1, 1736), 200);
        due(32, "at once", crank().ice(1, 0), 0);
        int[][] others = {{0, 0}, {1000, 0}, {1, -1}, {1, 3001}};
        for (int[] o : others) due(32, "another", x.ice(o[0], o[1]), -1);

        int[][] wrong = {{0, 0}, {10000, 0}, {1, -1}, {1, 3001}};
        for (int[] o : wrong) due(33, "another", x.load(o[0], o[1]), -1);
        due(33, "least", x.load(1, 0), 0);
        due(33, "most", x.load(9999, 3000), 1);
        for (int i = 2; i < 6; i++) due(33, "load", x.load(5, 5), i);
        due(33, "a seventh", x.load(5, 5), -1);
        due(33, "count", x.count(6), 6);
        due(33, "not aboard", x.tells(4), 1000);
        due(34, "no night", x.night(0, 0), -2);

        x = steady();
        due(34, "no loads", x.night(0, 0), -1);
        x.load(100, 3000);
        x.load(1000, 0);
        x.load(50, 500);
        // STIFF with 0: (66000 - 70400) below 0; with 1: (120000 - 44000) * 1000 by 176000 = 431;
        // with 2: (63000 - 46200) * 1000 by 92400 = 181; with 1 and 0: (126000 - 70400) by 184800 = 300;
        // with 1 and 2: (123000 - 46200) by 180400 = 425; with all: (129000 - 72600) by 189200 = 298
        due(34, "the ballast first", x.night(200, 0), 1);
        due(34, "then the heavy one", x.night(200, 1), 0);
        due(34, "then the light one", x.night(200, 2), 2);
        due(34, "the light one may be first", x.night(181, 0), 1);
        due(34, "299", x.night(299, 0), -2);
        due(34, "298", x.night(298, 1), 0);
        due(34, "any", x.night(-99999, 0), 0);
        due(34, "none", x.night(99999, 0), -2);
        due(34, "bound below", x.night(-100000, 0), -1);
        due(34, "bound above", x.night(100000, 0), -1);
        due(34, "k 3", x.night(200, 3), -1);
        due(34, "k -1", x.night(200, -1), -1);
    }

    // ---- promises 35 to 43

    private static void guess() {
        LooseWater x = steady();
        due(35, "no places", x.guess(0, 0, 0), -2);
        x.place(0, 100, 100, 100, 1, 0);
        x.place(0, 100, 100, 100, 1, 30);
        // REST is 0 with the first one, whatever is in it; empty her BEAT is 59
        due(35, "empty", x.guess(0, 59, 0), 0);
        due(35, "the least hundredth", x.guess(0, 59, 1), 0);
        due(35, "not off at all", x.guess(0, 59, 2), 0);
        // with 12 in the second one TURN at 0 is 3600, at 1 it is 3596 + 1416 - 3500 - 144 and so on
        x.water(1, 12);
        int lean = x.rest(0);
        int beat = x.tells(7);
        due(35, "she leans", lean > 0, true);
        x.water(1, 0);
        due(35, "the second", x.guess(lean, beat, 0), 1);
        due(35, "no more than 12", x.guess(lean, beat, 1) <= 12, true);
        due(35, "not off", x.guess(lean, beat, 2), 0);
        due(35, "far", x.guess(0, 9999, 0) >= 0, true);
        due(35, "nothing happened", x.tells(4), 1000);
        int[][] others = {{-61, 0, 0}, {61, 0, 0}, {0, -1, 0}, {0, 10000, 0}, {0, 0, -1}, {0, 0, 3}};
        for (int[] o : others) due(35, "another", x.guess(o[0], o[1], o[2]), -1);
        LooseWater y = crank();
        y.place(0, 1, 1, 1, 1, 0);
        // no BEAT counts as 0; ten for each degree
        due(35, "off", y.guess(-60, 9999, 2), 600 + 9999);
        due(35, "no beat", y.guess(1, 0, 2), 10);
    }

    private static void best() {
        LooseWater x = steady();
        due(36, "no plans", x.best(1, 1, -1), -2);
        int right = plan(x, "shift 2000");
        int none = plan(x, "shift 0");
        int left = plan(x, "shift 0 - 2000");
        due(36, "nothing", x.best(2, 3, -1), 0);
        due(36, "the second plan", x.best(2, 3, 0), none);
        due(36, "and again", x.best(2, 3, 1), none);
        x.sets(2, 9);
        // 6, 3, 0 behind three rounds of nothing; to the left the same, and beyond
        due(36, "6 at the worst", x.best(1, 3, -1), 6);
        due(36, "by the second plan, as the first goes on to 7", x.best(1, 3, 0), none);
        // with 2000 aside she rests at 7 or 6: from 9 to 6, not on to 7 but back to 3, to 6, to 3
        due(36, "6 yet", x.best(4, 1, -1), 6);
        due(36, "right", x.best(4, 1, 0), right);
        due(36, "none", x.best(4, 1, 1), none);
        due(36, "right", x.best(4, 1, 2), right);
        due(36, "none", x.best(4, 1, 3), none);
        due(36, "she stays", x.tells(0), 9);
        due(36, "no round", x.tells(1), 0);
        due(36, "aside stays", x.tells(2), 0);
        x.sets(2, -60);
        due(36, "over", x.best(4, 10, -1), 60);
        due(36, "the first of all", x.best(4, 10, 3), 0);
        int[][] others = {{0, 1, -1}, {5, 1, -1}, {1, 0, -1}, {1, 11, -1}, {1, 1, -2}, {1, 1, 1}, {4, 1, 4}};
        for (int[] o : others) due(36, "another", x.best(o[0], o[1], o[2]), -3);
        due(36, "left is a plan", left, 2);
    }

    private static void beats() {
        LooseWater x = steady();
        x.place(0, 200, 10, 100, 1, 0);
        due(37, "empty", x.slop(0), -2);
        x.water(0, 1);
        // LEVEL 10; 4100 by 10 is 410: 20
        due(37, "slop", x.slop(0), 20);
        x.water(0, 20);
        // 4100 by 200 is 20: 4
        due(37, "full", x.slop(0), 4);
        due(37, "no place", x.slop(1), -1);
        due(37, "place -1", x.slop(-1), -1);

        // BEAT is about 59 all along, SLOP 20 at most: the least water there is, 1, from 5 hundredths on
        due(38, "still", x.still(0), 5);
        due(38, "it stays", x.of(0, 0), 20);
        due(38, "no place", x.still(1), -1);
        due(38, "place -1", x.still(-1), -1);
        LooseWater y = crank();
        y.place(0, 200, 10, 100, 1, 0);
        due(38, "no beat", y.still(0), -2);
        LooseWater z = steady();
        z.place(0, 1, 1, 1, 1, 0);
        due(38, "no slop", z.still(0), -2);
        z.ship(10, 1000, 1, 1);
        z.form(1, 3000);
        z.place(0, 999, 1, 2000, 1, 0);
        // STIFF about 34000 and so BEAT 0; CAP 199, LEVEL 5 a piece: 41 by 40 is 1, by 45 (9 in
        // it: 5 hundredths, 9.95) is 0
        due(38, "a beat and a slop of 0", z.still(0), 5);

        // DRAFT is 102: more than 101 upright; 102 by a degree (8); 60 degrees give 432
        due(39, "at 0", x.floods(1, 101), 0);
        due(39, "at 1", x.floods(1, 102), 1);
        due(39, "at 1 yet", x.floods(-1, 109), 1);
        due(39, "at 2", x.floods(-1, 110), 2);
        due(39, "at 60", x.floods(1, 533), 60);
        due(39, "at none", x.floods(1, 534), -2);
        due(39, "3000", x.floods(-1, 3000), -2);
        x.sets(2, -40);
        due(39, "whatever her lean", x.floods(1, 102), 1);
        due(39, "ahead", x.floods(0, 5), -1);
        due(39, "side 2", x.floods(2, 5), -1);
        due(39, "side -2", x.floods(-2, 5), -1);
        due(39, "below", x.floods(1, -1), -1);
        due(39, "above", x.floods(1, 3001), -1);
    }

    private static void leaves() {
        LooseWater x = steady();
        x.place(900, 100, 100, 1000, 1, 0);
        x.place(900, 100, 100, 100, 1, 0);
        x.water(0, 1000);
        due(40, "no ports", x.leaves(0, 999), -2);
        due(40, "now", x.leaves(0, 1000), 0);
        x.port(1, 0, 0, 200);
        due(40, "of another place", x.leaves(0, 999), -2);
        x.port(0, 0, 950, 10);
        // LEVEL 100: 10 * 50 by 100 = 5; 995: LEVEL 99, 4; 991: 4; 987: LEVEL 98, 4 ..
        due(40, "once", x.leaves(0, 995), 1);
        due(40, "twice", x.leaves(0, 991), 2);
        due(40, "four times", x.leaves(0, 983), 4);
        due(40, "it stays", x.of(0, 0), 1000);
        due(40, "never", x.leaves(0, 100), -2);
        x.port(0, 0, 960, 10);
        // the first 5, then 995: LEVEL 99, 39 * 10 by 100 = 3
        due(40, "both", x.leaves(0, 992), 1);
        due(40, "n below", x.leaves(0, -1), -1);
        due(40, "n above", x.leaves(0, 100000), -1);
        due(40, "most n", x.leaves(0, 99999), 0);
        due(40, "no place", x.leaves(2, 0), -1);
        due(40, "place -1", x.leaves(-1, 0), -1);

        LooseWater y = steady();
        y.place(900, 999, 100, 1000, 1, 0);
        y.water(0, 9990);
        y.port(0, 0, 1899 - 199, 1);
        // one at a time while it is 100 or more above the sill: from 9990 (LEVEL 999) on
        due(40, "400", y.leaves(0, 9590), 400);
        due(40, "401", y.leaves(0, 9589), -2);
    }

    private static void images() {
        LooseWater x = steady();
        due(41, "what -1", x.count(-1), -1);
        due(41, "what 7", x.count(7), -1);
        x.place(0, 100, 100, 100, 2, 5);
        x.water(0, 40);
        x.cargo(10, 10, 2, 10);
        x.door(0, 0, 3000, 1);
        x.port(0, 0, 3000, 1);
        x.load(5, 5);
        x.sets(0, 70);
        x.sets(1, 3);
        x.sets(2, 8);
        int p = plan(x, "pace 4");
        x.run(p, 3);
        int lean = x.tells(0);
        long turn = x.turn(7);
        for (int i : new int[] {0, 1, 2, 3, 6, 4}) due(41, "count(" + i + ")", x.count(i), 1);
        due(42, "image", x.image(3), 3);
        due(42, "image 4", x.image(4), -1);
        due(42, "image -1", x.image(-1), -1);
        x.place(0, 10, 10, 10, 1, 0);
        x.water(0, 90);
        x.walls(0, 9);
        x.cargo(1, 1, 1, 1);
        x.door(0, 0, 0, 1);
        x.port(0, 0, 0, 1);
        x.load(1, 1);
        x.form(3, 5);
        plan(x, "shift 0 - 9");
        x.sets(2, -50);
        x.run(1, 2);
        x.feed(1, 1, 1, 1, 1);
        due(43, "never made", x.back(2), -1);
        due(43, "image 4", x.back(4), -1);
        due(43, "image -1", x.back(-1), -1);
        due(43, "nothing happened", x.tells(1), 5);
        due(43, "back", x.back(3), 3);
        for (int i : new int[] {0, 1, 2, 3, 6}) due(43, "count(" + i + ")", x.count(i), 1);
        due(43, "plans stay", x.count(4), 2);
        due(43, "tape stays", x.count(5), 20);
        due(43, "lean", x.tells(0), lean);
        due(43, "round", x.tells(1), 3);
        due(43, "aside", x.tells(2), 70);
        due(43, "pace", x.tells(3), 4);
        due(43, "total", x.tells(4), 1050);
        due(43, "water", x.of(0, 0), 40);
        due(43, "walls", x.of(0, 3), 2);
        due(43, "slid", x.slid(0), 1);
        due(43, "lever", x.lever(15), 180);
        due(43, "turn", x.turn(7), turn);
        x.water(0, 0);
        due(43, "the image is her own", x.back(3), 3);
        due(43, "again", x.of(0, 0), 40);
        x.sets(2, 1);
        due(42, "an image anew", x.image(3), 3);
        x.back(3);
        due(42, "is the new one", x.tells(0), 1);
    }

    public static void main(String[] args) {
        newObject();
        ship();
        form();
        place();
        water();
        walls();
        cargo();
        doorsAndPorts();
        sets();
        tape();
        plans();
        language();
        rounds();
        placesOfAnotherShip();
        openings();
        tells();
        heights();
        turning();
        levers();
        ofPlaces();
        insideAndOutside();
        whatItTakes();
        carried();
        order();
        ahead();
        saved();
        hoses();
        iceAndLoads();
        guess();
        best();
        beats();
        leaves();
        images();
        System.out.println(wrong == 0 ? asked + " answers are as due" : wrong + " answers are not as due");
        if (wrong != 0) System.exit(1);
    }
}
