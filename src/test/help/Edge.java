import java.io.IOException;
import java.nio.charset.StandardCharsets;
import java.nio.file.Files;
import java.nio.file.Path;
import java.nio.file.Paths;
import java.util.function.LongSupplier;

/**
 * What the tests of the edges share. Each test is of one sentence of the document (or the part of
 * it that names one edge), quoted by its words and with the number of the promise that shows it.
 * The numbers that are due are worked out by hand from the document, not taken from the program.
 */
final class Edge {
    static final int UNTOLD = -1000000;
    static final int LEAST = Integer.MIN_VALUE;
    static final int MOST = Integer.MAX_VALUE;

    private static final String DOC = document();
    private static int tests = 0;
    private static int asked = 0;
    private static int wrong = 0;
    private static String now = "";

    interface Body {
        void go();
    }

    private Edge() {
    }

    // ---- tests

    static void test(int promise, String sentence, Body body) {
        tests++;
        now = "promise " + promise + ", \"" + sentence + "\"";
        if (!DOC.isEmpty() && !DOC.contains(flat(sentence))) {
            // no failure: the document may be told in other words one day, and hold all the same
            System.out.println(now + " does not stand in the document by these words");
        }
        int before = asked;
        try {
            body.go();
        } catch (RuntimeException e) {
            fail("threw " + e);
        }
        if (asked == before) fail("nothing was asked");
    }

    static void due(String what, long got, long want) {
        asked++;
        if (got != want) fail(what + " answered " + got + ", due is " + want);
    }

    static void due(String what, boolean got, boolean want) {
        due(what, got ? 1 : 0, want ? 1 : 0);
    }

    /** All of these calls answer the same, and nothing that can be asked of her is other then. */
    static void refused(LooseWater x, long want, LongSupplier... calls) {
        String before = tale(x);
        for (int i = 0; i < calls.length; i++) due("refused call " + i, calls[i].getAsLong(), want);
        String after = tale(x);
        asked++;
        if (!after.equals(before)) fail("something happened: " + before + " became " + after);
    }

    /** All that can be told of her in some fifty calls. */
    static String tale(LooseWater x) {
        StringBuilder b = new StringBuilder();
        for (int i = 0; i <= 10; i++) b.append(x.tells(i)).append(' ');
        for (int i = 0; i <= 6; i++) b.append(x.count(i)).append(' ');
        for (int k = 0; k <= 12; k++) b.append(x.lever(5 * k)).append(' ');
        b.append(x.up()).append(' ').append(x.turn(3)).append(' ').append(x.rest(-7)).append(' ');
        for (int p = 0; p < x.count(0); p++) {
            for (int i = 0; i <= 8; i++) b.append(x.of(p, i)).append(' ');
        }
        for (int c = 0; c < x.count(1); c++) b.append(x.slid(c)).append(' ');
        return b.toString();
    }

    static void finish() {
        System.out.println(tests + " edges, " + asked + " answers, " + wrong + " not as due");
        if (wrong != 0 || tests == 0) System.exit(1);
    }

    private static void fail(String how) {
        wrong++;
        System.out.println(now + ": " + how);
    }

    private static String flat(String text) {
        return text.replaceAll("\\s+", " ").trim();
    }

    private static String document() {
        Path path = Paths.get("../shared/DOC.md");
        try {
            return flat(new String(Files.readAllBytes(path), StandardCharsets.UTF_8));
        } catch (IOException e) {
            return "";
        }
    }

    // ---- ships

    /** TOTAL 1000, UP 500000, DRAFT 100, breadth 100, no LEVERS: a touch and she goes over. */
    static LooseWater crank() {
        LooseWater x = new LooseWater();
        x.ship(100, 1000, 500, 10);
        return x;
    }

    /** As crank, with LEVERS of step for each 5 degrees. */
    static LooseWater shaped(int step) {
        LooseWater x = crank();
        for (int k = 1; k <= 12; k++) x.form(k, step * k);
        return x;
    }

    /** LEVER 12 a degree: she comes back from everywhere. */
    static LooseWater steady() {
        return shaped(60);
    }

    /** TOTAL 1, UP 1000, no LEVERS: TURN at d is SIN of d less LEVER of d. */
    static LooseWater feather() {
        LooseWater x = new LooseWater();
        x.ship(10, 1, 1000, 1);
        return x;
    }

    /** TOTAL 1, UP 1, no LEVERS: nothing turns her at any LEAN but what is put aside. */
    static LooseWater leaf() {
        LooseWater x = new LooseWater();
        x.ship(10, 1, 1, 1);
        return x;
    }

    // ---- plans

    /** The text goes on the tape by twenties, is cut to its length, and is made a plan. */
    static int plan(LooseWater x, String text) {
        write(x, text);
        return x.plan();
    }

    static void write(LooseWater x, String text) {
        x.end(0);
        for (int i = 0; i < text.length(); i += 20) {
            int[] n = new int[5];
            for (int j = 0; j < 20; j++) {
                int c = i + j < text.length() ? text.charAt(i + j) & 255 : 7;
                n[j / 4] = n[j / 4] << 8 | c;
            }
            x.feed(n[0], n[1], n[2], n[3], n[4]);
        }
        x.end(text.length());
    }

    static String times(String s, int n) {
        StringBuilder b = new StringBuilder();
        for (int i = 0; i < n; i++) b.append(s);
        return b.toString();
    }

    static void good(String text) {
        LooseWater x = new LooseWater();
        due("plan \"" + text + "\"", plan(x, text), 0);
        due("plans", x.count(4), 1);
    }

    static void fault(String text, int place, int kind) {
        LooseWater x = new LooseWater();
        due("plan \"" + text + "\"", plan(x, text), -2 - (1 + 8 * place + kind));
        due("no plan", x.count(4), 0);
        due("the tape is empty", x.count(5), 0);
    }

    /** Whether a test holds on a ship, told by PACE (0 to begin with) behind one round. */
    static void holds(LooseWater x, String test, boolean want) {
        due("plan of " + test, plan(x, "pace 77 if " + test), 0);
        x.sets(1, 0);
        x.run(0, 1);
        due(test, x.tells(3), want ? 77 : 0);
    }

    /** What a sum is worth on a ship, told by ASIDE behind one round: held to 99999. */
    static void worth(LooseWater x, String sum, int want) {
        due("plan of " + sum, plan(x, "shift " + sum), 0);
        x.run(0, 1);
        due(sum, x.tells(2), want);
    }
}
