import java.nio.charset.StandardCharsets;
import java.nio.file.Files;
import java.nio.file.Paths;
import java.util.ArrayList;
import java.util.List;

/** The example of README.md stands here line by line, and answers as its remarks say. */
public final class ReadmeTest {
    private static int wrong = 0;

    private static void due(String what, long got, long want) {
        if (got != want) {
            wrong++;
            System.out.println(what + " answered " + got + ", README says " + want);
        }
    }

    private static void example() {
        // README from
        LooseWater x = new LooseWater();
        x.ship(100, 1000, 500, 10);                    // breadth, weight, its height, what sinks her by 1
        for (int k = 1; k <= 12; k++) x.form(k, 60 * k);
        int hold = x.place(20, 100, 100, 100, 1, 15);  // 0: the plans call it a
        x.door(hold, 1, 60, 10);
        x.image(0);
        write(x, "fill a 9 if lean < 5 and not a > 80; pump a 4 if lean >= 5");
        int plan = x.plan();                           // 0: its number
        int lean = x.run(plan, 6);                     // 5: how she leans behind six rounds
        int water = x.of(hold, 0);                     // 73
        int stiff = x.tells(6);                        // 134
        int beat = x.tells(7);                         // 69
        int walls = x.parts(hold);                     // 1: she needs no more
        write(x, "pace 100");
        int fault = x.plan();                          // -44: -2 - (1 + 8 * 5 + 1), a number not as told at byte 5
        int round = x.back(0);                         // 0: she is as she was
        // README to
        due("place", hold, 0);
        due("plan", plan, 0);
        due("run", lean, 5);
        due("of", water, 73);
        due("tells(6)", stiff, 134);
        due("tells(7)", beat, 69);
        due("parts", walls, 1);
        due("plan with a fault", fault, -44);
        due("back", round, 0);
        due("the water is as it was", x.of(hold, 0), 0);
    }

    // README from
    static void write(LooseWater x, String text) {
        x.end(0);
        for (int i = 0; i < text.length(); i += 20) {
            int[] n = new int[5];
            for (int j = 0; j < 20; j++) {
                n[j / 4] = n[j / 4] << 8 | (i + j < text.length() ? text.charAt(i + j) & 255 : ' ');
            }
            x.feed(n[0], n[1], n[2], n[3], n[4]);
        }
        x.end(text.length());
    }
    // README to

    /** The lines between two marks, each by itself, without the blanks around it. */
    private static List<String> between(String path, String from, String to) throws Exception {
        List<String> found = new ArrayList<>();
        boolean within = false;
        for (String line : Files.readAllLines(Paths.get(path), StandardCharsets.UTF_8)) {
            String text = line.trim();
            if (text.equals(to)) within = false;
            if (within) found.add(text);
            if (text.equals(from)) within = true;
        }
        return found;
    }

    public static void main(String[] args) throws Exception {
        example();
        List<String> told = between("README.md", "```java", "```");
        List<String> here = between("src/test/java/ReadmeTest.java", "// README from", "// README to");
        due("the lines of README.md are these: " + told.equals(here), told.equals(here) ? 1 : 0, 1);
        System.out.println(wrong == 0 ? "the example answers as README says" : wrong + " things are not so");
        if (wrong != 0) System.exit(1);
    }
}
