import java.io.IOException;
import java.nio.charset.StandardCharsets;
import java.nio.file.DirectoryStream;
import java.nio.file.Files;
import java.nio.file.Path;
import java.nio.file.Paths;
import java.util.ArrayList;
import java.util.Arrays;
import java.util.List;
import java.util.regex.Matcher;
import java.util.regex.Pattern;

/**
 * Each promise from 1 to 43 has a test of its edges; and what of the document's Terms and promises no
 * such test quotes is told (no failure: not every word names an edge).
 */
public final class CoverTest {
    private static final int PROMISES = 43;
    private static final Pattern TEST = Pattern.compile("Edge\\.test\\((\\d+), \"([^\"]*)\"");

    private static String read(Path path) throws IOException {
        return new String(Files.readAllBytes(path), StandardCharsets.UTF_8);
    }

    /** The document from its Terms on, without headings, signatures and frames. */
    private static String document() throws IOException {
        Path path = Paths.get("../shared/DOC.md");
        if (!Files.exists(path)) return "";
        String text = read(path);
        int from = Math.max(0, text.indexOf("## Terms"));
        int to = text.indexOf("## Not promised");
        text = text.substring(from, to < from ? text.length() : to);
        return text.replaceAll("(?m)^#.*$", " ").replaceAll("(?m)^```.*$", " ").replaceAll("(?m)^`[^`]*`:", " ")
                .replaceAll("\\s+", " ");
    }

    private static List<String> untold(String doc, List<String> quotes) {
        boolean[] told = new boolean[doc.length()];
        for (String q : quotes) {
            for (int i = doc.indexOf(q); i >= 0; i = doc.indexOf(q, i + 1)) Arrays.fill(told, i, i + q.length(), true);
        }
        List<String> rest = new ArrayList<>();
        StringBuilder run = new StringBuilder();
        for (int i = 0; i <= doc.length(); i++) {
            if (i < doc.length() && !told[i]) {
                run.append(doc.charAt(i));
            } else {
                if (run.toString().trim().length() > 8) rest.add(run.toString().trim());
                run.setLength(0);
            }
        }
        return rest;
    }

    public static void main(String[] args) throws IOException {
        int[] tests = new int[PROMISES + 1];
        List<String> quotes = new ArrayList<>();
        try (DirectoryStream<Path> files = Files.newDirectoryStream(Paths.get("src/test/java"), "Edges*.java")) {
            for (Path file : files) {
                Matcher m = TEST.matcher(read(file));
                while (m.find()) {
                    int promise = Integer.parseInt(m.group(1));
                    if (promise >= 1 && promise <= PROMISES) tests[promise]++;
                    quotes.add(m.group(2));
                }
            }
        }
        int wrong = 0;
        for (int i = 1; i <= PROMISES; i++) {
            if (tests[i] == 0) {
                wrong++;
                System.out.println("promise " + i + " has no test of its edges");
            }
        }
        for (String part : untold(document(), quotes)) System.out.println("no test quotes: " + part);
        System.out.println(quotes.size() + " sentences have a test, " + wrong + " promises have none");
        if (wrong != 0) System.exit(1);
    }
}
