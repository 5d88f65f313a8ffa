import java.lang.reflect.Constructor;
import java.lang.reflect.Field;
import java.lang.reflect.Method;
import java.lang.reflect.Modifier;
import java.nio.charset.StandardCharsets;
import java.nio.file.Files;
import java.nio.file.Paths;
import java.util.Arrays;
import java.util.HashSet;
import java.util.Set;
import java.util.TreeSet;
import java.util.regex.Matcher;
import java.util.regex.Pattern;

/** The public face is the document's and no more, and the source keeps to what LANGUAGE.md leaves. */
public final class FaceTest {
    private static int wrong = 0;

    private static final String FACE = "boolean ship 4;int form 2;int place 6;int water 2;int walls 2;int cargo 4;"
            + "int door 4;int port 4;int sets 2;int feed 5;int end 1;int plan 0;int run 2;int tells 1;long up 0;"
            + "long turn 1;int rest 1;int lever 1;int of 2;long flows 2;int inside 2;int outside 1;int slid 1;"
            + "int sinks 1;int parts 1;int carried 3;int order 3;int ahead 3;int saved 4;int hoses 3;int ice 2;"
            + "int load 2;int night 2;int guess 3;int best 3;int slop 1;int still 1;int floods 2;int leaves 2;"
            + "int count 1;int image 1;int back 1";

    private static void holds(String what, boolean it) {
        if (!it) {
            wrong++;
            System.out.println("not so: " + what);
        }
    }

    private static void face() {
        Set<String> due = new TreeSet<>(Arrays.asList(FACE.split(";")));
        Set<String> there = new TreeSet<>();
        Set<String> names = new HashSet<>();
        for (Method m : LooseWater.class.getDeclaredMethods()) {
            if (Modifier.isPrivate(m.getModifiers())) continue;
            there.add(m.getReturnType() + " " + m.getName() + " " + m.getParameterCount());
            names.add(m.getName());
            holds(m + " is public", Modifier.isPublic(m.getModifiers()));
            for (Class<?> p : m.getParameterTypes()) holds(m + " takes int alone", p == int.class);
        }
        holds("the methods are the document's: " + there, there.equals(due));
        for (Field f : LooseWater.class.getDeclaredFields()) {
            boolean open = !Modifier.isPrivate(f.getModifiers());
            holds(f + " is private or NONE", !open || f.getName().equals("NONE"));
            holds(f + " is no static state", !Modifier.isStatic(f.getModifiers()) || Modifier.isFinal(f.getModifiers()));
        }
        Constructor<?>[] made = LooseWater.class.getDeclaredConstructors();
        holds("one constructor", made.length == 1 && made[0].getParameterCount() == 0);
        Class<?>[] inside = LooseWater.class.getDeclaredClasses();
        holds("at most twelve classes", inside.length + 1 <= 12);
        for (Class<?> c : inside) {
            holds(c + " is static", Modifier.isStatic(c.getModifiers()));
            holds(c + " is not open", !Modifier.isPublic(c.getModifiers()) && !Modifier.isProtected(c.getModifiers()));
            for (Method m : c.getDeclaredMethods()) {
                holds(m + " bears no public name", !names.contains(m.getName()));
                holds(m + " takes seven at most", m.getParameterCount() <= 7);
            }
            int fields = 0;
            for (Field f : c.getDeclaredFields()) if (!Modifier.isStatic(f.getModifiers())) fields++;
            holds(c + " has twenty fields at most", fields <= 20);
        }
        for (Method m : LooseWater.class.getDeclaredMethods()) {
            holds(m + " bears no public name", !Modifier.isPrivate(m.getModifiers()) || !names.contains(m.getName()));
        }
    }

    private static void source() throws Exception {
        String text = new String(Files.readAllBytes(Paths.get("src/main/java/LooseWater.java")), StandardCharsets.UTF_8);
        String code = text.replaceAll("(?s)/\\*.*?\\*/", " ").replaceAll("//[^\n]*", " ")
                .replaceAll("\"[^\"]*\"", "\"\"").replaceAll("'[^']'", "' '");
        String[] words = {"throw", "throws", "try", "catch", "synchronized", "assert", "instanceof", "protected",
            "package", "System\\.out", "Exact", "Random", "Thread"};
        for (String w : words) {
            Matcher m = Pattern.compile("\\b" + w + "\\b").matcher(code);
            holds("no " + w, !m.find());
        }
        holds("no lambda", !code.contains("->") && !code.contains("::"));
        Matcher imports = Pattern.compile("import ([^;]*);").matcher(code);
        while (imports.find()) holds("import " + imports.group(1), imports.group(1).equals("java.util.Arrays"));
        for (char c : text.toCharArray()) holds("a sign below 128", c < 128);
    }

    public static void main(String[] args) throws Exception {
        face();
        source();
        System.out.println(wrong == 0 ? "the face is the document's" : wrong + " things are not so");
        if (wrong != 0) System.exit(1);
    }
}
