import java.lang.reflect.InvocationTargetException;
import java.lang.reflect.Method;
import java.lang.reflect.Modifier;
import java.util.ArrayList;
import java.util.Comparator;
import java.util.List;
import java.util.Random;

/**
 * LANGUAGE.md, rule 7: no call may ever throw or fail to end, for any arguments in any state. Each
 * method is called with numbers far off and near each bound, on new, bare, full and lost ships; and
 * the dearest calls that there can be come to an end.
 */
public final class WildTest {
    private static final int[] NUMBERS = {Integer.MIN_VALUE, Integer.MIN_VALUE + 1, -2147483600, -1000001, -1000000,
        -100000, -99999, -256, -201, -200, -61, -60, -2, -1, 0, 1, 2, 3, 4, 5, 6, 7, 8, 9, 10, 11, 12, 13, 20, 21, 30, 31,
        32, 59, 60, 61, 63, 64, 99, 100, 255, 256, 400, 401, 999, 1000, 2000, 2001, 3000, 3001, 4095, 4096, 9999, 10000,
        65535, 65536, 99999, 100000, 0x20202020, 0x70616365, 1 << 30, Integer.MAX_VALUE - 1, Integer.MAX_VALUE};

    private static int wrong = 0;
    private static int calls = 0;

    private static List<Method> methods() {
        List<Method> all = new ArrayList<>();
        for (Method m : LooseWater.class.getDeclaredMethods()) {
            if (Modifier.isPublic(m.getModifiers())) all.add(m);
        }
        all.sort(Comparator.comparing(Method::getName));
        return all;
    }

    private static void call(LooseWater x, Method m, Object[] with) {
        calls++;
        try {
            m.invoke(x, with);
        } catch (InvocationTargetException | IllegalAccessException e) {
            wrong++;
            System.out.println(m.getName() + java.util.Arrays.toString(with) + " threw " + e.getCause());
        }
    }

    private static Object[] pick(Random r, int n) {
        Object[] with = new Object[n];
        for (int i = 0; i < n; i++) with[i] = r.nextInt(4) == 0 ? r.nextInt() : NUMBERS[r.nextInt(NUMBERS.length)];
        return with;
    }

    /** 0: new; 1: bare; 2: all there can be, upright; 3: the same, over; 4: the same, begun anew. */
    private static LooseWater ship(int state) {
        LooseWater x = new LooseWater();
        if (state == 0) return x;
        if (state == 1) {
            x.ship(10, 1, 1, 1);
            return x;
        }
        x.ship(400, 99999, 3000, 1);
        for (int k = 1; k <= 12; k++) x.form(k, 250 * k);
        for (int i = 0; i < 12; i++) {
            x.place(2000, 999, 400, 2000, 1, i % 2 == 0 ? 200 : -200);
            x.water(i, i * 7000);
            x.door(i, i % 3 - 1, 5 * i, 200);
            x.port(i, i % 3 - 1, 5 * i, 200);
        }
        for (int i = 0; i < 6; i++) {
            x.cargo(9999, 3000, 1, 200);
            x.load(9999, 3000);
        }
        String stiff = "stiff*" + Edge.times("stiff*", 23) + "stiff";
        for (int i = 0; i < 5; i++) {
            int plan = Edge.plan(x, "shift " + stiff + " if " + stiff + ">0 or lean>" + i + ";fill a " + i);
            if (plan != i) throw new IllegalStateException("no plan: " + plan);
        }
        for (int i = 0; i < 4; i++) x.image(i);
        if (state == 3) x.sets(2, -60);
        if (state == 4) x.ship(10, 1, 1, 1);
        return x;
    }

    private static void wild() {
        List<Method> all = methods();
        Random r = new Random(7);
        for (int state = 0; state <= 4; state++) {
            for (int run = 0; run < 12; run++) {
                for (Method m : all) {
                    LooseWater x = ship(state);
                    for (int i = 0; i < 40; i++) call(x, m, pick(r, m.getParameterCount()));
                    for (int i = 0; i < 20; i++) {
                        Method other = all.get(r.nextInt(all.size()));
                        call(x, other, pick(r, other.getParameterCount()));
                    }
                }
            }
        }
    }

    /** What costs most: each of these walks all that it can. */
    private static void dear() {
        LooseWater x = ship(2);
        long before = System.nanoTime();
        for (int i = 0; i < 10; i++) {
            calls += 12;
            x.best(4, 10, -1);
            x.hoses(0, 0, 20);
            x.saved(0, 0, 1, 30);
            x.ahead(0, 60, 0);
            x.guess(0, 9999, 2);
            x.order(63, 59, 5);
            x.night(99999, 5);
            x.still(0);
            x.sinks(0);
            x.parts(0);
            x.leaves(0, 0);
            x.run(0, 60);
        }
        long seconds = (System.nanoTime() - before) / 1000000000L;
        if (seconds > 60) {
            wrong++;
            System.out.println("the dearest calls took " + seconds + " seconds");
        }
    }

    public static void main(String[] args) {
        wild();
        dear();
        System.out.println(calls + " calls, " + wrong + " not as due");
        if (wrong != 0) System.exit(1);
    }
}
