import java.lang.reflect.Method;
import java.lang.reflect.Modifier;
import java.util.ArrayList;
import java.util.Comparator;
import java.util.List;
import java.util.Random;

/** Any numbers, in any state: no call may throw, and one that was refused changes nothing. */
public final class WildTest {
    private static final int[] EDGES = {
        Integer.MIN_VALUE, Integer.MIN_VALUE + 1, -1000, -100, -9, -2, -1, 0, 1, 2, 3, 4, 5, 6, 7, 8, 9, 10, 15, 16, 19, 20,
        21, 39, 40, 41, 59, 60, 61, 99, 100, 999, 1000, 1499, 1500, 1600, 1899, 1900, 1999, 2000, 4095, 4096, 65535, 65536,
        0xfffff, 0x100000, Integer.MAX_VALUE - 1, Integer.MAX_VALUE};

    private static List<Method> face() {
        List<Method> all = new ArrayList<>();
        for (Method m : BalladSheets.class.getDeclaredMethods()) if (Modifier.isPublic(m.getModifiers())) all.add(m);
        all.sort(Comparator.comparing(Method::getName));
        return all;
    }

    private static Object[] numbers(Method m, Random random, boolean wild) {
        Object[] a = new Object[m.getParameterCount()];
        for (int k = 0; k < a.length; k++) {
            if (m.getParameterTypes()[k] == boolean.class) a[k] = random.nextBoolean();
            else if (wild) a[k] = random.nextInt(8) == 0 ? random.nextInt() : EDGES[random.nextInt(EDGES.length)];
            else a[k] = sensible(m.getName(), k, random);
        }
        return a;
    }

    /** Numbers that are often taken, so that the wild ones come to a desk on which something lies. */
    private static int sensible(String name, int k, Random random) {
        if (name.equals("put") && k == 2) return random.nextInt(4) == 0 ? " /L1"  .charAt(random.nextInt(4)) : 'a' + random.nextInt(26);
        if (name.equals("later")) return random.nextInt(9);
        if ((name.equals("span") || name.equals("printer")) && k > 0) return 1590 + 20 * k + random.nextInt(40);
        if ((name.equals("register") && k == 2) || (name.equals("right") && k == 1)) return 1600 + random.nextInt(50);
        if ((name.equals("family") || name.equals("judge")) && k == 0) return random.nextInt(64);
        if ((name.equals("block") || name.equals("type")) && k > 0) return random.nextInt(6);
        return random.nextInt(5);
    }

    private static long told(BalladSheets x) {
        long h = x.digest();
        for (long v : new long[] {x.many(), x.asked(), x.upper(), x.lower()}) h = 1000003 * h + v;
        return h;
    }

    private static boolean refused(String name, long answer) {
        if (name.equals("ahead")) return true;
        if (name.equals("many") || name.equals("asked") || name.equals("upper") || name.equals("digest")) return true;
        return answer == -1 || answer == -2 || answer == -3 || answer == -4 || answer == -6;
    }

    public static void main(String[] args) throws Exception {
        List<Method> face = face();
        int wrong = 0;
        long calls = 0;
        for (int run = 0; run < 400 && wrong < 20; run++) {
            Random random = new Random(run);
            BalladSheets x = new BalladSheets();
            for (int call = 0; call < 512; call++) {
                Method m = face.get(random.nextInt(face.size()));
                Object[] a = numbers(m, random, random.nextInt(3) == 0);
                calls++;
                try {
                    long before = told(x);
                    long answer = ((Number) m.invoke(x, a)).longValue();
                    if (!refused(m.getName(), answer) || told(x) == before) continue;
                    System.out.println("run " + run + ": " + m.getName() + java.util.Arrays.toString(a) + " was refused, but changed something");
                } catch (java.lang.reflect.InvocationTargetException e) {
                    System.out.println("run " + run + ": " + m.getName() + java.util.Arrays.toString(a) + " threw " + e.getCause());
                }
                wrong++;
            }
        }
        System.out.println(calls + " wild calls, " + wrong + " threw or changed what they may not");
        if (wrong != 0) System.exit(1);
    }
}
