import java.lang.management.ManagementFactory;
import java.util.LinkedHashMap;
import java.util.Map;
import java.util.function.LongSupplier;

/**
 * What a run makes stays far below the room there is: 600,000 objects and arrays, 7.3 million fields and elements. An
 * object takes 16 bytes at least, a field or element one, so that bytes alone tell: a desk and 512 calls of its dearest
 * kind may take no more than a tenth of 7.3 million bytes.
 */
public final class RoomTest {
    private static final long MOST_BYTES = 730_000;
    private static final int CALLS = 512;
    private static final int BARE = 0, CALM = 1, CLASHING = 2;

    private static BalladSheets x;
    private static int wrong;

    private static long taken() {
        com.sun.management.ThreadMXBean thread = (com.sun.management.ThreadMXBean) ManagementFactory.getThreadMXBean();
        return thread.getThreadAllocatedBytes(Thread.currentThread().getId());
    }

    private static void write(int t, String s) {
        x.text(t, s.length());
        for (int i = 0; i < s.length(); i++) x.put(t, i, s.charAt(i));
    }

    /** As much as there may be, each as great as it may be; bare: no sheets and rules, clashing: spans without years. */
    private static void lay(int way) {
        x = new BalladSheets();
        for (int r = 0; r < 6; r++) x.row(r, 40);
        for (int t = 0; t < 4; t++) x.text(t, 60);
        write(0, "a/b/c/d/e/f/g/h i j k l m n o p q r s t u v w x y z a b c d ");
        write(1, "L1R2S3D4C5L1R2S3D4C5L1R2S3D4C5L1R2S3D4C5L1R2S3D4C5L1R2S3D4C5");
        for (int s = 0; s < 10; s++) x.song(s, 0);
        x.row(1, 8);
        for (int u = 0; u < 6; u++) x.tune(u, 1);
        x.row(2, 10);
        for (int seller = 0; seller < 4; seller++) x.walk(seller, 0);
        if (way == BARE) return;
        for (int k = 0; k < 16; k++) x.rule(1, 0);
        for (int s = 0; s < 20; s++) x.sheet(2, 0, 0, 0);
        for (int s = 0; s < 12; s++) x.block(s, 0, way == CALM ? 1 << s : (1 << s) - 1);
        for (int s = 0; s < 10; s++) x.span(s, 1600 - 10 * s, 1605 - 10 * s);
    }

    private static Map<String, LongSupplier> calls() {
        Map<String, LongSupplier> calls = new LinkedHashMap<>();
        calls.put("row", () -> x.row(4, 40));
        calls.put("text", () -> x.text(2, 60));
        calls.put("song", () -> x.song(0, 0));
        calls.put("tune", () -> x.tune(0, 1));
        calls.put("copy", () -> x.copy(0, 0, 0, 0, 40));
        calls.put("mean", () -> x.mean(0));
        calls.put("fit", () -> x.fit(0, 0));
        calls.put("tunes", () -> x.tunes(0));
        calls.put("rhyme", () -> x.rhyme(0, 0, 7));
        calls.put("fault", () -> x.fault(1));
        calls.put("rule", () -> x.rule(1, 0));
        calls.put("force", () -> x.force(4, 999, 999));
        calls.put("sheet", () -> x.sheet(2, 0, 0, 0));
        calls.put("mark", () -> x.mark(0, 1));
        calls.put("quarrel", () -> x.quarrel());
        calls.put("orders", () -> x.orders(0));
        calls.put("standsAhead", () -> x.standsAhead(0, 11));
        calls.put("judgeOrder", () -> x.judgeOrder(0, 0));
        calls.put("year", () -> x.year(0, true));
        calls.put("doubts", () -> x.doubts());
        calls.put("changes", () -> x.changes(0, 1));
        calls.put("family", () -> x.family(0xffc00));
        calls.put("judge", () -> x.judge(0xffc00, 2));
        calls.put("taken", () -> x.taken(0, 1));
        calls.put("register", () -> x.register(0, 0, 1600));
        calls.put("right", () -> x.right(0, 1899));
        calls.put("join", () -> x.join(0, 1));
        calls.put("walk", () -> x.walk(0, 0));
        calls.put("sung", () -> x.sung(0, 0, 0));
        calls.put("can", () -> x.can(0, 0, 99));
        calls.put("far", () -> x.far(0, 9));
        calls.put("lost", () -> x.lost());
        calls.put("digest", () -> x.digest());
        return calls;
    }

    private static void look(String name, LongSupplier call, int way) {
        lay(way);
        long before = taken();
        for (int k = 0; k < CALLS; k++) call.getAsLong();
        x = new BalladSheets();
        long bytes = taken() - before;
        if (bytes <= MOST_BYTES) return;
        wrong++;
        System.out.println("a desk and " + CALLS + " calls of " + name + " take " + bytes + " bytes");
    }

    public static void main(String[] args) {
        Map<String, LongSupplier> calls = calls();
        for (Map.Entry<String, LongSupplier> call : calls.entrySet()) {
            for (int way = BARE; way <= CLASHING; way++) look(call.getKey(), call.getValue(), way);
        }
        System.out.println(calls.size() + " kinds of calls, " + wrong + " take more room than they may");
        if (wrong != 0) System.exit(1);
    }
}
