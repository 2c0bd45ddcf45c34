import java.io.IOException;
import java.nio.file.Files;
import java.nio.file.Path;
import java.util.Arrays;
import java.util.Set;
import java.util.TreeMap;
import java.util.TreeSet;
import java.util.function.LongSupplier;
import java.util.regex.Matcher;
import java.util.regex.Pattern;

/**
 * What the tests of edges share. Each edge opens with the words of the document that name it, which must
 * stand there, and a new desk; each call that is refused must change nothing but the findings.
 */
abstract class Edges {
    protected static final int BAD = -1, FULL = -2, FINDING = -3, STATE = -4, SPENT = -6, NONE = -9;
    protected static final int NOTHING = 1, BEYOND = 2, UNLIKE = 3, NOUGHT = 4, SIZE = 5;
    protected static final int LEAST = Integer.MIN_VALUE, MOST = Integer.MAX_VALUE;

    private static final int TERMS = 0, PROMISES = 54;
    private static final String[] FINDINGS = {"", "NOTHING", "BEYOND", "UNLIKE", "NOUGHT", "SIZE"};
    private static final Pattern REFUSALS = Pattern.compile("\\b(BAD|FULL|STATE|SPENT|NOTHING|BEYOND|UNLIKE|NOUGHT|SIZE)\\b");

    /** The desk of the edge that is looked at. */
    protected static BalladSheets x;

    private static final String[] texts = new String[PROMISES + 1];
    private static final TreeMap<Integer, Set<String>> refusedBy = new TreeMap<>();
    private static final Set<String> edges = new TreeSet<>();
    private static int promise;
    private static String words = "";
    private static int asked;
    private static int wrong;

    /** Reads the document, which lies beside the project whose path is told. */
    protected static void begin(String[] args) throws IOException {
        String doc = Files.readString(Path.of(args.length > 0 ? args[0] : ".").resolve("../shared/DOC.md"));
        int end = doc.indexOf("## Not promised");
        for (int p = PROMISES; p > 0; p--) {
            int from = doc.indexOf("## Promise " + p + ":");
            texts[p] = plain(doc.substring(from, end));
            end = from;
        }
        texts[TERMS] = plain(doc.substring(doc.indexOf("## What it is"), end));
    }

    private static String plain(String text) {
        return text.replaceAll("\\s+", " ");
    }

    /** An edge that stands ahead of the promises. */
    protected static void terms(String quoted) {
        edge(TERMS, quoted);
    }

    /** An edge of a promise. */
    protected static void edge(int of, String quoted) {
        promise = of;
        words = quoted;
        x = new BalladSheets();
        refusedBy.computeIfAbsent(of, p -> new TreeSet<>());
        edges.add(of + " " + quoted);
        if (!texts[of].contains(quoted)) fail("the document does not say so");
    }

    /** Each promise of a range has an edge, and each refusal that its text names was met. */
    protected static void end(int first, int last) {
        words = "";
        for (promise = first; promise <= last; promise++) {
            Set<String> met = refusedBy.get(promise);
            if (met == null) {
                fail("no edge");
                continue;
            }
            Matcher named = REFUSALS.matcher(texts[promise]);
            while (named.find()) if (!met.contains(named.group())) fail("never refused: " + named.group());
        }
        System.out.println(edges.size() + " edges, " + asked + " answers, " + wrong + " are not as due");
        if (wrong != 0) System.exit(1);
    }

    private static void fail(String what) {
        wrong++;
        StackTraceElement at = null;
        for (StackTraceElement call : new Throwable().getStackTrace()) {
            if (at == null && !call.getClassName().equals("Edges")) at = call;
        }
        String line = at == null ? "" : ", line " + at.getLineNumber();
        System.out.println((promise == TERMS ? "Terms" : "Promise " + promise) + ", \"" + words + "\"" + line + ": " + what);
    }

    protected static void due(long want, long got) {
        asked++;
        if (want != got) fail("answered " + got + ", due is " + want);
    }

    /** What a call tells behind its answer. */
    protected static void tells(long want, LongSupplier told, long answerDue, long answer) {
        due(answerDue, answer);
        due(want, told.getAsLong());
    }

    protected static void asks(int want, long answer) {
        tells(want, x::asked, 1, answer);
    }

    protected static void fraction(long upper, long lower) {
        due(upper, x.upper());
        due(lower, x.lower());
    }

    /** BAD, FULL, STATE or SPENT, by which nothing at all is changed. */
    protected static void refuses(int refusal, LongSupplier call) {
        String name = refusal == FULL ? "FULL" : refusal == STATE ? "STATE" : refusal == SPENT ? "SPENT" : "BAD";
        refusedBy.get(promise).add(name);
        long[] before = state();
        long[] found = findings();
        due(refusal, call.getAsLong());
        unchanged(before);
        if (!Arrays.equals(found, findings())) fail("a finding was told without one");
    }

    /** A finding, which is told and counted, and by which nothing else is changed. */
    protected static void finds(int finding, LongSupplier call) {
        refusedBy.get(promise).add(FINDINGS[finding]);
        long[] before = state();
        long[] found = findings();
        due(FINDING, call.getAsLong());
        unchanged(before);
        found[0] = finding;
        found[finding]++;
        if (!Arrays.equals(found, findings())) fail("finding() and findings() are not as due");
    }

    private static long[] state() {
        return new long[] {x.digest(), x.many(), x.asked(), x.upper(), x.lower()};
    }

    private static long[] findings() {
        return new long[] {x.finding(), x.findings(1), x.findings(2), x.findings(3), x.findings(4), x.findings(5)};
    }

    private static void unchanged(long[] before) {
        if (!Arrays.equals(before, state())) fail("was refused, but changed something");
    }

    // ---- what edges are laid out with

    protected static void write(int t, String s) {
        x.text(t, s.length());
        for (int i = 0; i < s.length(); i++) if (s.charAt(i) != ' ') x.put(t, i, s.charAt(i));
    }

    protected static int sing(int s, String song) {
        write(3, song);
        return x.song(s, 3);
    }

    protected static void lay(int r, int... values) {
        x.row(r, values.length);
        for (int i = 0; i < values.length; i++) x.lay(r, i, values[i]);
    }

    protected static int rule(String text, int from) {
        write(3, text);
        return x.rule(3, from);
    }

    protected static int half(int printer, int song, int... cut) {
        lay(5, cut);
        return x.sheet(2, printer, song, 5);
    }

    /** A plain sheet with all by which one is ahead of another one. */
    protected static int shown(int printer, int block, int cracks, int broken) {
        int s = x.sheet(0, printer, 0, 0);
        x.block(s, block, cracks);
        x.type(s, broken, 0);
        return s;
    }

    protected static void plainSheets(int n) {
        for (int k = 0; k < n; k++) x.sheet(0, NONE, 0, 0);
    }
}
