import java.io.IOException;

/** Edges of what is told and of what is refused: promises 47 to 54, and what Terms say of all calls. */
public final class EdgesOfTellingTest extends Edges {
    public static void main(String[] args) throws IOException {
        begin(args);
        refusals();
        refusalsInOrder();
        refusedChangesNothing();
        findingsByName();
        fractions();
        manyCalls();
        many();
        asked();
        upperAndLower();
        count();
        finding();
        digest();
        digestOfSheets();
        digestOfTheRest();
        end(47, 54);
    }

    private static void refusals() {
        terms("public static final int BAD = -1, FULL = -2, FINDING = -3, STATE = -4, SPENT = -6, NONE = -9;");
        due(-1, BalladSheets.BAD);
        due(-2, BalladSheets.FULL);
        due(-3, BalladSheets.FINDING);
        due(-4, BalladSheets.STATE);
        due(-6, BalladSheets.SPENT);
        due(-9, BalladSheets.NONE);
    }

    private static void refusalsInOrder() {
        terms("Refused is, the first of these that fits, in this order: BAD -1 (a number that is none, or not as told), FULL -2");
        write(0, "L1");
        for (int k = 0; k < 16; k++) x.rule(0, 0);
        refuses(BAD, () -> x.rule(4, 0));
        refuses(BAD, () -> x.rule(0, 1000));
        plainSheets(20);
        refuses(BAD, () -> x.sheet(7, 0, 0, 0));
        refuses(BAD, () -> x.sheet(2, 0, 0, 6));
        for (int k = 0; k < 40; k++) x.register(0, 0, 1600);
        refuses(BAD, () -> x.register(0, 8, 1600));
        for (int k = 0; k < 30; k++) x.sung(0, 0, 0);
        refuses(BAD, () -> x.sung(0, 10, 0));

        terms("FULL -2, STATE -4 (not now)");
        write(0, "L1");
        for (int k = 0; k < 16; k++) x.rule(0, 0);
        write(0, "L");
        refuses(FULL, () -> x.rule(0, 0));
        due(0, x.findings(NOTHING));
        // Behind FULL stands a finding, too.
        refuses(FULL, () -> x.rule(1, 0));
        plainSheets(20);
        refuses(FULL, () -> x.sheet(2, 0, 0, 0));

        terms("BAD -1 (a number that is none, or not as told)");
        refuses(BAD, () -> x.can(0, 10, 0));
        refuses(BAD, () -> x.can(0, 0, 100));
        write(0, "L");
        refuses(BAD, () -> x.rule(0, -1));
        for (int s = 0; s < 13; s++) shown(NONE, 0, 0, 0);
        refuses(BAD, () -> x.standsAhead(0, 0));
        refuses(BAD, () -> x.standsAhead(13, 0));
        refuses(BAD, () -> x.family(0));
        refuses(BAD, () -> x.family(0x3fff));
        refuses(BAD, () -> x.judge(0x1fff, 6));

        terms("SPENT -6 (more than told), FINDING -3 (finding() tells which)");
        for (int s = 0; s < 11; s++) shown(NONE, 0, 0, 0);
        refuses(SPENT, () -> x.family(0x7ff));
        refuses(SPENT, () -> x.judge(0x7ff, 0));
        finds(NOTHING, () -> x.family(0x3ff));
        finds(NOTHING, () -> x.judge(0x3ff, 0));

        terms("unless a call says so otherwise");
        for (int s = 0; s < 13; s++) shown(NONE, 0, 0, 0);
        shown(NONE, 1, 0, 0);
        finds(UNLIKE, () -> x.standsAhead(0, 13));
        x.block(1, 0, 1);
        x.span(0, 1700, 1700);
        x.span(1, 1600, 1600);
        finds(NOTHING, () -> x.family(1));
        sing(0, "a");
        x.row(0, 2);
        finds(SIZE, () -> x.judge(1, 0));
        refuses(STATE, () -> x.family(1));
        x.row(0, 1);
        refuses(STATE, () -> x.judge(1, 0));
    }

    /** A desk on which something of each kind lies. */
    private static void layOut() {
        x.later(5);
        sing(0, "a b/c");
        lay(0, 1, 2);
        x.tune(0, 0);
        x.walk(0, 0);
        x.printer(0, 1600, 1700);
        shown(0, 0, 1, 1);
        shown(0, 0, 3, 1);
        half(0, 0, 4, 5);
        rule("L3R4S2D5C6", 3);
        x.register(0, 0, 1600);
        x.sung(0, 1, 2);
        x.orders(0);
        x.taken(0, 1);
        x.told(1, 4);
    }

    private static void refusedChangesNothing() {
        terms("What is refused changes nothing but finding(), findings().");
        layOut();
        refuses(BAD, () -> x.later(-1));
        finds(SIZE, () -> x.row(0, -1));
        finds(BEYOND, () -> x.lay(0, 2, 9));
        finds(BEYOND, () -> x.copy(0, 0, 0, 1, 2));
        finds(SIZE, () -> x.text(3, -1));
        finds(BEYOND, () -> x.put(3, 60, 1));
        finds(UNLIKE, () -> x.song(0, 3));
        finds(NOTHING, () -> x.tune(0, 1));
        refuses(BAD, () -> x.printer(0, 1700, 1600));
        refuses(BAD, () -> x.block(0, 6, 0));
        refuses(BAD, () -> x.type(0, 0, -1));
        refuses(BAD, () -> x.span(0, 1700, 1600));
        finds(NOTHING, () -> x.sheet(2, 0, 0, 1));
        for (int letter = 0; letter < 5; letter++) due(new int[] {3, 4, 2, 5, 6}[letter], x.force(letter, 5, 5));

        terms("What is refused changes nothing but finding(), findings().");
        layOut();
        refuses(BAD, () -> x.orders(6));
        refuses(BAD, () -> x.standsAhead(1, 1));
        finds(NOTHING, () -> x.mean(1));
        finds(NOTHING, () -> x.songTold(1, 0));
        refuses(BAD, () -> x.told(0, 9));
        finds(NOTHING, () -> x.judge(1, 4));
        refuses(BAD, () -> x.family(8));
        refuses(BAD, () -> x.taken(1, 1));
        refuses(BAD, () -> x.register(0, 0, 1499));
        finds(NOTHING, () -> x.walk(0, 1));
        refuses(BAD, () -> x.sung(0, 0, 100));
        x.put(3, 0, '?');
        refuses(STATE, () -> x.rule(3, 0));
        refuses(BAD, () -> x.rule(3, 1000));
        for (int letter = 0; letter < 5; letter++) due(new int[] {3, 4, 2, 5, 6}[letter], x.force(letter, 5, 5));
        due(1, x.many());
        due(3, x.asked());
    }

    private static void findingsByName() {
        terms("1 NOTHING (a ROW, a TEXT, a SONG that is missing)");
        due(FINDING, x.tear(0));
        due(1, x.finding());
        due(FINDING, x.fault(0));
        due(FINDING, x.tunes(0));
        due(3, x.findings(1));

        terms("2 BEYOND (a place that there is not)");
        x.row(0, 0);
        due(FINDING, x.lay(0, 0, 0));
        due(2, x.finding());
        due(1, x.findings(2));

        terms("3 UNLIKE (a SHEET of another KIND; a TEXT, a number of a ROW that is not as due)");
        plainSheets(1);
        due(FINDING, x.mark(0, 1));
        due(3, x.finding());
        x.text(0, 1);
        due(FINDING, x.song(0, 0));
        lay(0, -1);
        due(FINDING, x.tune(0, 0));
        due(FINDING, x.walk(0, 0));
        due(4, x.findings(3));

        terms("4 NOUGHT (shared among none)");
        x.row(0, 0);
        due(FINDING, x.mean(0));
        due(4, x.finding());
        due(FINDING, x.lost());
        due(2, x.findings(4));

        terms("5 SIZE (fewer than none; not as many as due)");
        due(FINDING, x.row(0, -1));
        due(5, x.finding());
        due(FINDING, x.text(0, -1));
        x.row(0, 9);
        due(FINDING, x.tune(0, 0));
        x.row(0, 0);
        due(FINDING, x.walk(0, 0));
        due(4, x.findings(5));
    }

    private static void fractions() {
        terms("in lowest terms, the lower number above 0 (0 by 1)");
        fraction(0, 1);
        x.sheet(1, 0, 0, 0);
        x.lost();
        fraction(0, 1);
        x.sheet(1, 0, 0, 0);
        x.lost();
        fraction(0, 1);
        for (int p = 1; p < 5; p++) x.sheet(1, p, 0, 0);
        x.lost();
        fraction(8, 1);
        x.sheet(1, 4, 0, 0);
        x.lost();
        fraction(9, 4);

        terms("Sets are told by bits.");
        sing(0, "a");
        lay(0, 1);
        x.tune(5, 0);
        due(1 << 5, x.tunes(0));
        for (int s = 0; s < 20; s++) shown(NONE, 0, s == 19 ? 0 : 1, 0);
        x.span(18, 1600, 1600);
        x.span(19, 1601, 1601);
        due(1 << 18, x.doubts());
        x.span(18, NONE, 0);
        due(0, x.family(1 << 19 | 1 << 18));
    }

    private static void manyCalls() {
        terms("An object is used for at most 512 calls after it has been made");
        for (int k = 1; k <= 510; k++) due(FINDING, x.tear(k % 6));
        due(510, x.findings(NOTHING));
        due(NOTHING, x.finding());

        terms("An object is used for at most 512 calls after it has been made");
        for (int k = 1; k <= 511; k++) due(k, x.later(1));
        due(511, x.count(0));
    }

    private static void many() {
        edge(47, "What the latest orders(), standsAhead(), family() that was not refused told; 0 before.");
        due(0, x.many());
        due(BAD, x.orders(6));
        due(0, x.many());
        for (int s = 0; s < 3; s++) shown(NONE, 0, 0, 0);
        x.orders(0);
        due(6, x.many());
        x.standsAhead(0, 1);
        due(3, x.many());
        due(FINDING, x.family(7));
        due(3, x.many());
        sing(0, "a");
        x.family(7);
        due(2, x.many());
        x.orders(5);
        due(1, x.many());

        edge(47, "that was not refused told");
        for (int s = 0; s < 3; s++) shown(NONE, 0, 0, 0);
        x.orders(0);
        due(BAD, x.orders(-1));
        due(BAD, x.standsAhead(0, 0));
        due(BAD, x.family(0));
        due(FINDING, x.family(7));
        for (int s = 3; s < 13; s++) shown(NONE, 0, 0, 0);
        due(SPENT, x.orders(0));
        due(SPENT, x.standsAhead(0, 1));
        due(SPENT, x.family(0x1fff));
        x.changes(0, 0);
        x.judgeOrder(0, 0);
        x.quarrel();
        due(6, x.many());
    }

    private static void asked() {
        edge(48, "What the latest lay(), mean(), songTold(), told(), judge() (NONE) that was not refused told; 0 before.");
        due(0, x.asked());
        due(FINDING, x.mean(0));
        due(0, x.asked());
        lay(0, 4, 8);
        x.lay(0, 0, 4);
        due(4, x.asked());
        x.mean(0);
        due(6, x.asked());
        sing(0, "a b c");
        x.songTold(0, 1);
        due(3, x.asked());
        x.sheet(4, NONE, 0, 0);
        x.told(0, 1);
        due(NONE, x.asked());
        lay(0, NONE);
        x.told(0, 0);
        due(4, x.asked());
        due(NONE, x.judge(1, 0));
        due(0, x.asked());

        edge(48, "judge() (NONE) that was not refused told");
        sing(0, "a");
        sing(1, "b");
        x.sheet(4, NONE, 0, 0);
        x.sheet(4, NONE, 1, 0);
        lay(0, NONE, 1);
        x.told(0, 0);
        due(1, x.judge(3, 0));
        due(4, x.asked());
        x.put(0, 0, 0);
        x.mark(0, 4);
        x.count(3);
        x.year(0, true);
        due(4, x.asked());
        lay(0, NONE, 0);
        due(NONE, x.judge(3, 0));
        due(1, x.asked());
        due(FINDING, x.judge(1, 0));
        due(1, x.asked());
    }

    private static void upperAndLower() {
        edge(49, "The upper number of the fraction that was told last; 0 before.");
        due(0, x.upper());
        due(FINDING, x.lost());
        due(BAD, x.taken(0, 1));
        due(0, x.upper());
        for (int p = 0; p < 3; p++) x.sheet(1, p, 0, 0);
        x.lost();
        due(3, x.upper());
        due(BAD, x.taken(0, 0));
        due(3, x.upper());
        x.taken(0, 1);
        due(1, x.upper());
        x.sheet(1, 3, 0, 0);
        x.lost();
        due(6, x.upper());

        edge(50, "Its lower number; 1 before.");
        due(1, x.lower());
        due(FINDING, x.lost());
        due(1, x.lower());
        x.sheet(1, 0, 0, 0);
        x.sheet(1, 0, 0, 0);
        x.sheet(1, 1, 0, 0);
        x.lost();
        due(2, x.lower());
        x.type(0, 0, 1);
        x.type(1, 0, 1);
        x.taken(0, 1);
        due(16, x.lower());
        due(BAD, x.taken(3, 1));
        due(16, x.lower());
    }

    private static void count() {
        edge(51, "0 TODAY, 1 SONGS, 2 TUNES that are there, 3 SHEETS, 4 RULES, 5 entries of THE REGISTER, 6 ROWS, 7 TEXTS that are there");
        for (int what = 0; what < 8; what++) due(0, x.count(what));
        x.later(999);
        for (int s = 0; s < 7; s++) sing(s, "a");
        lay(0, 1);
        for (int u = 0; u < 5; u++) x.tune(u, 0);
        plainSheets(20);
        write(0, "L1");
        for (int k = 0; k < 16; k++) x.rule(0, 0);
        for (int k = 0; k < 40; k++) x.register(0, 0, 1600);
        for (int r = 0; r < 6; r++) x.row(r, 0);
        int[] counts = {999, 7, 5, 20, 16, 40, 6, 2};
        for (int what = 0; what < 8; what++) due(counts[what], x.count(what));
        x.tear(3);
        x.text(1, 0);
        x.text(1, 1);
        due(5, x.count(6));
        due(3, x.count(7));

        edge(51, "BAD");
        for (int what : new int[] {-1, 8, NONE, LEAST, MOST}) refuses(BAD, () -> x.count(what));
    }

    private static void finding() {
        edge(52, "The latest FINDING (0 before any).");
        due(0, x.finding());
        due(BAD, x.row(6, 0));
        due(0, x.doubts());
        due(0, x.finding());
        x.row(0, -1);
        due(SIZE, x.finding());
        x.tear(0);
        due(NOTHING, x.finding());
        due(BAD, x.row(6, 0));
        due(1, x.row(0, 1));
        due(NOTHING, x.finding());
        x.lay(0, 1, 0);
        due(BEYOND, x.finding());
        x.lost();
        due(NOUGHT, x.finding());
        lay(0, 21);
        x.tune(0, 0);
        due(UNLIKE, x.finding());

        edge(53, "How often a FINDING (1 .. 5) was answered.");
        for (int f = 1; f <= 5; f++) due(0, x.findings(f));
        for (int k = 0; k < 3; k++) x.tear(0);
        x.row(0, 0);
        for (int k = 0; k < 2; k++) x.mean(0);
        x.walk(0, 0);
        x.row(6, 0);
        due(3, x.findings(1));
        due(0, x.findings(2));
        due(0, x.findings(3));
        due(2, x.findings(4));
        due(1, x.findings(5));

        edge(53, "BAD");
        for (int f : new int[] {0, 6, -1, NONE, LEAST, MOST}) refuses(BAD, () -> x.findings(f));
    }

    // ---- the digest, by its parts

    private static long mixed(int[]... parts) {
        long h = 17;
        for (int[] part : parts) for (int v : part) h = 31 * h + v;
        return h;
    }

    private static int[] counts() {
        int[] counts = new int[8];
        for (int what = 0; what < 8; what++) counts[what] = x.count(what);
        return counts;
    }

    private static int[] all(int n, int v) {
        int[] row = new int[n];
        for (int i = 0; i < n; i++) row[i] = v;
        return row;
    }

    private static void digest() {
        edge(54, "h = 17; then h = 31 h + v for each v: count() 0 to 7");
        due(mixed(all(8, 0), all(16, -1), all(16, NONE), all(4, -1), all(10, -1)), x.digest());
        x.later(3);
        due(mixed(new int[] {3}, all(7, 0), all(16, -1), all(16, NONE), all(4, -1), all(10, -1)), x.digest());

        edge(54, "of each SONG its size as it was told and bytes (-1 once: missing)");
        write(0, " b /a ");
        x.song(0, 0);
        x.song(9, 0);
        x.text(0, 0);
        int[] song = {6, ' ', 'b', ' ', '/', 'a', ' '};
        due(mixed(counts(), song, all(8, -1), song, all(6, -1), all(16, NONE), all(4, -1), all(6, -1), new int[] {0}, all(3, -1)), x.digest());

        edge(54, "of each TUNE its size and numbers (-1: missing)");
        lay(0, 0, 20);
        x.tune(0, 0);
        x.tune(5, 0);
        x.tear(0);
        int[] tune = {2, 0, 20};
        due(mixed(counts(), all(10, -1), tune, all(4, -1), tune, all(16, NONE), all(4, -1), all(10, -1)), x.digest());

        edge(54, "of each PRINTER from, till (NONE, NONE)");
        x.printer(0, 1500, 1899);
        x.printer(7, 1600, 1601);
        due(mixed(counts(), all(16, -1), new int[] {1500, 1899}, all(12, NONE), new int[] {1600, 1601}, all(4, -1), all(10, -1)), x.digest());
    }

    private static void digestOfSheets() {
        edge(54, "of each SHEET told() 0 to 8, of a HALF its cut's size and places");
        lay(0, LEAST, MOST);
        x.sheet(2, 7, 9, 0);
        x.block(0, 5, 4095);
        x.type(0, 65535, 65534);
        x.span(0, 1500, 1899);
        x.sheet(1, NONE, 0, 0);
        x.row(0, 0);
        x.sheet(2, NONE, 0, 0);
        x.tear(0);
        due(mixed(counts(), all(16, -1), all(16, NONE),
            new int[] {2, 7, 9, 5, 4095, 65535, 65534, 1500, 1899, 2, LEAST, MOST},
            new int[] {1, NONE, 0, NONE, 0, 0, 0, NONE, NONE},
            new int[] {2, NONE, 0, NONE, 0, 0, 0, NONE, NONE, 0},
            all(4, -1), all(10, -1)), x.digest());

        edge(54, "of each RULES the day on which they were told, from");
        write(0, "L1");
        x.rule(0, 999);
        x.later(7);
        x.rule(0, 0);
        x.text(0, 0);
        due(mixed(counts(), all(16, -1), all(16, NONE), new int[] {0, 999, 7, 0}, all(4, -1), all(6, -1), new int[] {0}, all(3, -1)), x.digest());
    }

    private static void digestOfTheRest() {
        edge(54, "of each entry of THE REGISTER its three numbers");
        x.register(9, 7, 1899);
        x.register(0, 1, 1500);
        due(mixed(counts(), all(16, -1), all(16, NONE), new int[] {9, 7, 1899, 0, 1, 1500}, all(4, -1), all(10, -1)), x.digest());

        edge(54, "of each SELLER his WALK's size (-1: none) and places");
        lay(0, 9, 0);
        x.walk(0, 0);
        x.walk(3, 0);
        x.tear(0);
        due(mixed(counts(), all(16, -1), all(16, NONE), new int[] {2, 9, 0}, all(2, -1), new int[] {2, 9, 0}, all(10, -1)), x.digest());

        edge(54, "of each SUNG one its three numbers");
        x.sung(9, 8, 99);
        x.sung(0, 1, 2);
        due(mixed(counts(), all(16, -1), all(16, NONE), all(4, -1), new int[] {9, 8, 99, 0, 1, 2}, all(10, -1)), x.digest());

        edge(54, "of each ROW its size (-1: missing) and places, of each TEXT likewise");
        lay(0, LEAST, -1);
        x.row(5, 0);
        x.text(0, 2);
        x.put(0, 1, 255);
        x.text(3, 0);
        due(mixed(counts(), all(16, -1), all(16, NONE), all(4, -1),
            new int[] {2, LEAST, -1}, all(4, -1), new int[] {0}, new int[] {2, 32, -1}, all(2, -1), new int[] {0}), x.digest());
        x.tear(5);
        due(mixed(counts(), all(16, -1), all(16, NONE), all(4, -1),
            new int[] {2, LEAST, -1}, all(5, -1), new int[] {2, 32, -1}, all(2, -1), new int[] {0}), x.digest());
        due(x.digest(), x.digest());
    }
}
