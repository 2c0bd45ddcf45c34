/** Each promise by hand: ordinary inputs, the edges that the document names, wrong inputs. */
public final class PromisesTest {
    private static final int BAD = -1, FULL = -2, FINDING = -3, STATE = -4, SPENT = -6, NONE = -9;
    private static final int NOTHING = 1, BEYOND = 2, UNLIKE = 3, NOUGHT = 4, SIZE = 5;
    private static final int LEAST = Integer.MIN_VALUE, MOST = Integer.MAX_VALUE;

    private static int promise;
    private static int asked;
    private static int wrong;

    private static BalladSheets x;

    private static void promise(int number) {
        promise = number;
        x = new BalladSheets();
    }

    private static void due(long want, long got) {
        asked++;
        if (want == got) return;
        wrong++;
        StackTraceElement[] calls = new Throwable().getStackTrace();
        String by = calls[1].getMethodName();
        StackTraceElement at = by.equals("finds") || by.equals("fraction") ? calls[2] : calls[1];
        System.out.println("promise " + promise + ", line " + at.getLineNumber() + ": answered " + got + ", due is " + want);
    }

    /** A call that was just made answered that finding. */
    private static void finds(int finding, long got) {
        due(FINDING, got);
        due(finding, x.finding());
    }

    private static void write(int t, String s) {
        x.text(t, s.length());
        for (int i = 0; i < s.length(); i++) x.put(t, i, s.charAt(i));
    }

    private static int sing(int s, String words) {
        write(3, words);
        return x.song(s, 3);
    }

    private static void lay(int r, int... values) {
        x.row(r, values.length);
        for (int i = 0; i < values.length; i++) x.lay(r, i, values[i]);
    }

    private static int rule(String text, int from) {
        write(3, text);
        return x.rule(3, from);
    }

    private static int half(int printer, int song, int... cut) {
        lay(5, cut);
        return x.sheet(2, printer, song, 5);
    }

    private static int fault(String text) {
        write(3, text);
        return x.fault(3);
    }

    private static void fraction(long upper, long lower) {
        due(upper, x.upper());
        due(lower, x.lower());
    }

    public static void main(String[] args) {
        rows();
        texts();
        songs();
        tunes();
        rules();
        sheets();
        marks();
        orders();
        years();
        families();
        rights();
        sellers();
        told();
        digest();
        System.out.println(asked + " answers by promises, " + wrong + " are not as due");
        if (wrong != 0) System.exit(1);
    }

    private static void rows() {
        promise(1);
        for (int what = 0; what < 8; what++) due(0, x.count(what));
        due(0, x.finding());
        for (int f = 1; f <= 5; f++) due(0, x.findings(f));
        due(0, x.many());
        due(0, x.asked());
        fraction(0, 1);
        for (int r = 0; r < 6; r++) finds(NOTHING, x.tear(r));
        for (int t = 0; t < 4; t++) finds(NOTHING, x.fault(t));
        for (int s = 0; s < 10; s++) finds(NOTHING, x.tunes(s));

        promise(2);
        due(40, x.row(5, 40));
        due(0, x.row(0, 0));
        due(2, x.row(1, 2));
        x.lay(1, 0, 7);
        due(2, x.row(1, 2));
        x.lay(1, 0, 1);
        due(0, x.asked());
        due(BAD, x.row(6, 1));
        due(BAD, x.row(-1, 1));
        due(BAD, x.row(6, -1));
        due(BAD, x.row(1, 41));
        due(BAD, x.row(1, MOST));
        finds(SIZE, x.row(1, -1));
        finds(SIZE, x.row(1, LEAST));
        due(1, x.lay(1, 1, 3));
        due(3, x.count(6));

        promise(3);
        x.row(2, 3);
        due(1, x.lay(2, 2, LEAST));
        due(0, x.asked());
        due(1, x.lay(2, 2, 5));
        due(LEAST, x.asked());
        due(BAD, x.lay(6, 0, 1));
        due(BAD, x.lay(NONE, 0, 1));
        finds(NOTHING, x.lay(1, 0, 1));
        finds(BEYOND, x.lay(2, 3, 1));
        finds(BEYOND, x.lay(2, -1, 1));
        due(LEAST, x.asked());

        promise(4);
        x.row(3, 1);
        due(1, x.tear(3));
        finds(NOTHING, x.tear(3));
        finds(NOTHING, x.lay(3, 0, 0));
        due(BAD, x.tear(-1));
        due(BAD, x.tear(6));
        due(0, x.count(6));

        promise(5);
        lay(0, 1, 2, 3, 4);
        due(1, x.copy(0, 0, 0, 1, 3));
        int[] up = {1, 1, 2, 3};
        for (int i = 0; i < 4; i++) {
            x.lay(0, i, i + 1);
            due(up[i], x.asked());
        }
        due(1, x.copy(0, 1, 0, 0, 3));
        int[] down = {2, 3, 4, 4};
        for (int i = 0; i < 4; i++) {
            x.lay(0, i, 0);
            due(down[i], x.asked());
        }
        lay(1, 9, 8);
        due(1, x.copy(1, 0, 0, 2, 2));
        x.lay(0, 2, 0);
        due(9, x.asked());
        x.lay(0, 3, 0);
        due(8, x.asked());
        due(1, x.copy(0, 4, 1, 2, 0));
        due(BAD, x.copy(6, 0, 0, 0, -1));
        due(BAD, x.copy(0, 0, -1, 0, -1));
        finds(SIZE, x.copy(2, 0, 2, 0, -1));
        finds(NOTHING, x.copy(2, 0, 0, 0, 99));
        finds(NOTHING, x.copy(0, 0, 2, 0, 99));
        finds(BEYOND, x.copy(0, 1, 0, 0, 4));
        finds(BEYOND, x.copy(0, 0, 1, 0, 3));
        finds(BEYOND, x.copy(0, -1, 0, 0, 1));
        finds(BEYOND, x.copy(0, 0, 0, -1, 1));
        finds(BEYOND, x.copy(0, 5, 0, 0, 0));
        finds(BEYOND, x.copy(0, 0, 1, 3, 0));
        finds(BEYOND, x.copy(0, MOST, 0, 0, MOST));
        finds(BEYOND, x.copy(0, 1, 0, 1, MOST));

        promise(6);
        lay(0, MOST, MOST, MOST - 3);
        due(1, x.mean(0));
        due(MOST - 1, x.asked());
        lay(0, -1, -2, -2);
        due(1, x.mean(0));
        due(-1, x.asked());
        lay(0, 1, 2, 2);
        due(1, x.mean(0));
        due(1, x.asked());
        x.row(1, 0);
        finds(NOUGHT, x.mean(1));
        finds(NOTHING, x.mean(2));
        due(BAD, x.mean(6));
        due(BAD, x.mean(-1));
        due(1, x.asked());
    }

    private static void texts() {
        promise(7);
        due(60, x.text(3, 60));
        due(1032, x.put(3, 59, 65));
        due(60, x.text(3, 60));
        due(1032, x.put(3, 59, 65));
        due(0, x.text(0, 0));
        due(BAD, x.text(4, 1));
        due(BAD, x.text(-1, -1));
        due(BAD, x.text(0, 61));
        finds(SIZE, x.text(0, -1));
        due(2, x.count(7));

        promise(8);
        x.text(1, 2);
        due(1032, x.put(1, 1, 200));
        due(1000 + 200 - 256, x.put(1, 1, 256 + 7));
        due(1007, x.put(1, 1, -1));
        due(999, x.put(1, 1, LEAST));
        due(1000, x.put(1, 1, 128));
        due(872, x.put(1, 1, 0));
        due(BAD, x.put(4, 0, 0));
        due(BAD, x.put(-1, 0, 0));
        finds(NOTHING, x.put(0, 0, 0));
        finds(BEYOND, x.put(1, 2, 0));
        finds(BEYOND, x.put(1, -1, 0));

        promise(9);
        due(0, x.later(0));
        due(7, x.later(7));
        due(BAD, x.later(-1));
        due(BAD, x.later(993));
        due(BAD, x.later(MOST));
        due(999, x.later(992));
        due(BAD, x.later(1));
        due(999, x.later(0));
        due(999, x.count(0));
    }

    private static void songs() {
        promise(10);
        due(1, sing(0, "a"));
        due(2, sing(0, "  a  b / c "));
        due(8, sing(9, "a/b/c/d/e/f/g/h"));
        finds(UNLIKE, sing(9, "a/b/c/d/e/f/g/h/i"));
        finds(UNLIKE, sing(9, ""));
        finds(UNLIKE, sing(9, "   "));
        finds(UNLIKE, sing(9, "a/ /b"));
        finds(UNLIKE, sing(9, "/a"));
        finds(UNLIKE, sing(9, "a/"));
        for (String bad : new String[] {"A", "a`b", "a{", "a.", "a0", "a-b", "a\u00e9"}) finds(UNLIKE, sing(9, bad));
        due(2, x.count(1));
        x.songTold(9, 0);
        due(8, x.asked());
        due(BAD, x.song(10, 3));
        due(BAD, x.song(-1, 3));
        due(BAD, x.song(0, 4));
        due(BAD, x.song(0, -1));
        finds(NOTHING, x.song(0, 1));
        write(1, "one");
        x.song(1, 1);
        x.put(1, 0, 'A');
        x.text(1, 9);
        x.songTold(1, 2);
        due(3, x.asked());

        promise(11);
        sing(2, " the  ship/sails  ");
        due(1, x.songTold(2, 0));
        due(2, x.asked());
        due(1, x.songTold(2, 1));
        due(3, x.asked());
        due(1, x.songTold(2, 2));
        due(12, x.asked());
        due(BAD, x.songTold(2, 3));
        due(BAD, x.songTold(2, -1));
        due(BAD, x.songTold(10, 0));
        finds(NOTHING, x.songTold(3, 0));
        due(12, x.asked());

        promise(12);
        sing(0, "beauty i a e/rhythm/brr st/queue o");
        due(5, x.measure(0, 0));
        due(1, x.measure(0, 1));
        due(0, x.measure(0, 2));
        due(2, x.measure(0, 3));
        sing(1, "aeiouy xaxexixoxuxyx");
        due(7, x.measure(1, 0));
        finds(BEYOND, x.measure(0, 4));
        finds(BEYOND, x.measure(0, -1));
        finds(NOTHING, x.measure(2, 0));
        due(BAD, x.measure(10, 0));
        due(BAD, x.measure(-1, 0));

        promise(13);
        sing(0, "the sea /free tea/o/so/to o /ea/go");
        due(1, x.rhyme(0, 0, 1));
        due(1, x.rhyme(0, 1, 0));
        due(0, x.rhyme(0, 2, 3));
        due(0, x.rhyme(0, 3, 2));
        due(1, x.rhyme(0, 2, 4));
        due(1, x.rhyme(0, 0, 5));
        due(0, x.rhyme(0, 3, 6));
        due(1, x.rhyme(0, 3, 3));
        sing(1, "ab/cb/ac");
        due(0, x.rhyme(1, 0, 1));
        due(0, x.rhyme(1, 0, 2));
        finds(BEYOND, x.rhyme(0, 7, 0));
        finds(BEYOND, x.rhyme(0, 0, 7));
        finds(BEYOND, x.rhyme(0, -1, 0));
        finds(BEYOND, x.rhyme(0, 0, -1));
        finds(NOTHING, x.rhyme(2, 0, 0));
        due(BAD, x.rhyme(10, 0, 0));
    }

    private static void tunes() {
        promise(14);
        lay(0, 0, 20);
        due(2, x.tune(5, 0));
        lay(0, 1, 2, 3, 4, 5, 6, 7, 8);
        due(8, x.tune(0, 0));
        lay(0, 1, 2, 3, 4, 5, 6, 7, 8, 99);
        finds(SIZE, x.tune(0, 0));
        x.row(0, 0);
        finds(SIZE, x.tune(0, 0));
        lay(0, 1, 21);
        finds(UNLIKE, x.tune(0, 0));
        lay(0, -1, 1);
        finds(UNLIKE, x.tune(0, 0));
        finds(NOTHING, x.tune(0, 1));
        due(BAD, x.tune(6, 0));
        due(BAD, x.tune(-1, 0));
        due(BAD, x.tune(0, 6));
        due(2, x.count(2));

        promise(15);
        sing(0, "a a a/b b/o o o o");
        lay(0, 3, 1);
        x.tune(0, 0);
        x.lay(0, 0, 20);
        due(NONE, x.fit(0, 0));
        lay(0, 5);
        x.tune(0, 0);
        due(0, x.fit(0, 0));
        lay(0, 3, 2);
        x.tune(0, 0);
        due(1, x.fit(0, 0));
        lay(0, 2, 0, 6);
        x.tune(0, 0);
        due(2, x.fit(0, 0));
        rule("L2", 5);
        due(2, x.fit(0, 0));
        x.later(5);
        due(NONE, x.fit(0, 0));
        rule("L0", 5);
        due(0, x.fit(0, 0));
        finds(NOTHING, x.fit(1, 0));
        finds(NOTHING, x.fit(0, 1));
        due(BAD, x.fit(10, 0));
        due(BAD, x.fit(0, 6));
        due(BAD, x.fit(-1, -1));

        promise(16);
        sing(0, "a a/b");
        due(0, x.tunes(0));
        lay(0, 2, 0);
        x.tune(1, 0);
        lay(0, 1);
        x.tune(5, 0);
        lay(0, 4);
        x.tune(2, 0);
        due(2 + 32, x.tunes(0));
        rule("L0", 0);
        due(2, x.tunes(0));
        lay(0, 2, 0);
        x.tune(0, 0);
        due(1 + 2, x.tunes(0));
        finds(NOTHING, x.tunes(1));
        due(BAD, x.tunes(10));
        due(BAD, x.tunes(-1));
    }

    private static void rules() {
        promise(17);
        due(NONE, fault("L1"));
        due(NONE, fault("  L1R22  S333D4C005 "));
        due(NONE, fault(""));
        due(NONE, fault("   "));
        due(0, fault("1"));
        due(0, fault("x1"));
        due(0, fault("l1"));
        due(1, fault("L"));
        due(1, fault("L 1"));
        due(1, fault("LR1"));
        due(4, fault("L1234"));
        due(3, fault("L1 2"));
        due(4, fault("L1 R"));
        due(4, fault("L123x"));
        due(2, fault("L1/"));
        due(4, fault(" L1 A1"));
        finds(NOTHING, x.fault(0));
        due(BAD, x.fault(4));
        due(BAD, x.fault(-1));

        promise(18);
        due(0, rule("L1", 0));
        due(STATE, rule("L", 0));
        finds(NOTHING, x.rule(0, 0));
        due(BAD, x.rule(4, 0));
        due(BAD, x.rule(3, -1));
        due(BAD, x.rule(3, 1000));
        due(1, rule("", 999));
        for (int k = 2; k < 16; k++) due(k, rule("R1", k));
        due(FULL, rule("R1", 0));
        due(FULL, x.rule(0, 0));
        due(BAD, x.rule(0, 1000));
        due(16, x.count(4));

        promise(19);
        int[] first = {1, 21, 3, 2, 1};
        for (int what = 0; what < 5; what++) due(first[what], x.force(what, 0, 999));
        x.later(10);
        due(0, rule("L5 L6 R7", 20));
        due(1, x.force(0, 19, 999));
        due(1, x.force(0, 20, 9));
        due(6, x.force(0, 20, 10));
        due(7, x.force(1, 999, 999));
        x.later(10);
        due(1, rule("L8", 15));
        due(6, x.force(0, 20, 20));
        due(8, x.force(0, 19, 20));
        due(1, x.force(0, 19, 19));
        due(2, rule("S0 L009", 20));
        due(9, x.force(0, 20, 20));
        due(0, x.force(2, 20, 20));
        due(6, x.force(0, 20, 19));
        due(7, x.force(1, 20, 20));
        due(3, rule("D999C998", 0));
        due(999, x.force(3, 0, 20));
        due(998, x.force(4, 0, 20));
        due(BAD, x.force(5, 0, 0));
        due(BAD, x.force(-1, 0, 0));
        due(BAD, x.force(0, -1, 0));
        due(BAD, x.force(0, 1000, 0));
        due(BAD, x.force(0, 0, -1));
        due(BAD, x.force(0, 0, 1000));

        promise(19);
        rule("R5", 0);
        due(1, x.force(0, 0, 0));
        rule("L5", 0);
        due(2, x.force(3, 0, 0));
        due(5, x.force(0, 0, 0));

        promise(20);
        due(NONE, x.why(0, 999, 999));
        x.later(10);
        rule("L5 L6 R7", 20);
        x.later(10);
        rule("L8", 15);
        rule("S0 L009", 20);
        due(NONE, x.why(0, 14, 999));
        due(1, x.why(0, 19, 20));
        due(2, x.why(0, 20, 20));
        due(0, x.why(0, 20, 19));
        due(0, x.why(1, 20, 20));
        due(2, x.why(2, 20, 20));
        due(NONE, x.why(3, 20, 20));
        due(BAD, x.why(5, 0, 0));
        due(BAD, x.why(-1, 0, 0));
        due(BAD, x.why(0, -1, 0));
        due(BAD, x.why(0, 1000, 0));
        due(BAD, x.why(0, 0, -1));
        due(BAD, x.why(0, 0, 1000));
    }

    private static void sheets() {
        promise(21);
        due(1, x.printer(0, 1500, 1500));
        due(1, x.printer(7, 1899, 1899));
        due(BAD, x.printer(8, 1600, 1600));
        due(BAD, x.printer(-1, 1600, 1600));
        due(BAD, x.printer(NONE, 1600, 1600));
        due(BAD, x.printer(0, 1499, 1600));
        due(BAD, x.printer(0, 1600, 1900));
        due(BAD, x.printer(0, 1601, 1600));
        x.sheet(0, 7, 0, 0);
        due(1899, x.year(0, false));

        promise(22);
        due(BAD, x.sheet(-1, 0, 0, 0));
        due(BAD, x.sheet(7, 0, 0, 0));
        due(BAD, x.sheet(0, 8, 0, 0));
        due(BAD, x.sheet(0, -1, 0, 0));
        due(BAD, x.sheet(0, 0, 10, 0));
        due(BAD, x.sheet(0, 0, -1, 0));
        due(BAD, x.sheet(2, 0, 0, 6));
        due(BAD, x.sheet(2, 0, 0, -1));
        finds(NOTHING, x.sheet(2, 0, 0, 0));
        for (int kind = 0; kind < 7; kind++) if (kind != 2) due(x.count(3), x.sheet(kind, NONE, 9, LEAST));
        x.row(0, 0);
        due(6, x.sheet(2, 7, 0, 0));
        lay(0, 4, 5);
        due(7, x.sheet(2, 7, 0, 0));
        x.row(0, 9);
        due(2, x.mark(7, 2));
        due(0, x.mark(6, 2));
        for (int s = 8; s < 20; s++) due(s, x.sheet(0, 0, 0, 0));
        due(FULL, x.sheet(0, 0, 0, 0));
        due(FULL, x.sheet(2, 0, 0, 1));
        due(BAD, x.sheet(2, 0, 0, 6));

        promise(23);
        due(BAD, x.block(0, 0, 0));
        x.sheet(0, NONE, 0, 0);
        due(1, x.block(0, 5, 4095));
        x.told(0, 3);
        due(5, x.asked());
        x.told(0, 4);
        due(4095, x.asked());
        due(BAD, x.block(0, 6, 0));
        due(BAD, x.block(0, -1, 0));
        due(BAD, x.block(0, 0, 4096));
        due(BAD, x.block(0, 0, -1));
        due(BAD, x.block(1, 0, 0));
        due(BAD, x.block(-1, 0, 0));
        due(1, x.block(0, NONE, 7));
        x.told(0, 3);
        due(NONE, x.asked());

        promise(24);
        due(BAD, x.type(0, 0, 0));
        x.sheet(0, NONE, 0, 0);
        due(1, x.type(0, 65535, 1));
        due(1, x.type(0, 2, 65535));
        x.told(0, 5);
        due(2, x.asked());
        x.told(0, 6);
        due(65535, x.asked());
        due(BAD, x.type(0, 65536, 0));
        due(BAD, x.type(0, 0, 65536));
        due(BAD, x.type(0, -1, 0));
        due(BAD, x.type(0, 0, -1));
        due(BAD, x.type(-1, 0, 0));

        promise(25);
        due(BAD, x.span(0, 1600, 1600));
        due(BAD, x.span(0, NONE, 0));
        x.sheet(0, NONE, 0, 0);
        due(1, x.span(0, 1500, 1899));
        due(1, x.span(0, 1600, 1600));
        due(BAD, x.span(0, 1499, 1600));
        due(BAD, x.span(0, 1600, 1900));
        due(BAD, x.span(0, 1600, 1599));
        due(BAD, x.span(0, -1, 1600));
        due(BAD, x.span(1, 1600, 1600));
        due(1600, x.year(0, true));
        due(1, x.span(0, NONE, LEAST));
        due(1999, x.year(0, true));

        promise(26);
        due(BAD, x.told(0, 0));
        x.sheet(3, 4, 5, 0);
        int[] bare = {3, 4, 5, NONE, 0, 0, 0, NONE, NONE};
        for (int what = 0; what < 9; what++) {
            due(1, x.told(0, what));
            due(bare[what], x.asked());
        }
        x.block(0, 1, 2);
        x.type(0, 3, 6);
        x.span(0, 1700, 1800);
        int[] full = {3, 4, 5, 1, 2, 3, 6, 1700, 1800};
        for (int what = 0; what < 9; what++) {
            due(1, x.told(0, what));
            due(full[what], x.asked());
        }
        due(BAD, x.told(0, 9));
        due(BAD, x.told(0, -1));
        due(BAD, x.told(-1, 0));
        due(1800, x.asked());
        x.span(0, NONE, 1800);
        x.told(0, 8);
        due(NONE, x.asked());
    }

    private static void marks() {
        promise(27);
        due(BAD, x.mark(0, 1));
        x.sheet(0, 1, 1, 0);
        x.sheet(1, 1, 1, 0);
        half(1, 1, 5, 5, 5);
        x.sheet(1, 2, 1, 0);
        x.sheet(1, 1, 2, 0);
        x.sheet(1, NONE, 1, 0);
        x.sheet(1, NONE, 1, 0);
        due(2, x.mark(1, 1));
        due(2, x.mark(2, 1));
        due(1, x.mark(3, 1));
        due(2, x.mark(5, 1));
        due(3, x.mark(2, 2));
        finds(UNLIKE, x.mark(1, 2));
        finds(UNLIKE, x.mark(0, 1));
        due(BAD, x.mark(0, 0));
        due(BAD, x.mark(1, 0));
        due(BAD, x.mark(1, 7));
        due(BAD, x.mark(1, -1));
        due(BAD, x.mark(7, 1));
        due(BAD, x.mark(-1, 1));
        due(7, x.sheet(3, NONE, 0, 0));
        x.type(7, 0, 31);
        x.type(0, 0, 7);
        x.type(1, 0, 3);
        x.type(2, 0, 31);
        due(2, x.mark(7, 3));
        rule("S2", 0);
        due(3, x.mark(7, 3));
        rule("S6", 0);
        due(0, x.mark(7, 3));
        rule("S0", 0);
        due(7, x.mark(7, 3));
        x.later(30);
        due(8, x.sheet(4, NONE, 0, 0));
        due(9, x.sheet(6, 3, 4, 0));
        due(10, x.sheet(5, 3, 4, 0));
        x.later(3);
        due(30, x.mark(8, 4));
        finds(UNLIKE, x.mark(8, 3));
        finds(UNLIKE, x.mark(10, 6));
        lay(0, 1);
        x.walk(0, 0);
        x.walk(3, 0);
        x.sung(4, 1, 34);
        due(0, x.mark(9, 5));
        x.later(1);
        due(2, x.mark(9, 5));
        due(2, x.mark(10, 5));
        x.sheet(5, 3, 5, 0);
        lay(0, 2);
        x.walk(1, 0);
        x.sung(5, 2, 99);
        due(0, x.mark(11, 5));
        x.later(900);
        due(1, x.mark(11, 5));
        due(0, x.mark(9, 6));
        x.register(4, 3, 1600);
        x.register(4, 3, 1600);
        x.register(4, 2, 1600);
        x.register(3, 3, 1600);
        due(2, x.mark(9, 6));
        due(12, x.sheet(6, NONE, 4, 0));
        due(0, x.mark(12, 6));
    }

    /** A sheet with all that stands in an order: printer, block, cracks, broken letters. */
    private static int shown(int printer, int block, int cracks, int broken) {
        int s = x.sheet(0, printer, 0, 0);
        x.block(s, block, cracks);
        x.type(s, broken, 0);
        return s;
    }

    private static void orders() {
        promise(28);
        due(-100, x.ahead(0, 1));
        shown(1, 0, 1, 0);
        shown(1, 0, 3, 0);
        shown(1, 1, 3, 1);
        shown(1, 0, 3, 4);
        shown(1, 0, 4, 0);
        shown(1, 0, 5, 3);
        shown(NONE, NONE, 1, 1);
        shown(NONE, NONE, 3, 3);
        shown(2, 0, 0, 9);
        shown(1, 0, 0, 7);
        due(1, x.ahead(0, 1));
        due(0, x.ahead(1, 0));
        due(2, x.ahead(0, 2));
        due(0, x.ahead(2, 0));
        due(3, x.ahead(0, 3));
        due(0, x.ahead(3, 0));
        due(-10, x.ahead(0, 4));
        due(-10, x.ahead(4, 3));
        due(-20, x.ahead(2, 3));
        due(-30, x.ahead(3, 5));
        due(0, x.ahead(6, 7));
        due(0, x.ahead(7, 0));
        due(1, x.ahead(8, 1));
        due(-40, x.ahead(9, 3));
        due(-40, x.ahead(3, 9));
        due(0, x.ahead(8, 9));
        due(-100, x.ahead(1, 1));
        due(-100, x.ahead(-1, 1));
        due(-100, x.ahead(1, 10));

        promise(29);
        due(NONE, x.quarrel());
        shown(1, 0, 1, 0);
        shown(2, 0, 3, 0);
        due(NONE, x.quarrel());
        shown(3, 1, 1, 1);
        shown(3, 2, 1, 2);
        due(203, x.quarrel());
        shown(2, 0, 4, 0);
        due(4, x.quarrel());
        x.block(4, 0, 1);
        x.type(4, 1, 0);
        due(104, x.quarrel());

        promise(30);
        due(0, x.orders(5));
        due(1, x.many());
        for (int s = 0; s < 12; s++) shown(NONE, 0, 0, 0);
        due(12, x.orders(0));
        due(479001600, x.many());
        x.block(0, 0, 1);
        due(12, x.orders(0));
        due(39916800, x.many());
        x.block(1, 0, 2);
        due(12, x.orders(0));
        due(2L * 3628800, x.many());
        due(12, shown(NONE, 0, 0, 0));
        due(SPENT, x.orders(0));
        due(2L * 3628800, x.many());
        due(BAD, x.orders(6));
        due(BAD, x.orders(-1));
        due(BAD, x.orders(NONE));
        x.block(12, NONE, 0);
        due(12, x.orders(0));
        promise(30);
        shown(1, 2, 1, 1);
        shown(1, 2, 1, 3);
        shown(2, 2, 1, 7);
        due(3, x.orders(2));
        due(3, x.many());
        x.block(0, 2, 3);
        due(3, x.orders(2));
        due(0, x.many());

        promise(31);
        due(BAD, x.standsAhead(0, 1));
        shown(NONE, 0, 0, 0);
        shown(NONE, 0, 1, 0);
        shown(NONE, 0, 2, 0);
        shown(NONE, 1, 2, 0);
        shown(NONE, NONE, 2, 0);
        shown(NONE, NONE, 2, 0);
        due(1, x.standsAhead(0, 1));
        due(2, x.many());
        due(1, x.standsAhead(1, 0));
        due(0, x.many());
        due(1, x.standsAhead(1, 2));
        due(1, x.many());
        due(1, x.standsAhead(2, 1));
        due(1, x.many());
        due(BAD, x.standsAhead(1, 1));
        due(BAD, x.standsAhead(-1, 1));
        due(BAD, x.standsAhead(1, 6));
        finds(UNLIKE, x.standsAhead(0, 3));
        finds(UNLIKE, x.standsAhead(4, 5));
        for (int s = 6; s < 15; s++) shown(NONE, 0, 0, 0);
        x.block(1, 0, 0);
        x.block(2, 0, 0);
        due(1, x.standsAhead(2, 14));
        due(479001600 / 2, x.many());
        x.standsAhead(14, 2);
        due(479001600 / 2, x.many());
        shown(NONE, 0, 0, 0);
        x.block(3, 0, 2);
        due(SPENT, x.standsAhead(0, 3));
        x.block(3, 1, 2);
        finds(UNLIKE, x.standsAhead(0, 3));
        due(SPENT, x.standsAhead(0, 1));
        due(479001600 / 2, x.many());

        promise(32);
        shown(1, 0, 0, 0);
        shown(1, 0, 1, 0);
        shown(1, 0, 1, 1);
        shown(1, 1, 1, 1);
        lay(0, 0, 1, 2);
        due(NONE, x.judgeOrder(0, 0));
        lay(0, 0, 2, 1);
        due(2, x.judgeOrder(0, 0));
        lay(0, 1, 2, 0);
        due(2, x.judgeOrder(0, 0));
        lay(0, 0, 0, 1);
        due(1, x.judgeOrder(0, 0));
        lay(0, 0, 3);
        due(1, x.judgeOrder(0, 0));
        lay(0, 0, 1);
        due(2, x.judgeOrder(0, 0));
        lay(0, 0, 1, 2, 0);
        due(3, x.judgeOrder(0, 0));
        lay(0, 4);
        due(0, x.judgeOrder(0, 0));
        lay(0, NONE);
        due(0, x.judgeOrder(0, 0));
        lay(0, LEAST);
        due(0, x.judgeOrder(0, 0));
        x.row(0, 0);
        due(0, x.judgeOrder(0, 0));
        due(NONE, x.judgeOrder(2, 0));
        finds(NOTHING, x.judgeOrder(0, 1));
        due(BAD, x.judgeOrder(6, 0));
        due(BAD, x.judgeOrder(NONE, 0));
        due(BAD, x.judgeOrder(0, 6));
        due(BAD, x.judgeOrder(0, -1));
        for (int s = 4; s < 20; s++) shown(NONE, 0, 0, 0);
        lay(0, 0, 4, 5, 6, 7, 8, 9, 10, 11, 12, 13, 14, 15, 16, 17, 18, 19, 1, 2);
        due(NONE, x.judgeOrder(0, 0));
        promise(32);
        shown(NONE, 0, 1, 0);
        shown(NONE, 0, 0, 0);
        lay(0, 0, 1);
        due(1, x.judgeOrder(0, 0));
    }

    private static void years() {
        promise(33);
        due(BAD, x.year(0, true));
        shown(NONE, NONE, 0, 0);
        due(1500, x.year(0, false));
        due(1999, x.year(0, true));
        x.printer(1, 1600, 1650);
        shown(1, 0, 1, 0);
        due(1600, x.year(1, false));
        due(1652, x.year(1, true));
        shown(2, 0, 3, 0);
        due(1600, x.year(2, false));
        due(1999, x.year(2, true));
        shown(2, 1, 0, 1);
        due(1600, x.year(3, false));
        x.span(3, 1610, 1620);
        due(1620, x.year(1, true));
        due(1620, x.year(2, true));
        due(1600, x.year(2, false));
        due(1610, x.year(3, false));
        x.span(1, 1605, 1700);
        due(1605, x.year(2, false));
        due(1500, x.year(0, false));
        x.span(3, 1550, 1604);
        due(NONE, x.year(3, false));
        due(NONE, x.year(0, true));
        x.span(3, 1605, 1605);
        due(1605, x.year(1, true));
        x.span(3, NONE, 0);
        rule("D0", 0);
        due(1650, x.year(1, true));
        rule("D500", 1);
        due(1650, x.year(1, true));
        x.later(1);
        x.span(1, NONE, 0);
        due(1999, x.year(1, true));
        due(BAD, x.year(4, false));
        due(BAD, x.year(-1, false));
        promise(33);
        shown(1, 0, 1, 1);
        shown(1, 0, 3, 0);
        x.span(0, 1600, 1620);
        x.span(1, 1610, 1630);
        due(1610, x.year(0, false));
        due(1620, x.year(1, true));
        promise(33);
        shown(1, 0, 3, 0);
        shown(NONE, 0, 1, 0);
        shown(1, NONE, 0, 1);
        x.span(1, 1700, 1800);
        due(0, x.ahead(1, 2));
        due(1700, x.year(2, false));
        x.span(2, 1600, 1750);
        due(1750, x.year(1, true));

        promise(34);
        due(0, x.doubts());
        for (int s = 0; s < 12; s++) shown(NONE, 0, (1 << s) - 1, 0);
        due(0, x.doubts());
        x.span(0, 1600, 1610);
        x.span(1, 1500, 1599);
        due(1, x.doubts());
        x.span(2, 1500, 1599);
        due(1, x.doubts());
        x.span(0, NONE, 0);
        x.span(3, 1500, 1550);
        x.span(1, 1560, 1599);
        due(2, x.doubts());
        x.span(2, 1551, 1599);
        due(8, x.doubts());
        for (int s = 0; s < 10; s++) x.span(s, 1600 - s, 1600 - s);
        x.span(10, NONE, 0);
        due(0x1ff, x.doubts());
        x.span(10, 1600, 1600);
        due(SPENT, x.doubts());
        for (int s = 0; s < 11; s++) x.span(s, 1600, 1600);
        due(0, x.doubts());
        promise(34);
        x.printer(0, 1700, 1710);
        x.printer(1, 1600, 1610);
        shown(0, 0, 0, 0);
        shown(1, 0, 1, 0);
        due(NONE, x.doubts());
        x.span(0, 1500, 1500);
        due(NONE, x.doubts());
        x.printer(1, 1700, 1710);
        due(1, x.doubts());
        x.span(1, 1713, 1713);
        due(3, x.doubts());
        x.span(0, 1712, 1712);
        due(2, x.doubts());
        x.span(0, 1500, 1700);
        due(2, x.doubts());
        x.span(0, 1712, 1720);
        x.span(1, 1600, 1699);
        due(2, x.doubts());
        promise(34);
        shown(NONE, 0, 0, 0);
        shown(NONE, 0, 1, 0);
        shown(NONE, NONE, 0, 0);
        x.printer(0, 1500, 1500);
        x.sheet(0, 0, 0, 0);
        x.span(0, 1600, 1650);
        x.span(1, 1550, 1600);
        due(0, x.doubts());
        x.span(3, 1503, 1503);
        due(8, x.doubts());
        x.span(0, 1601, 1650);
        due(1 + 8, x.doubts());
    }

    private static void families() {
        promise(35);
        sing(0, "one two three four");
        sing(1, "one three  four five");
        sing(2, "one two/three four");
        sing(3, "one/two three/four");
        sing(4, "seven");
        due(0, x.changes(0, 0));
        due(2, x.changes(0, 1));
        due(2, x.changes(1, 0));
        due(1, x.changes(0, 2));
        due(2, x.changes(0, 3));
        due(3, x.changes(2, 3));
        due(4, x.changes(0, 4));
        due(6, x.changes(4, 3));
        sing(5, "on etwo");
        sing(6, "one two");
        due(2, x.changes(5, 6));
        finds(NOTHING, x.changes(0, 7));
        finds(NOTHING, x.changes(7, 0));
        due(BAD, x.changes(10, 7));
        due(BAD, x.changes(0, -1));
        sing(7, "a b c d e f g h i j k l m n o p q r s t u v/w/x/y/z/a/b/c");
        sing(8, "b c d e f g h i j k l m n o p q r s t u v/w/x/y/z/a/b/c d");
        due(2, x.changes(7, 8));

        promise(36);
        sing(0, "a b c");
        sing(1, "a b d");
        sing(2, "x y z");
        due(BAD, x.family(1));
        for (int s = 0; s < 4; s++) x.sheet(0, NONE, s % 3, 0);
        due(0, x.family(1));
        due(1, x.many());
        due(4, x.family(7));
        due(2, x.many());
        due(3, x.family(4 + 8));
        due(4, x.family(15));
        due(2, x.many());
        x.span(2, 1500, 1510);
        x.span(0, 1600, 1600);
        x.span(1, 1500, 1599);
        x.span(3, 1500, 1610);
        due(1 + 3 + 0, x.family(15));
        due(1, x.many());
        due(BAD, x.family(0));
        due(BAD, x.family(16));
        due(BAD, x.family(LEAST));
        due(BAD, x.family(-1));
        x.sheet(0, NONE, 9, 0);
        finds(NOTHING, x.family(31));
        due(4, x.family(15));
        x.block(0, 0, 0);
        x.block(1, 0, 1);
        due(STATE, x.family(15));
        finds(NOTHING, x.family(31));
        for (int s = 5; s < 12; s++) x.sheet(0, NONE, 0, 0);
        due(STATE, x.family(0xfcf));
        due(SPENT, x.family(0xfff));
        due(SPENT, x.family(0xfef));
        due(1, x.many());
        x.block(0, NONE, 0);
        x.type(0, 0, 0);
        for (int s = 1; s < 5; s++) x.block(s, NONE, 0);
        due(0, x.family(0xfe0));
        due(720, x.many());

        promise(37);
        sing(0, "a b c");
        sing(1, "a b d");
        sing(2, "x y z");
        for (int s = 0; s < 4; s++) x.sheet(0, NONE, s % 3, 0);
        x.span(2, 1500, 1510);
        x.span(0, 1600, 1600);
        x.span(1, 1500, 1599);
        x.span(3, 1500, 1610);
        lay(0, 1, NONE, 1, 2);
        due(NONE, x.judge(15, 0));
        due(1 + 3 + 3, x.asked());
        lay(0, 3, NONE, 1, 1);
        due(NONE, x.judge(15, 0));
        due(0 + 3 + 1, x.asked());
        lay(0, 3, NONE, 1, 3);
        due(3, x.judge(15, 0));
        lay(0, 3, NONE, 3, 1);
        due(2, x.judge(15, 0));
        lay(0, 3, NONE, NONE, 1);
        due(2, x.judge(15, 0));
        lay(0, 3, 2, 1, 1);
        due(1, x.judge(15, 0));
        lay(0, 5, NONE, 1, 1);
        due(0, x.judge(15, 0));
        lay(0, 19, NONE, 1, 1);
        due(0, x.judge(15, 0));
        lay(0, 20, NONE, 1, 1);
        due(0, x.judge(15, 0));
        lay(0, -1, NONE, 1, 1);
        due(0, x.judge(15, 0));
        lay(0, MOST, NONE, 1, 1);
        due(0, x.judge(15, 0));
        lay(0, 2, NONE);
        due(NONE, x.judge(5, 0));
        due(3, x.asked());
        lay(0, 1, NONE);
        due(0, x.judge(5, 0));
        lay(0, NONE);
        due(NONE, x.judge(8, 0));
        due(0, x.asked());
        due(BAD, x.judge(0, 0));
        due(BAD, x.judge(16, 0));
        due(BAD, x.judge(1, 6));
        due(BAD, x.judge(1, -1));
        finds(NOTHING, x.judge(1, 1));
        finds(SIZE, x.judge(3, 0));
        x.row(0, 3);
        finds(SIZE, x.judge(3, 0));
        x.sheet(0, NONE, 9, 0);
        finds(NOTHING, x.judge(31, 0));
        x.block(0, 0, 0);
        x.block(1, 0, 1);
        finds(SIZE, x.judge(3, 0));
        due(STATE, x.judge(7, 0));
        for (int s = 5; s < 11; s++) x.sheet(0, NONE, 9, 0);
        due(SPENT, x.judge(0x7ff, 5));
        promise(37);
        sing(0, "a");
        for (int s = 0; s < 11; s++) x.sheet(0, NONE, 0, 0);
        lay(0, NONE, 0, 1, 2, 3, 4, 5, 6, 7, 8);
        due(NONE, x.judge(0x3ff, 0));
        due(SPENT, x.judge(0x7ff, 0));
        due(0, x.family(0x3ff));
        due(362880, x.many());

        promise(38);
        due(BAD, x.taken(0, 1));
        for (int s = 0; s < 4; s++) x.sheet(0, NONE, 0, 0);
        x.type(0, 0, 0b111);
        x.type(1, 0, 0b110011);
        x.type(2, 0, 65535);
        due(0, x.taken(0, 1));
        fraction((3 * 78 + 13) / 13, 1820 / 13);
        due(0, x.taken(1, 0));
        fraction((6 * 12 + 4) / 4, 560 / 4);
        due(1, x.taken(0, 2));
        fraction(1, 1);
        due(0, x.taken(2, 3));
        fraction(1, 1);
        rule("S2", 0);
        due(1, x.taken(0, 1));
        rule("S0", 0);
        due(1, x.taken(2, 3));
        x.type(3, 0, 0b1110000000000000);
        x.taken(0, 3);
        fraction(1, 1);
        due(BAD, x.taken(0, 0));
        due(BAD, x.taken(0, 4));
        due(BAD, x.taken(-1, 0));
        x.type(2, 0, 0xff);
        x.type(3, 0, 0xff);
        due(1, x.taken(2, 3));
        fraction(1, 12870);
    }

    private static void rights() {
        promise(39);
        due(BAD, x.register(10, 0, 1600));
        due(BAD, x.register(-1, 0, 1600));
        due(BAD, x.register(0, 8, 1600));
        due(BAD, x.register(0, NONE, 1600));
        due(BAD, x.register(0, 0, 1499));
        due(BAD, x.register(0, 0, MOST));
        for (int k = 1; k <= 40; k++) due(k, x.register(9, 7, 1500 + k));
        due(FULL, x.register(0, 0, 1600));
        due(BAD, x.register(0, 0, 1499));
        due(40, x.count(5));

        promise(40);
        due(NONE, x.right(0, 1500));
        x.register(0, 2, 1650);
        x.register(0, 1, 1600);
        x.register(0, 3, 1600);
        due(NONE, x.right(0, 1599));
        due(1, x.right(0, 1600));
        due(1, x.right(0, 1620));
        due(NONE, x.right(0, 1621));
        due(2, x.right(0, 1650));
        x.register(0, 3, 1620);
        due(NONE, x.right(0, 1621));
        x.register(0, 1, 1619);
        due(1, x.right(0, 1639));
        due(NONE, x.right(0, 1640));
        x.register(0, 4, 1640);
        due(4, x.right(0, 1640));
        due(4, x.right(0, 1650));
        due(4, x.right(0, 1660));
        due(NONE, x.right(0, 1661));
        due(NONE, x.right(1, 1640));
        rule("R10", 0);
        due(1, x.right(0, 1609));
        due(NONE, x.right(0, 1610));
        due(2, x.right(0, 1650));
        rule("R0", 0);
        due(NONE, x.right(0, 1600));
        due(BAD, x.right(10, 1600));
        due(BAD, x.right(-1, 1600));
        due(BAD, x.right(0, 1499));
        due(BAD, x.right(0, LEAST));

        promise(41);
        due(BAD, x.join(0, 1));
        half(0, 0, 1, 5, 9);
        half(1, 0, 9, 5, 1);
        half(0, 1, 9, 5, 1);
        half(0, 0, 9, 5);
        half(0, 0, 9, 6, 0);
        half(0, 0, 9, 7, 1);
        half(0, 0);
        half(0, 0);
        x.sheet(1, 0, 0, 0);
        due(2, x.join(0, 1));
        due(2, x.join(1, 0));
        due(0, x.join(0, 2));
        due(0, x.join(0, 3));
        due(1, x.join(0, 4));
        due(0, x.join(0, 5));
        due(2, x.join(6, 7));
        x.type(0, 1, 0);
        due(1, x.join(0, 1));
        x.type(1, 1, 5);
        due(2, x.join(0, 1));
        rule("C0", 0);
        due(0, x.join(0, 4));
        rule("C2", 0);
        due(1, x.join(0, 5));
        due(BAD, x.join(0, 0));
        due(BAD, x.join(0, 9));
        due(BAD, x.join(-1, 0));
        finds(UNLIKE, x.join(0, 8));
        finds(UNLIKE, x.join(8, 0));
        promise(41);
        half(0, 0, 0, MOST);
        half(0, 0, 0, MOST);
        half(0, 0, 5, 4);
        half(0, 0, 0, 0);
        due(0, x.join(0, 1));
        due(1, x.join(2, 3));
    }

    private static void sellers() {
        promise(42);
        lay(0, 0, 9);
        due(2, x.walk(3, 0));
        x.lay(0, 0, 5);
        x.sung(0, 0, 0);
        due(1, x.can(3, 0, 0));
        lay(0, 10);
        finds(UNLIKE, x.walk(3, 0));
        lay(0, -1);
        finds(UNLIKE, x.walk(3, 0));
        x.row(0, 0);
        finds(SIZE, x.walk(3, 0));
        finds(NOTHING, x.walk(3, 1));
        due(BAD, x.walk(4, 0));
        due(BAD, x.walk(-1, 0));
        due(BAD, x.walk(0, 6));
        x.row(0, 40);
        due(40, x.walk(2, 0));
        lay(0, 7);
        due(1, x.walk(3, 0));
        due(NONE, x.far(0, 9));

        promise(43);
        due(BAD, x.sung(10, 0, 0));
        due(BAD, x.sung(-1, 0, 0));
        due(BAD, x.sung(0, 10, 0));
        due(BAD, x.sung(0, -1, 0));
        due(BAD, x.sung(0, 0, 100));
        due(BAD, x.sung(0, 0, -1));
        for (int k = 1; k <= 30; k++) due(k, x.sung(9, 9, 99));
        due(FULL, x.sung(0, 0, 0));
        due(BAD, x.sung(0, 0, 100));

        promise(44);
        due(STATE, x.can(0, 0, 0));
        lay(0, 1, 2, 3);
        x.walk(0, 0);
        lay(0, 3, 1, 4);
        x.walk(1, 0);
        lay(0, 4, 4, 4, 3);
        x.walk(2, 0);
        x.sung(5, 1, 1);
        x.sung(5, 4, 50);
        due(0, x.can(0, 5, 2));
        due(0, x.can(1, 5, 0));
        due(1, x.can(1, 5, 1));
        due(0, x.can(2, 5, 1));
        due(1, x.can(2, 5, 2));
        due(0, x.can(0, 5, 2));
        due(1, x.can(0, 5, 3));
        due(1, x.can(0, 5, 99));
        due(0, x.can(0, 6, 99));
        due(STATE, x.can(3, 5, 99));
        due(BAD, x.can(4, 5, 0));
        due(BAD, x.can(-1, 5, 0));
        due(BAD, x.can(3, 10, 0));
        due(BAD, x.can(3, 0, 100));
        due(BAD, x.can(3, 0, -1));

        promise(45);
        due(NONE, x.far(0, 0));
        x.sung(0, 3, 7);
        x.sung(0, 3, 5);
        due(NONE, x.far(0, 3));
        lay(0, 3);
        x.walk(0, 0);
        due(5, x.far(0, 3));
        due(NONE, x.far(1, 3));
        lay(0, 0);
        x.walk(2, 0);
        due(NONE, x.far(0, 0));
        lay(0, 3, 3, 3, 3, 3, 3, 2, 1);
        x.walk(0, 0);
        due(7, x.far(0, 1));
        due(6, x.far(0, 2));
        lay(0, 1, 1, 1, 1, 1, 1, 1, 1, 8);
        x.walk(1, 0);
        due(8, x.far(0, 8));
        x.sung(2, 8, 99);
        due(99, x.far(2, 8));
        due(BAD, x.far(10, 0));
        due(BAD, x.far(-1, 0));
        due(BAD, x.far(0, 10));
        due(BAD, x.far(0, -1));

        promise(46);
        finds(NOUGHT, x.lost());
        x.sheet(0, 0, 0, 0);
        x.sheet(5, 0, 0, 0);
        finds(NOUGHT, x.lost());
        x.sheet(1, 0, 0, 0);
        due(1, x.lost());
        fraction(0, 1);
        x.sheet(1, 1, 0, 0);
        due(2, x.lost());
        fraction(1, 1);
        half(NONE, 0);
        due(3, x.lost());
        fraction(3, 1);
        half(0, 1);
        due(4, x.lost());
        fraction(6, 1);
        half(0, 0);
        due(4, x.lost());
        fraction(9, 2);
        x.sheet(1, 1, 0, 0);
        due(4, x.lost());
        fraction(1, 1);
        x.sheet(1, 0, 0, 0);
        x.sheet(1, 1, 0, 0);
        due(4, x.lost());
        fraction(1, 1);
        x.sheet(1, 5, 5, 0);
        due(5, x.lost());
        fraction(3, 1);
    }

    private static void told() {
        promise(47);
        sing(0, "a");
        shown(NONE, 0, 0, 0);
        shown(NONE, 0, 0, 0);
        shown(NONE, 0, 0, 0);
        x.orders(0);
        due(6, x.many());
        x.orders(9);
        x.standsAhead(0, 0);
        x.family(0);
        due(6, x.many());
        x.standsAhead(0, 1);
        due(3, x.many());
        x.family(7);
        due(2, x.many());

        promise(48);
        lay(0, 4, 6);
        due(0, x.asked());
        x.mean(0);
        due(5, x.asked());
        x.mean(1);
        x.lay(0, 2, 0);
        x.told(0, 0);
        x.songTold(0, 0);
        x.digest();
        x.count(0);
        due(5, x.asked());
        sing(0, "a b");
        x.songTold(0, 1);
        due(2, x.asked());
        x.sheet(0, NONE, 0, 0);
        x.sheet(0, NONE, 0, 0);
        x.told(0, 1);
        due(NONE, x.asked());
        lay(0, NONE, 1);
        x.told(0, 2);
        due(1, x.judge(3, 0));
        due(0, x.asked());
        x.told(0, 1);
        lay(0, NONE, 0);
        x.told(0, 1);
        due(NONE, x.judge(3, 0));
        due(0, x.asked());

        promise(49);
        due(0, x.upper());
        x.lost();
        due(0, x.upper());
        for (int p = 0; p < 3; p++) x.sheet(1, p, 0, 0);
        x.lost();
        due(3, x.upper());
        x.taken(0, 0);
        due(3, x.upper());

        promise(50);
        due(1, x.lower());
        for (int p = 0; p < 3; p++) x.sheet(1, p, 0, 0);
        x.sheet(1, 0, 0, 0);
        x.sheet(1, 4, 0, 0);
        x.lost();
        due(2, x.lower());
        due(9, x.upper());
        x.type(0, 0, 1);
        x.type(1, 0, 1);
        x.taken(0, 1);
        due(16, x.lower());
        due(1, x.upper());

        promise(51);
        x.later(3);
        due(3, x.count(0));
        sing(0, "a");
        sing(0, "a");
        sing(1, "a");
        due(2, x.count(1));
        lay(0, 1);
        x.tune(0, 0);
        x.tune(0, 0);
        due(1, x.count(2));
        x.sheet(0, 0, 0, 0);
        due(1, x.count(3));
        rule("L1", 0);
        rule("L1", 0);
        due(2, x.count(4));
        x.register(0, 0, 1600);
        due(1, x.count(5));
        x.row(1, 0);
        x.row(2, 0);
        x.tear(1);
        due(2, x.count(6));
        x.text(0, 0);
        due(2, x.count(7));
        due(BAD, x.count(8));
        due(BAD, x.count(-1));

        promise(52);
        due(0, x.finding());
        x.row(9, 9);
        due(0, x.finding());
        x.tear(0);
        due(NOTHING, x.finding());
        x.row(0, 0);
        x.row(9, 9);
        due(NOTHING, x.finding());
        x.lay(0, 0, 0);
        due(BEYOND, x.finding());
        x.mean(0);
        due(NOUGHT, x.finding());
        x.tune(0, 0);
        due(SIZE, x.finding());
        sing(0, "0");
        due(UNLIKE, x.finding());

        promise(53);
        for (int k = 0; k < 3; k++) x.tear(0);
        x.row(0, 0);
        x.lay(0, 0, 0);
        x.mean(0);
        x.mean(0);
        due(3, x.findings(1));
        due(1, x.findings(2));
        due(0, x.findings(3));
        due(2, x.findings(4));
        due(0, x.findings(5));
        due(BAD, x.findings(0));
        due(BAD, x.findings(6));
        due(BAD, x.findings(LEAST));
    }

    private static long mixed(int... values) {
        long h = 17;
        for (int v : values) h = 31 * h + v;
        return h;
    }

    private static void digest() {
        promise(54);
        int n = NONE;
        due(mixed(0, 0, 0, 0, 0, 0, 0, 0,
            -1, -1, -1, -1, -1, -1, -1, -1, -1, -1,
            -1, -1, -1, -1, -1, -1,
            n, n, n, n, n, n, n, n, n, n, n, n, n, n, n, n,
            -1, -1, -1, -1,
            -1, -1, -1, -1, -1, -1,
            -1, -1, -1, -1), x.digest());
        x.later(5);
        sing(1, "b /a");
        lay(0, 7, 8);
        x.tune(2, 0);
        x.walk(1, 0);
        x.printer(7, 1600, 1700);
        x.sheet(0, 3, 4, 0);
        x.sheet(2, NONE, 5, 0);
        x.block(1, 2, 6);
        x.type(1, 9, 10);
        x.span(1, 1650, 1660);
        rule("L1", 77);
        x.register(6, 5, 1610);
        x.sung(8, 9, 11);
        x.tear(0);
        lay(4, LEAST);
        x.text(0, 1);
        x.put(0, 0, 255);
        x.tear(0);
        x.mean(0);
        due(mixed(5, 1, 1, 2, 1, 1, 1, 2,
            -1, 4, 'b', ' ', '/', 'a', -1, -1, -1, -1, -1, -1, -1, -1,
            -1, -1, 2, 7, 8, -1, -1, -1,
            n, n, n, n, n, n, n, n, n, n, n, n, n, n, 1600, 1700,
            0, 3, 4, n, 0, 0, 0, n, n,
            2, n, 5, 2, 6, 9, 10, 1650, 1660, 2, 7, 8,
            5, 77,
            6, 5, 1610,
            -1, 2, 7, 8, -1, -1,
            8, 9, 11,
            -1, -1, -1, -1, 1, LEAST, -1,
            1, -1, -1, -1, 2, 'L', '1'), x.digest());
    }
}
