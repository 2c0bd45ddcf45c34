import java.io.IOException;

/** Edges of changes, families, slips, rights and halves: promises 35 to 41, and what Terms say of them. */
public final class EdgesOfFamiliesTest extends Edges {
    private static final int[] NO_SONGS = {-1, 10, NONE, LEAST, MOST};
    private static final int[] NO_ROWS = {-1, 6, NONE, LEAST, MOST};
    // The document names no years of the register: they are taken as all that are told, 1500 .. 1899.
    private static final int[] NO_YEARS = {1499, 1900, 0, -1, NONE, LEAST, MOST};

    public static void main(String[] args) throws IOException {
        begin(args);
        changes();
        family();
        whichFamilies();
        judge();
        whichParents();
        taken();
        register();
        right();
        whoseRight();
        join();
        end(35, 41);
    }

    private static void differ(String one, String other, int changes) {
        sing(0, one);
        sing(1, other);
        due(changes, x.changes(0, 1));
        due(changes, x.changes(1, 0));
    }

    private static void changes() {
        edge(35, "CHANGES between two SONGS.");
        differ("a", "a", 0);
        differ("a", "b", 1);
        due(0, x.changes(0, 0));
        sing(9, "a b");
        due(1, x.changes(9, 0));
        due(1, x.changes(0, 9));

        edge(35, "BAD");
        sing(0, "a");
        for (int s : NO_SONGS) refuses(BAD, () -> x.changes(s, 0));
        for (int s : NO_SONGS) refuses(BAD, () -> x.changes(0, s));
        refuses(BAD, () -> x.changes(10, 1));
        refuses(BAD, () -> x.changes(1, 10));

        edge(35, "NOTHING: either");
        sing(0, "a");
        finds(NOTHING, () -> x.changes(0, 1));
        finds(NOTHING, () -> x.changes(1, 0));
        finds(NOTHING, () -> x.changes(1, 1));
        finds(NOTHING, () -> x.changes(9, 8));

        terms("the fewest WORDS dropped, come, made other (each 1), that lead from the one to the other");
        differ("one two three", "one three", 1);
        differ("one two three", "one six three", 1);
        differ("one two three", "two three four", 2);
        differ("one two", "two one", 2);
        differ("a b c", "d e f g", 4);
        differ("ab", "a b", 2);
        differ("ab  c", " ab c ", 0);
        differ("aa", "a", 1);
        differ("ab", "ac", 1);

        terms("LINES parted by a mark (that counts as a WORD of its own, like all such marks)");
        differ("a b", "a/b", 1);
        differ("a/b", "a / b", 0);
        differ("a/b", "b", 2);
        differ("a/b/c", "a b c", 2);
        differ("a/b c/d", "a b/c d", 3);
        differ("a/b", "a c b", 1);
        differ("a/b/c/d/e/f/g/h", "a", 14);
        terms("LINES parted by a mark (that counts as a WORD of its own, like all such marks)");
        // As many words and marks as a text can have.
        sing(0, "a b c d e f g h i j k l m n o p q r s t u v w/x/y/z/a/b/c/d");
        sing(1, "b c d e f g h i j k l m n o p q r s t u v w/x/y/z/a/b/c/d e");
        due(2, x.changes(0, 1));
        sing(1, "z");
        due(36, x.changes(0, 1));
        due(36, x.changes(1, 0));
    }

    /** Sheets with songs 0 to 2: 0 and 1 differ by 1, 2 from each of them by 3. */
    private static void kin(int n) {
        sing(0, "a b c");
        sing(1, "a b d");
        sing(2, "x y z");
        for (int s = 0; s < n; s++) x.sheet(0, NONE, s % 3, 0);
    }

    private static void family() {
        edge(36, "its sum; RIVALS by many().");
        kin(3);
        tells(1, x::many, 0, x.family(1));
        tells(1, x::many, 1, x.family(3));
        tells(1, x::many, 3, x.family(5));
        tells(2, x::many, 4, x.family(7));

        edge(36, "BAD: bits, none");
        refuses(BAD, () -> x.family(0));
        refuses(BAD, () -> x.family(1));
        kin(3);
        for (int set : new int[] {0, 8, 9, 15, -1, NONE, LEAST, MOST}) refuses(BAD, () -> x.family(set));
        due(4, x.family(7));
        edge(36, "BAD: bits, none");
        sing(0, "a");
        plainSheets(20);
        refuses(BAD, () -> x.family(1 << 20));
        refuses(BAD, () -> x.family((1 << 20) | 1));
        due(0, x.family(1 << 19));
        due(0, x.family((1 << 19) | 1));

        edge(36, "SPENT: more than 10");
        sing(0, "a");
        plainSheets(12);
        tells(362880, x::many, 0, x.family(0x3ff));
        tells(362880, x::many, 0, x.family(0xffc));
        refuses(SPENT, () -> x.family(0x7ff));
        refuses(SPENT, () -> x.family(0xfff));
        refuses(BAD, () -> x.family(0x1fff));
        x.sheet(0, NONE, 1, 0);
        refuses(SPENT, () -> x.family(0x1fff));

        edge(36, "NOTHING: a SONG that is missing");
        kin(3);
        x.sheet(0, NONE, 9, 0);
        finds(NOTHING, () -> x.family(8));
        finds(NOTHING, () -> x.family(15));
        due(4, x.family(7));
        refuses(BAD, () -> x.family(24));
        sing(9, "a b c");
        due(4, x.family(15));

        edge(36, "STATE: there are no YEARS.");
        kin(3);
        x.block(0, 0, 0);
        x.block(1, 0, 1);
        x.span(0, 1601, 1700);
        x.span(1, 1500, 1600);
        refuses(STATE, () -> x.family(7));
        refuses(STATE, () -> x.family(4));
        refuses(BAD, () -> x.family(0));
        x.span(1, 1500, 1601);
        due(4, x.family(7));

        edge(36, "(STATE behind NOTHING.)");
        kin(3);
        x.block(0, 0, 0);
        x.block(1, 0, 1);
        x.span(0, 1601, 1700);
        x.span(1, 1500, 1600);
        x.sheet(0, NONE, 9, 0);
        finds(NOTHING, () -> x.family(15));
        refuses(STATE, () -> x.family(7));
        for (int s = 4; s < 15; s++) x.sheet(0, NONE, 9, 0);
        refuses(SPENT, () -> x.family(0x7ff0));
    }

    private static void whichFamilies() {
        terms("A FAMILY of SHEETS told by bits (of SONGS that are there; 10 at most)");
        sing(0, "a");
        plainSheets(11);
        due(0, x.family(0x7fe));
        due(362880, x.many());
        due(SPENT, x.family(0x7ff));

        terms("ordered by their least YEARS (by number, if alike); the first is the root");
        kin(3);
        lay(0, NONE, 0, 0);
        due(NONE, x.judge(7, 0));
        x.span(0, 1601, 1700);
        x.span(1, 1600, 1700);
        x.span(2, 1600, 1650);
        due(0, x.judge(7, 0));
        lay(0, 1, NONE, 1);
        due(NONE, x.judge(7, 0));
        lay(0, 1, 2, NONE);
        due(1, x.judge(7, 0));
        x.span(2, 1599, 1899);
        due(NONE, x.judge(7, 0));
        // Least years come by those ahead, too.
        x.span(2, NONE, 0);
        x.block(0, 0, 0);
        x.block(2, 0, 1);
        lay(0, 1, NONE, 0);
        due(NONE, x.judge(7, 0));

        terms("each other one has a PARENT ahead of it in that order; the sum of CHANGES between the SONGS of each and its PARENT is the least");
        sing(0, "a b c d");
        sing(1, "a x c d");
        sing(2, "a x y d");
        sing(3, "a x y z");
        for (int s = 0; s < 4; s++) x.sheet(0, NONE, s, 0);
        tells(1, x::many, 3, x.family(15));
        tells(1, x::many, 3, x.family(1 + 8));
        tells(1, x::many, 3, x.family(1 + 2 + 8));
        tells(1, x::many, 3, x.family(1 + 4 + 8));
        // The one between the others is the last: it can be the parent of none.
        x.span(1, 1600, 1600);
        tells(2, x::many, 2 + 1 + 1, x.family(15));

        terms("RIVALS: how many such FAMILIES there are.");
        sing(0, "a");
        sing(1, "b");
        plainSheets(3);
        tells(2, x::many, 0, x.family(7));
        x.sheet(0, NONE, 1, 0);
        tells(6, x::many, 1, x.family(15));
        x.sheet(0, NONE, 1, 0);
        tells(6, x::many, 1, x.family(31));
        tells(1, x::many, 0, x.family(16));
    }

    private static int judged(int set, int... parents) {
        lay(0, parents);
        return x.judge(set, 0);
    }

    private static void judge() {
        edge(37, "the sum told by asked(): NONE; else the SHEET.");
        kin(3);
        tells(0, x::asked, NONE, judged(1, NONE));
        tells(1 + 3, x::asked, NONE, judged(7, NONE, 0, 1));
        tells(3, x::asked, NONE, judged(6, NONE, 1));
        due(2, judged(7, NONE, 0, NONE));
        due(0, x.asked());
        due(1, judged(2, 0));

        edge(37, "BAD");
        refuses(BAD, () -> x.judge(1, 0));
        kin(3);
        lay(0, NONE, 0, 0);
        for (int set : new int[] {0, 8, 15, -1, LEAST, MOST}) refuses(BAD, () -> x.judge(set, 0));
        for (int r : NO_ROWS) refuses(BAD, () -> x.judge(7, r));
        refuses(BAD, () -> x.judge(8, 1));
        refuses(BAD, () -> x.judge(3, 6));

        edge(37, "SPENT");
        sing(0, "a");
        plainSheets(11);
        tells(0, x::asked, NONE, judged(0x3ff, NONE, 0, 0, 0, 0, 0, 0, 0, 0, 8));
        lay(0, NONE, 0, 0, 0, 0, 0, 0, 0, 0, 0, 0);
        refuses(SPENT, () -> x.judge(0x7ff, 0));
        refuses(SPENT, () -> x.judge(0x7ff, 1));
        x.row(1, 3);
        refuses(SPENT, () -> x.judge(0x7ff, 1));
        refuses(BAD, () -> x.judge(0xfff, 0));
        x.sheet(0, NONE, 1, 0);
        refuses(SPENT, () -> x.judge(0xffe, 0));

        edge(37, "NOTHING: also the ROW");
        kin(3);
        finds(NOTHING, () -> x.judge(7, 0));
        finds(NOTHING, () -> x.judge(7, 5));
        x.sheet(0, NONE, 9, 0);
        finds(NOTHING, () -> x.judge(15, 0));
        x.row(0, 4);
        finds(NOTHING, () -> x.judge(15, 0));
        x.row(0, 3);
        finds(NOTHING, () -> x.judge(15, 0));

        edge(37, "SIZE: not as many");
        kin(3);
        for (int n : new int[] {0, 2, 4, 40}) {
            x.row(0, n);
            finds(SIZE, () -> x.judge(7, 0));
        }
        x.row(0, 3);
        due(0, x.judge(7, 0));

        edge(37, "STATE. (STATE behind SIZE.)");
        kin(3);
        x.block(0, 0, 0);
        x.block(1, 0, 1);
        x.span(0, 1601, 1700);
        x.span(1, 1500, 1600);
        lay(0, NONE, 0, 0);
        refuses(STATE, () -> x.judge(7, 0));
        finds(SIZE, () -> x.judge(3, 0));
        finds(NOTHING, () -> x.judge(7, 1));
        refuses(BAD, () -> x.judge(0, 0));
        x.sheet(0, NONE, 9, 0);
        finds(NOTHING, () -> x.judge(15, 0));
        x.span(1, 1500, 1601);
        due(NONE, judged(7, 2, 0, NONE));
    }

    private static void whichParents() {
        terms("A ROW of PARENTS (by SHEETS in order of their numbers; NONE: the root) is JUDGED");
        kin(6);
        tells(1 + 3, x::asked, NONE, judged(0x2a, NONE, 1, 3));
        tells(1 + 3, x::asked, NONE, judged(0x2a, NONE, 1, 1));
        tells(0, x::asked, NONE, judged(0x20, NONE));

        terms("the first SHEET of which the PARENT is none of the set, or itself, or not ahead of it in that order");
        kin(6);
        for (int none : new int[] {0, 2, 4, 6, 19, 20, 31, 32, 33, -1, LEAST, MOST}) due(3, judged(0x2a, NONE, none, 1));
        due(3, judged(0x2a, NONE, 3, 1));
        due(3, judged(0x2a, NONE, 5, 1));
        due(1, judged(0x2a, 1, 1, 1));
        due(1, judged(0x2a, 3, 1, 1));
        due(3, judged(0x2a, NONE, 5, 5));
        due(5, judged(0x2a, NONE, 1, 5));
        due(0, judged(1, 0));

        terms("or (NONE) that is not the first; else the sum");
        kin(6);
        due(3, judged(0x2a, NONE, NONE, 1));
        due(5, judged(0x2a, NONE, 1, NONE));
        x.span(5, 1500, 1500);
        x.span(1, 1501, 1501);
        x.span(3, 1501, 1501);
        due(1, judged(0x2a, NONE, 1, NONE));
        due(3, judged(0x2a, 5, NONE, NONE));
        due(5, judged(0x2a, 5, 1, 1));
        due(1, judged(0x2a, 3, 5, NONE));
        tells(3 + 1, x::asked, NONE, judged(0x2a, 5, 1, NONE));
        tells(3 + 3, x::asked, NONE, judged(0x2a, 5, 5, NONE));
    }

    private static void would(int first, int second, int answer, long upper, long lower) {
        x.type(0, 0, first);
        x.type(1, 0, second);
        due(answer, x.taken(0, 1));
        fraction(upper, lower);
    }

    private static void taken() {
        edge(38, "Whether two SHEETS are TAKEN from one another: 1, 0; WOULD told by upper(), lower().");
        plainSheets(2);
        would(7, 7, 1, 1, 560);
        due(1, x.taken(1, 0));
        would(7, 3, 0, 1, 40);
        due(0, x.taken(1, 0));
        fraction(1, 40);

        edge(38, "BAD: also the same one.");
        plainSheets(2);
        x.type(0, 0, 7);
        x.type(1, 0, 7);
        x.taken(0, 1);
        refuses(BAD, () -> x.taken(0, 0));
        refuses(BAD, () -> x.taken(1, 1));
        for (int s : new int[] {-1, 2, NONE, LEAST, MOST}) refuses(BAD, () -> x.taken(s, 0));
        for (int s : new int[] {-1, 2, NONE, LEAST, MOST}) refuses(BAD, () -> x.taken(0, s));

        terms("if they share S SLIPS at least");
        plainSheets(2);
        x.type(0, 0, 0xffff);
        x.type(1, 0, 0x8001);
        due(0, x.taken(0, 1));
        x.type(1, 0, 0x8003);
        due(1, x.taken(0, 1));
        rule("S4", 1);
        due(1, x.taken(0, 1));
        x.later(1);
        due(0, x.taken(0, 1));
        rule("S16", 1);
        x.type(1, 0, 0xfffe);
        due(0, x.taken(0, 1));
        x.type(1, 0, 0xffff);
        due(1, x.taken(0, 1));
        rule("S17", 1);
        due(0, x.taken(0, 1));
        rule("S0", 1);
        due(1, x.taken(0, 1));
        x.type(1, 0, 0);
        due(1, x.taken(0, 1));
        x.type(0, 0, 0);
        due(1, x.taken(0, 1));

        terms("of all ways to choose as many of 16 SLIPS as the second one has how many share as many with the first one, or more, by all");
        plainSheets(2);
        would(0, 0, 0, 1, 1);
        would(0, 0xffff, 0, 1, 1);
        would(0xffff, 0, 0, 1, 1);
        would(0xffff, 0xffff, 1, 1, 1);
        would(0x0001, 0x0001, 0, 1, 16);
        would(0x0001, 0x0002, 0, 1, 1);
        would(0x7fff, 0x4000, 0, 15, 16);
        would(0x7fff, 0x8000, 0, 1, 1);
        would(0x7fff, 0x7fff, 1, 1, 16);
        would(0x7fff, 0xfffe, 1, 1, 1);
        would(0xff, 0xff, 1, 1, 12870);
        would(0xff, 0x1fe, 1, (1 + 8 * 8) / 65, 12870 / 65);
    }

    private static void register() {
        edge(39, "An entry of THE REGISTER: how many.");
        due(1, x.register(0, 0, 1500));
        due(2, x.register(9, 7, 1899));
        due(3, x.register(9, 7, 1899));
        due(3, x.count(5));

        edge(39, "BAD");
        for (int song : NO_SONGS) refuses(BAD, () -> x.register(song, 0, 1600));
        for (int p : new int[] {-1, 8, NONE, LEAST, MOST}) refuses(BAD, () -> x.register(0, p, 1600));
        for (int year : NO_YEARS) refuses(BAD, () -> x.register(0, 0, year));

        edge(39, "FULL");
        for (int k = 1; k <= 40; k++) due(k, x.register(0, 0, 1600));
        refuses(FULL, () -> x.register(0, 0, 1600));
        refuses(FULL, () -> x.register(9, 7, 1899));
        refuses(BAD, () -> x.register(10, 0, 1600));
        refuses(BAD, () -> x.register(0, 8, 1600));
        refuses(BAD, () -> x.register(0, 0, 1499));

        terms("THE REGISTER (40 entries at most): SONG, PRINTER, year.");
        for (int k = 1; k <= 39; k++) x.register(0, 0, 1500);
        due(40, x.register(9, 7, 1899));
        due(7, x.right(9, 1899));
        due(FULL, x.register(8, 7, 1899));
        due(NONE, x.right(8, 1899));
        due(40, x.count(5));
    }

    private static void right() {
        edge(40, "Who has the RIGHT to a SONG in a year; NONE.");
        due(NONE, x.right(0, 1500));
        due(NONE, x.right(9, 1899));
        x.register(9, 7, 1899);
        x.register(0, 0, 1500);
        due(7, x.right(9, 1899));
        due(NONE, x.right(9, 1898));
        due(0, x.right(0, 1500));
        due(NONE, x.right(1, 1500));

        edge(40, "BAD");
        for (int song : NO_SONGS) refuses(BAD, () -> x.right(song, 1600));
        for (int year : NO_YEARS) refuses(BAD, () -> x.right(0, year));
    }

    private static void whoseRight() {
        terms("of entries of it in that year or ahead of it, by years (as told, if alike)");
        x.register(0, 2, 1700);
        x.register(0, 1, 1600);
        x.register(0, 3, 1600);
        x.register(0, 4, 1599);
        due(NONE, x.right(0, 1598));
        due(4, x.right(0, 1599));
        due(4, x.right(0, 1600));
        terms("by years (as told, if alike)");
        x.register(0, 2, 1700);
        x.register(0, 3, 1600);
        x.register(0, 1, 1600);
        due(NONE, x.right(0, 1599));
        due(3, x.right(0, 1600));
        due(2, x.right(0, 1700));
        x.register(0, 5, 1699);
        due(NONE, x.right(0, 1698));
        due(5, x.right(0, 1700));

        terms("the first entry has it for R years from its own on (its year and R, that year no more)");
        x.register(0, 1, 1600);
        due(1, x.right(0, 1600));
        due(1, x.right(0, 1620));
        due(NONE, x.right(0, 1621));
        rule("R1", 0);
        due(1, x.right(0, 1600));
        due(NONE, x.right(0, 1601));
        rule("R0", 0);
        due(NONE, x.right(0, 1600));
        rule("R299", 0);
        due(1, x.right(0, 1898));
        due(NONE, x.right(0, 1899));
        rule("R999", 0);
        due(1, x.right(0, 1899));

        terms("an entry by another one meanwhile counts for nothing");
        x.register(0, 1, 1600);
        x.register(0, 2, 1600);
        x.register(0, 3, 1620);
        due(1, x.right(0, 1600));
        due(1, x.right(0, 1620));
        due(NONE, x.right(0, 1621));
        due(NONE, x.right(0, 1630));

        terms("one by the same meanwhile has it R years from that entry on");
        x.register(0, 1, 1600);
        x.register(0, 1, 1620);
        x.register(0, 2, 1640);
        due(1, x.right(0, 1620));
        due(1, x.right(0, 1621));
        due(1, x.right(0, 1640));
        due(NONE, x.right(0, 1641));
        x.register(0, 1, 1601);
        due(1, x.right(0, 1640));
        due(NONE, x.right(0, 1641));

        terms("later ones anew");
        x.register(0, 1, 1600);
        x.register(0, 2, 1621);
        x.register(0, 1, 1622);
        due(1, x.right(0, 1620));
        due(2, x.right(0, 1621));
        due(2, x.right(0, 1641));
        due(NONE, x.right(0, 1642));
        x.register(0, 1, 1643);
        due(NONE, x.right(0, 1642));
        due(1, x.right(0, 1643));
        terms("later ones anew");
        rule("R0", 0);
        x.register(0, 1, 1600);
        x.register(0, 2, 1600);
        due(NONE, x.right(0, 1600));

        terms("R as IN FORCE for TODAY, as known on it.");
        x.register(0, 1, 1600);
        x.register(0, 2, 1605);
        rule("R5", 2);
        due(1, x.right(0, 1605));
        x.later(1);
        due(1, x.right(0, 1605));
        x.later(1);
        due(2, x.right(0, 1605));
        due(1, x.right(0, 1604));
    }

    private static void join() {
        edge(41, "Whether two HALVES JOIN: 2 SURE, 1 MAY, 0.");
        half(0, 0, 1, 5);
        half(0, 0, 5, 1);
        half(0, 0, 5, 2);
        half(0, 0, 5, 3);
        joins(0, 1, 2);
        joins(0, 2, 1);
        joins(0, 3, 0);

        edge(41, "BAD: also the same one");
        half(0, 0, 1);
        half(0, 0, 1);
        plainSheets(1);
        refuses(BAD, () -> x.join(0, 0));
        refuses(BAD, () -> x.join(2, 2));
        for (int s : new int[] {-1, 3, NONE, LEAST, MOST}) refuses(BAD, () -> x.join(s, 0));
        for (int s : new int[] {-1, 3, NONE, LEAST, MOST}) refuses(BAD, () -> x.join(0, s));
        due(2, x.join(0, 1));

        edge(41, "UNLIKE: either is no HALF.");
        half(0, 0, 1);
        for (int kind : new int[] {0, 1, 3, 4, 5, 6}) {
            int s = x.sheet(kind, 0, 0, 0);
            finds(UNLIKE, () -> x.join(0, s));
            finds(UNLIKE, () -> x.join(s, 0));
        }
        finds(UNLIKE, () -> x.join(1, 2));

        terms("if both cuts (ROWS that they were told with) have as many places, and the sums of places i of both are all alike");
        half(0, 0);
        half(0, 0);
        half(0, 0, 7);
        half(0, 0, -100);
        half(0, 0, 7, 7);
        half(0, 0, 0, 0, 0);
        joins(0, 1, 2);
        joins(2, 3, 2);
        joins(0, 2, 0);
        joins(2, 4, 0);
        joins(4, 5, 0);
        x.row(5, 40);
        for (int i = 0; i < 40; i++) x.lay(5, i, i);
        int one = x.sheet(2, 0, 0, 5);
        for (int i = 0; i < 40; i++) x.lay(5, i, -i);
        int other = x.sheet(2, 0, 0, 5);
        x.lay(5, 39, 0);
        int off = x.sheet(2, 0, 0, 5);
        joins(one, other, 2);
        joins(one, off, 0);

        terms("SURE, if so, with the same SONG and BROKEN letters");
        half(0, 0, 1, 5);
        half(7, 0, 5, 1);
        half(0, 9, 5, 1);
        joins(0, 1, 2);
        joins(0, 2, 0);
        x.type(0, 1, 9);
        joins(0, 1, 1);
        x.type(1, 1, 0);
        joins(0, 1, 2);

        terms("MAY, if these sums are off the first one by C at most each, with the same SONG.");
        half(0, 0, 0, 0, 0);
        half(0, 0, 10, 11, 9);
        half(0, 0, 10, 12, 10);
        half(0, 0, 10, 10, 8);
        half(0, 9, 10, 11, 9);
        joins(0, 1, 1);
        joins(0, 2, 0);
        joins(0, 3, 0);
        joins(0, 4, 0);
        rule("C2", 1);
        joins(0, 2, 0);
        x.later(1);
        joins(0, 2, 1);
        joins(0, 3, 1);
        rule("C0", 1);
        joins(0, 1, 0);
        half(0, 0, 5, 5, 5);
        joins(0, 5, 2);
        x.type(0, 1, 0);
        joins(0, 5, 1);

        terms("the sums of places i of both are all alike");
        half(0, 0, MOST, -1);
        half(0, 0, MOST, -1);
        half(0, 0, LEAST, MOST);
        half(0, 0, LEAST, MOST);
        half(0, 0, MOST, LEAST);
        half(0, 0, LEAST, 0);
        joins(0, 1, 0);
        joins(2, 3, 0);
        joins(2, 4, 2);
        joins(4, 5, 0);
        rule("C999", 0);
        joins(0, 1, 0);
        joins(2, 3, 0);
    }

    private static void joins(int s, int t, int answer) {
        due(answer, x.join(s, t));
        due(answer, x.join(t, s));
    }
}
