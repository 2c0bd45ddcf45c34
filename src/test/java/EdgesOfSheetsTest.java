import java.io.IOException;

/** Edges of printers, sheets and their marks: promises 21 to 27, and what Terms say of them. */
public final class EdgesOfSheetsTest extends Edges {
    private static final int[] NO_ROWS = {-1, 6, NONE, LEAST, MOST};
    private static final int[] NO_YEARS = {1499, 1900, 0, -1, LEAST, MOST};

    public static void main(String[] args) throws IOException {
        begin(args);
        printer();
        sheet();
        kinds();
        block();
        type();
        span();
        told();
        mark();
        marksByKind();
        end(21, 27);
    }

    private static void printer() {
        edge(21, "A PRINTER's from and till (not above it): 1.");
        due(1, x.printer(0, 1500, 1500));
        due(1, x.printer(7, 1899, 1899));
        due(1, x.printer(3, 1500, 1899));
        due(1, x.printer(3, 1600, 1601));
        refuses(BAD, () -> x.printer(3, 1601, 1600));
        refuses(BAD, () -> x.printer(3, 1899, 1500));
        x.sheet(0, 3, 0, 0);
        due(1600, x.year(0, false));

        edge(21, "BAD");
        for (int p : new int[] {-1, 8, NONE, LEAST, MOST}) refuses(BAD, () -> x.printer(p, 1600, 1600));
        for (int year : NO_YEARS) refuses(BAD, () -> x.printer(0, year, 1600));
        for (int year : NO_YEARS) refuses(BAD, () -> x.printer(0, 1600, year));
        refuses(BAD, () -> x.printer(0, NONE, NONE));

        terms("PRINTERS have a from and a till (1500 .. 1899), or none (at first)");
        for (int p = 0; p < 8; p++) x.sheet(0, p, 0, 0);
        for (int p = 0; p < 8; p++) due(1500, x.year(p, false));
        for (int p = 0; p < 8; p++) due(1999, x.year(p, true));
        x.printer(7, 1899, 1899);
        due(1899, x.year(7, false));
        due(1901, x.year(7, true));
        x.printer(0, 1500, 1500);
        due(1500, x.year(0, false));
        due(1502, x.year(0, true));
        due(1500, x.year(1, false));
        due(1999, x.year(6, true));
    }

    private static void sheet() {
        edge(22, "its number");
        for (int kind : new int[] {0, 1, 3, 4, 5, 6}) due(x.count(3), x.sheet(kind, NONE, 0, 0));
        x.row(0, 0);
        due(6, x.sheet(2, 0, 0, 0));
        due(7, x.sheet(0, 7, 9, 0));

        for (int kind : new int[] {0, 1, 3, 4, 5, 6}) {
            edge(22, "(a HALF: of a ROW that is its cut, else r is not looked at)");
            for (int r : NO_ROWS) due(x.count(3), x.sheet(kind, 0, 0, r));
            due(5, x.sheet(kind, 0, 0, 0));
        }
        edge(22, "a ROW that is its cut");
        lay(0, 4, 5, 6);
        due(0, x.sheet(2, 0, 0, 0));
        x.tear(0);
        due(3, x.mark(0, 2));
        long before = x.digest();
        x.row(0, 1);
        x.tear(0);
        due(before, x.digest());
        x.row(0, 40);
        due(1, x.sheet(2, 0, 0, 0));
        x.lay(0, 0, 9);
        due(40, x.mark(1, 2));
        due(0, x.join(0, 1));

        edge(22, "BAD");
        x.row(0, 1);
        for (int kind : new int[] {-1, 7, NONE, LEAST, MOST}) refuses(BAD, () -> x.sheet(kind, 0, 0, 0));
        for (int p : new int[] {-1, 8, LEAST, MOST}) refuses(BAD, () -> x.sheet(0, p, 0, 0));
        for (int song : new int[] {-1, 10, NONE, LEAST, MOST}) refuses(BAD, () -> x.sheet(0, 0, song, 0));
        for (int r : NO_ROWS) refuses(BAD, () -> x.sheet(2, 0, 0, r));

        edge(22, "FULL");
        plainSheets(20);
        refuses(FULL, () -> x.sheet(0, 0, 0, 0));
        refuses(FULL, () -> x.sheet(2, 0, 0, 0));
        x.row(0, 1);
        refuses(FULL, () -> x.sheet(2, 0, 0, 0));
        refuses(BAD, () -> x.sheet(7, 0, 0, 0));
        refuses(BAD, () -> x.sheet(0, 8, 0, 0));
        refuses(BAD, () -> x.sheet(0, 0, 10, 0));
        refuses(BAD, () -> x.sheet(2, 0, 0, 6));

        edge(22, "NOTHING: the ROW");
        for (int r : new int[] {0, 1, 2, 3, 4, 5}) finds(NOTHING, () -> x.sheet(2, 0, 0, r));
        due(0, x.count(3));
        due(0, x.sheet(1, 0, 0, 0));

        terms("SHEETS 0, 1, .. (20 at most ever)");
        for (int s = 0; s < 20; s++) due(s, x.sheet(0, NONE, 0, 0));
        due(FULL, x.sheet(0, NONE, 0, 0));
        due(20, x.count(3));
        asks(0, x.told(19, 0));
        refuses(BAD, () -> x.told(20, 0));

        terms("Each has a PRINTER 0 .. 7 (NONE), a SONG's number (0 .. 9, there or not)");
        for (int p : new int[] {NONE, 0, 1, 2, 3, 4, 5, 6, 7}) asks(p, x.told(x.sheet(0, p, 0, 0), 1));
        for (int song = 0; song < 10; song++) asks(song, x.told(x.sheet(0, 0, song, 0), 2));
        sing(9, "a");
        asks(9, x.told(x.sheet(0, 0, 9, 0), 2));
    }

    private static void kinds() {
        terms("0 SHEET, 1 COPY (a SHEET), 2 HALF (a COPY), 3 STOLEN (a SHEET), 4 SLIP (a SHEET), 5 HEARD (a SHEET), 6 LOST (a HEARD one)");
        x.row(0, 1);
        for (int kind = 0; kind < 7; kind++) due(kind, x.sheet(kind, NONE, 0, 0));
        for (int s = 0; s < 7; s++) asks(s, x.told(s, 0));
        int[] above = {0, 0, 1, 0, 0, 0, 5};
        for (int s = 0; s < 7; s++) {
            for (int kind = 1; kind < 7; kind++) {
                boolean isOne = s == kind || above[s] == kind;
                due(isOne ? 1 : 0, x.mark(s, kind) == FINDING ? 0 : 1);
            }
        }
        due(UNLIKE, x.finding());
        due(42 - 8, x.findings(UNLIKE));
    }

    private static void block() {
        edge(23, "A SHEET shows a BLOCK (NONE: none) with CRACKS: 1.");
        plainSheets(1);
        asks(NONE, x.told(0, 3));
        asks(0, x.told(0, 4));
        for (int block = 0; block < 6; block++) {
            due(1, x.block(0, block, block));
            asks(block, x.told(0, 3));
            asks(block, x.told(0, 4));
        }
        due(1, x.block(0, NONE, 0));
        asks(NONE, x.told(0, 3));

        edge(23, "BAD");
        plainSheets(2);
        x.block(0, 1, 1);
        for (int s : new int[] {-1, 2, NONE, LEAST, MOST}) refuses(BAD, () -> x.block(s, 0, 0));
        for (int block : new int[] {-1, 6, LEAST, MOST}) refuses(BAD, () -> x.block(0, block, 0));
        for (int cracks : new int[] {-1, 4096, LEAST, MOST}) refuses(BAD, () -> x.block(0, 0, cracks));
        for (int cracks : new int[] {-1, 4096}) refuses(BAD, () -> x.block(0, NONE, cracks));

        terms("a BLOCK 0 .. 5 (NONE) with CRACKS (bits, 0 to 11)");
        plainSheets(1);
        for (int bit = 0; bit < 12; bit++) {
            due(1, x.block(0, 5, 1 << bit));
            asks(1 << bit, x.told(0, 4));
        }
        due(1, x.block(0, 0, 4095));
        asks(4095, x.told(0, 4));
        refuses(BAD, () -> x.block(0, 0, 1 << 12));
    }

    private static void type() {
        edge(24, "A SHEET shows BROKEN letters, SLIPS: 1.");
        plainSheets(1);
        asks(0, x.told(0, 5));
        asks(0, x.told(0, 6));
        due(1, x.type(0, 3, 5));
        asks(3, x.told(0, 5));
        asks(5, x.told(0, 6));
        due(1, x.type(0, 0, 0));
        asks(0, x.told(0, 5));

        edge(24, "BAD");
        plainSheets(2);
        x.type(0, 1, 2);
        for (int s : new int[] {-1, 2, NONE, LEAST, MOST}) refuses(BAD, () -> x.type(s, 0, 0));
        for (int bits : new int[] {-1, 65536, LEAST, MOST}) refuses(BAD, () -> x.type(0, bits, 0));
        for (int bits : new int[] {-1, 65536, LEAST, MOST}) refuses(BAD, () -> x.type(0, 0, bits));

        terms("BROKEN letters of its type (bits, 0 to 15), SLIPS (bits, 0 to 15)");
        plainSheets(1);
        for (int bit = 0; bit < 16; bit++) {
            due(1, x.type(0, 1 << bit, 1 << (15 - bit)));
            asks(1 << bit, x.told(0, 5));
            asks(1 << (15 - bit), x.told(0, 6));
        }
        due(1, x.type(0, 65535, 65535));
        asks(65535, x.told(0, 5));
        asks(65535, x.told(0, 6));
        refuses(BAD, () -> x.type(0, 1 << 16, 0));
        refuses(BAD, () -> x.type(0, 0, 1 << 16));
    }

    private static void span() {
        edge(25, "A SPAN of a SHEET is told by hand");
        plainSheets(1);
        due(1, x.span(0, 1500, 1899));
        asks(1500, x.told(0, 7));
        asks(1899, x.told(0, 8));
        due(1, x.span(0, 1899, 1899));
        due(1, x.span(0, 1500, 1500));
        asks(1500, x.told(0, 8));

        edge(25, "(from NONE: none, till is not looked at): 1.");
        plainSheets(1);
        for (int till : new int[] {LEAST, -1, 0, NONE, 1600, MOST}) {
            due(1, x.span(0, 1600, 1700));
            due(1, x.span(0, NONE, till));
            asks(NONE, x.told(0, 7));
            asks(NONE, x.told(0, 8));
        }
        due(1, x.span(0, NONE, 0));

        edge(25, "BAD");
        plainSheets(1);
        x.span(0, 1600, 1700);
        for (int s : new int[] {-1, 1, LEAST, MOST}) refuses(BAD, () -> x.span(s, 1600, 1600));
        for (int s : new int[] {-1, 1}) refuses(BAD, () -> x.span(s, NONE, 0));
        for (int year : NO_YEARS) refuses(BAD, () -> x.span(0, year, 1600));
        for (int year : NO_YEARS) refuses(BAD, () -> x.span(0, 1600, year));
        refuses(BAD, () -> x.span(0, 1600, NONE));
        refuses(BAD, () -> x.span(0, 1601, 1600));
        asks(1700, x.told(0, 8));

        terms("a SPAN of years told by hand (1500 .. 1899; none at first)");
        plainSheets(1);
        asks(NONE, x.told(0, 7));
        asks(NONE, x.told(0, 8));
        due(1999, x.year(0, true));
        due(1, x.span(0, 1500, 1899));
        due(1899, x.year(0, true));
        refuses(BAD, () -> x.span(0, 1499, 1899));
        refuses(BAD, () -> x.span(0, 1500, 1900));
    }

    private static void told() {
        edge(26, "0 its KIND, 1 PRINTER (NONE), 2 SONG, 3 BLOCK (NONE), 4 CRACKS, 5 BROKEN letters, 6 SLIPS, 7, 8 its SPAN (NONE)");
        x.sheet(4, NONE, 5, 0);
        int[] bare = {4, NONE, 5, NONE, 0, 0, 0, NONE, NONE};
        for (int what = 0; what < 9; what++) asks(bare[what], x.told(0, what));
        x.sheet(6, 7, 9, 0);
        x.block(1, 5, 4095);
        x.type(1, 65535, 65534);
        x.span(1, 1500, 1899);
        int[] full = {6, 7, 9, 5, 4095, 65535, 65534, 1500, 1899};
        for (int what = 0; what < 9; what++) asks(full[what], x.told(1, what));
        for (int what = 0; what < 9; what++) asks(bare[what], x.told(0, what));

        edge(26, "BAD");
        plainSheets(2);
        for (int s : new int[] {-1, 2, NONE, LEAST, MOST}) refuses(BAD, () -> x.told(s, 0));
        for (int what : new int[] {-1, 9, NONE, LEAST, MOST}) refuses(BAD, () -> x.told(0, what));
    }

    private static void mark() {
        edge(27, "BAD: also KIND 0");
        x.row(0, 1);
        for (int kind = 0; kind < 7; kind++) x.sheet(kind, NONE, 0, 0);
        for (int s : new int[] {0, 1, 2, 3, 4, 5, 6}) refuses(BAD, () -> x.mark(s, 0));
        for (int kind : new int[] {-1, 7, NONE, LEAST, MOST}) refuses(BAD, () -> x.mark(1, kind));
        for (int s : new int[] {-1, 7, NONE, LEAST, MOST}) refuses(BAD, () -> x.mark(s, 1));
        refuses(BAD, () -> x.mark(7, 0));

        edge(27, "UNLIKE");
        x.row(0, 1);
        for (int kind = 0; kind < 7; kind++) x.sheet(kind, NONE, 0, 0);
        for (int kind : new int[] {1, 2, 3, 4, 5, 6}) finds(UNLIKE, () -> x.mark(0, kind));
        finds(UNLIKE, () -> x.mark(1, 2));
        finds(UNLIKE, () -> x.mark(5, 6));
        finds(UNLIKE, () -> x.mark(3, 1));
        finds(UNLIKE, () -> x.mark(4, 5));
        finds(UNLIKE, () -> x.mark(6, 1));
        finds(UNLIKE, () -> x.mark(2, 5));
    }

    private static void marksByKind() {
        edge(27, "a COPY (HALF, too) how many COPIES and HALVES have its SONG and PRINTER (itself, too)");
        x.sheet(1, 1, 1, 0);
        due(1, x.mark(0, 1));
        half(1, 1, 5);
        due(2, x.mark(0, 1));
        due(2, x.mark(1, 1));
        x.sheet(1, 2, 1, 0);
        x.sheet(1, 1, 2, 0);
        for (int kind : new int[] {0, 3, 4, 5, 6}) x.sheet(kind, 1, 1, 0);
        due(2, x.mark(0, 1));
        x.sheet(1, NONE, 1, 0);
        due(1, x.mark(9, 1));
        x.sheet(1, NONE, 1, 0);
        due(2, x.mark(9, 1));
        due(2, x.mark(0, 1));
        edge(27, "how many COPIES and HALVES have its SONG and PRINTER");
        for (int s = 0; s < 20; s++) x.sheet(1, 7, 9, 0);
        due(20, x.mark(19, 1));

        edge(27, "a HALF how many places its cut has");
        due(0, half(0, 0));
        due(0, x.mark(0, 2));
        x.row(1, 40);
        due(1, x.sheet(2, 0, 0, 1));
        x.row(1, 3);
        due(40, x.mark(1, 2));

        edge(27, "a STOLEN one with how many SHEETS it shares S SLIPS (IN FORCE for TODAY, as known on it)");
        x.sheet(3, 0, 0, 0);
        due(0, x.mark(0, 3));
        plainSheets(3);
        x.type(0, 0, 0xf00f);
        x.type(1, 0, 0x0007);
        x.type(2, 0, 0x0003);
        x.type(3, 0, 0xffff);
        due(2, x.mark(0, 3));
        rule("S2", 1);
        due(2, x.mark(0, 3));
        x.later(1);
        due(3, x.mark(0, 3));
        rule("S8", 1);
        due(1, x.mark(0, 3));
        rule("S9", 1);
        due(0, x.mark(0, 3));
        rule("S0", 1);
        due(3, x.mark(0, 3));
        x.type(0, 0, 0);
        due(3, x.mark(0, 3));
        edge(27, "with how many SHEETS it shares S SLIPS");
        plainSheets(2);
        x.sheet(3, 0, 0, 0);
        for (int s = 0; s < 3; s++) x.type(s, 0, 7);
        due(2, x.mark(2, 3));
        x.type(0, 0, 3);
        due(1, x.mark(2, 3));

        edge(27, "a SLIP the day on which it was told");
        x.sheet(4, 0, 0, 0);
        due(0, x.mark(0, 4));
        x.later(999);
        x.sheet(4, 0, 0, 0);
        due(0, x.mark(0, 4));
        due(999, x.mark(1, 4));

        edge(27, "a HEARD (LOST) one how many SELLERS CAN have its SONG TODAY (on day 99, if TODAY is later)");
        x.sheet(5, NONE, 9, 0);
        x.sheet(6, NONE, 9, 0);
        lay(0, 4);
        for (int seller = 0; seller < 4; seller++) x.walk(seller, 0);
        due(0, x.mark(0, 5));
        x.sung(9, 4, 98);
        x.sung(8, 4, 0);
        x.later(97);
        due(0, x.mark(0, 5));
        x.later(1);
        due(4, x.mark(0, 5));
        due(4, x.mark(1, 5));
        edge(27, "(on day 99, if TODAY is later)");
        x.sheet(5, NONE, 0, 0);
        lay(0, 4);
        x.walk(0, 0);
        x.sung(0, 4, 99);
        x.later(98);
        due(0, x.mark(0, 5));
        x.later(1);
        due(1, x.mark(0, 5));
        x.later(1);
        due(1, x.mark(0, 5));
        x.later(899);
        due(1, x.mark(0, 5));

        edge(27, "a LOST one its entries in THE REGISTER (its SONG and PRINTER)");
        x.sheet(6, 7, 9, 0);
        x.sheet(6, NONE, 9, 0);
        due(0, x.mark(0, 6));
        x.register(9, 6, 1600);
        x.register(8, 7, 1600);
        due(0, x.mark(0, 6));
        for (int k = 0; k < 38; k++) x.register(9, 7, 1600);
        due(38, x.mark(0, 6));
        due(0, x.mark(1, 6));
        edge(27, "a LOST one its entries in THE REGISTER (its SONG and PRINTER)");
        x.sheet(6, 0, 0, 0);
        for (int k = 1; k <= 40; k++) {
            x.register(0, 0, 1600);
            due(k, x.mark(0, 6));
        }
    }
}
