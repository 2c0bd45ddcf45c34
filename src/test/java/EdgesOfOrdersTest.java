import java.io.IOException;

/** Edges of orders, years and doubts: promises 28 to 34, and what Terms say of them. */
public final class EdgesOfOrdersTest extends Edges {
    private static final long TWELVE = 479001600L;
    private static final int[] NO_BLOCKS = {-1, 6, NONE, LEAST, MOST};
    private static final int[] NO_ROWS = {-1, 6, NONE, LEAST, MOST};

    public static void main(String[] args) throws IOException {
        begin(args);
        ahead();
        aheadByWhat();
        quarrel();
        orders();
        whichOrders();
        standsAhead();
        judgeOrder();
        year();
        whichYears();
        yearsByWay();
        doubts();
        whichDoubts();
        end(28, 34);
    }

    private static void ahead(int s, int t, int there, int back) {
        due(there, x.ahead(s, t));
        due(back, x.ahead(t, s));
    }

    private static void ahead() {
        edge(28, "by a BLOCK 1, by type 2, both 3; 0");
        shown(1, 0, 1, 1);
        shown(2, 0, 3, 3);
        ahead(0, 1, 1, 0);
        shown(1, 1, 3, 3);
        ahead(0, 2, 2, 0);
        shown(1, 0, 3, 3);
        ahead(0, 3, 3, 0);
        shown(1, 0, 1, 1);
        ahead(0, 4, 0, 0);
        shown(3, 3, 3, 3);
        ahead(0, 5, 0, 0);

        edge(28, "they QUARREL: -10 by a BLOCK, -20 by type, -30 by both so");
        shown(1, 0, 1, 1);
        shown(2, 0, 2, 2);
        ahead(0, 1, -10, -10);
        shown(1, 0, 2, 1);
        ahead(0, 2, -10, -10);
        shown(1, 0, 2, 3);
        ahead(0, 3, -10, -10);
        shown(1, 0, 2, 0);
        ahead(0, 4, -10, -10);
        shown(1, 1, 2, 2);
        ahead(0, 5, -20, -20);
        shown(1, 0, 1, 2);
        ahead(0, 6, -20, -20);
        shown(1, 0, 3, 2);
        ahead(0, 7, -20, -20);
        shown(1, 0, 0, 2);
        ahead(0, 8, -20, -20);
        shown(1, 0, 2, 2);
        ahead(0, 9, -30, -30);

        edge(28, "-40: AHEAD by the BLOCK and behind by type, or the other way about");
        shown(1, 0, 1, 3);
        shown(1, 0, 3, 1);
        ahead(0, 1, -40, -40);
        shown(1, 0, 3, 3);
        ahead(0, 2, 1, 0);
        ahead(1, 2, 2, 0);
        shown(2, 0, 3, 1);
        ahead(0, 3, 1, 0);

        edge(28, "BAD answers -100: also the same one.");
        plainSheets(2);
        for (int s : new int[] {-1, 2, NONE, LEAST, MOST}) refuses(-100, () -> x.ahead(s, 0));
        for (int s : new int[] {-1, 2, NONE, LEAST, MOST}) refuses(-100, () -> x.ahead(0, s));
        refuses(-100, () -> x.ahead(0, 0));
        refuses(-100, () -> x.ahead(1, 1));
        refuses(-100, () -> x.ahead(2, 2));
        due(0, x.ahead(0, 1));
    }

    private static void aheadByWhat() {
        terms("of two SHEETS with the same BLOCK (not NONE) one is AHEAD of the other, if its CRACKS are all among the other's, and fewer");
        shown(NONE, 0, 0, 0);
        shown(NONE, 0, 1, 0);
        shown(NONE, 0, 4095, 0);
        shown(NONE, 0, 0, 0);
        shown(NONE, 5, 4095, 0);
        ahead(0, 1, 1, 0);
        ahead(1, 2, 1, 0);
        ahead(0, 2, 1, 0);
        ahead(0, 3, 0, 0);
        ahead(2, 4, 0, 0);
        ahead(0, 4, 0, 0);
        terms("of two SHEETS with the same BLOCK (not NONE)");
        shown(NONE, NONE, 0, 0);
        shown(NONE, NONE, 1, 0);
        shown(NONE, NONE, 2, 0);
        shown(NONE, 0, 4, 0);
        ahead(0, 1, 0, 0);
        ahead(1, 2, 0, 0);
        ahead(0, 3, 0, 0);
        ahead(2, 3, 0, 0);

        terms("by type: of two with the same PRINTER (not NONE) likewise by BROKEN letters");
        shown(7, NONE, 0, 0);
        shown(7, NONE, 0, 1);
        shown(7, NONE, 0, 65535);
        shown(7, NONE, 0, 0);
        shown(0, NONE, 0, 65535);
        ahead(0, 1, 2, 0);
        ahead(1, 2, 2, 0);
        ahead(0, 2, 2, 0);
        ahead(0, 3, 0, 0);
        ahead(0, 4, 0, 0);
        ahead(2, 4, 0, 0);
        terms("of two with the same PRINTER (not NONE)");
        shown(NONE, NONE, 0, 0);
        shown(NONE, NONE, 0, 1);
        shown(NONE, NONE, 0, 2);
        ahead(0, 1, 0, 0);
        ahead(1, 2, 0, 0);

        terms("if neither's CRACKS are all among the other's; by type likewise");
        shown(0, 5, 2048, 0);
        shown(0, 5, 2047, 0);
        ahead(0, 1, -10, -10);
        shown(7, 0, 0, 32768);
        shown(7, 0, 0, 32767);
        ahead(2, 3, -20, -20);

        terms("and if one is AHEAD by a BLOCK, the other by type");
        shown(7, 5, 0, 65535);
        shown(7, 5, 4095, 0);
        ahead(0, 1, -40, -40);
        due(1, x.quarrel());
        x.type(1, 65535, 0);
        ahead(0, 1, 1, 0);
        due(NONE, x.quarrel());
        x.type(0, 0, 0);
        x.block(0, 5, 4095);
        ahead(0, 1, 2, 0);
        due(NONE, x.quarrel());
    }

    private static void quarrel() {
        edge(29, "The first two SHEETS that QUARREL: 100 times the lesser one, and the other; NONE.");
        due(NONE, x.quarrel());
        for (int s = 0; s < 20; s++) shown(NONE, 0, 0, 0);
        due(NONE, x.quarrel());
        x.block(18, 0, 1);
        due(NONE, x.quarrel());
        x.block(19, 0, 2);
        due(1819, x.quarrel());
        x.block(17, 0, 1);
        due(1719, x.quarrel());
        x.block(3, 0, 2);
        due(317, x.quarrel());
        x.block(0, 0, 2);
        due(17, x.quarrel());
        x.block(1, 0, 1);
        due(1, x.quarrel());

        edge(29, "that QUARREL");
        shown(1, 0, 1, 3);
        shown(1, 0, 3, 1);
        due(1, x.quarrel());
        x.block(1, 1, 3);
        due(NONE, x.quarrel());
        x.type(1, 4, 0);
        due(1, x.quarrel());
    }

    private static void orders() {
        edge(30, "How many ORDERS the SHEETS with a BLOCK have, told by many(): how many SHEETS.");
        for (int block = 0; block < 6; block++) tells(1, x::many, 0, x.orders(block));
        shown(NONE, 5, 0, 0);
        tells(1, x::many, 1, x.orders(5));
        shown(NONE, 5, 0, 0);
        tells(2, x::many, 2, x.orders(5));
        tells(1, x::many, 0, x.orders(0));

        edge(30, "BAD");
        shown(NONE, 5, 0, 0);
        for (int block : NO_BLOCKS) refuses(BAD, () -> x.orders(block));

        edge(30, "BAD");
        // Sheets without a block are not ones of a block that is none.
        plainSheets(13);
        for (int block : NO_BLOCKS) refuses(BAD, () -> x.orders(block));

        edge(30, "SPENT: more than 12");
        for (int s = 0; s < 12; s++) shown(NONE, 5, 0, 0);
        tells(TWELVE, x::many, 12, x.orders(5));
        plainSheets(1);
        tells(TWELVE, x::many, 12, x.orders(5));
        x.block(12, 5, 0);
        refuses(SPENT, () -> x.orders(5));
        refuses(BAD, () -> x.orders(6));
        due(0, x.orders(4));
        for (int s = 13; s < 20; s++) shown(NONE, 5, 1 << (s - 13), 0);
        refuses(SPENT, () -> x.orders(5));
        for (int s = 0; s < 8; s++) x.block(s, 4, 0);
        due(12, x.orders(5));
    }

    private static void whichOrders() {
        terms("in which none stands behind one of which it is AHEAD by the BLOCK");
        shown(NONE, 0, 0, 0);
        shown(NONE, 0, 1, 0);
        shown(NONE, 0, 3, 0);
        tells(1, x::many, 3, x.orders(0));
        x.block(0, 0, 3);
        x.block(2, 0, 0);
        tells(1, x::many, 3, x.orders(0));
        x.block(1, 0, 4);
        tells(2, x::many, 3, x.orders(0));
        x.block(1, 0, 3);
        tells(2, x::many, 3, x.orders(0));

        terms("nor one with the same PRINTER behind one of which it is AHEAD by type");
        shown(1, 0, 0, 0);
        shown(1, 0, 0, 1);
        tells(1, x::many, 2, x.orders(0));
        shown(2, 0, 0, 3);
        tells(3, x::many, 3, x.orders(0));
        shown(NONE, 0, 0, 3);
        tells(12, x::many, 4, x.orders(0));
        // One on another block does not stand between them.
        shown(1, 1, 0, 0);
        tells(1, x::many, 1, x.orders(1));

        terms("(None, if that cannot be.)");
        shown(1, 0, 1, 3);
        shown(1, 0, 3, 1);
        tells(0, x::many, 2, x.orders(0));
        shown(2, 0, 7, 0);
        tells(0, x::many, 3, x.orders(0));
        due(1, x.standsAhead(0, 1));
        due(0, x.many());

        terms("ORDERS of the SHEETS with one BLOCK (12 at most)");
        for (int s = 0; s < 12; s++) shown(NONE, 0, (1 << s) - 1, 0);
        tells(1, x::many, 12, x.orders(0));
        for (int s = 0; s < 12; s++) x.block(s, 0, 1 << s);
        tells(TWELVE, x::many, 12, x.orders(0));
    }

    private static void standsAhead() {
        edge(31, "In how many of these a SHEET stands ahead of another one, told by many(): 1.");
        shown(NONE, 0, 0, 0);
        shown(NONE, 0, 1, 0);
        shown(NONE, 0, 0, 0);
        tells(2, x::many, 1, x.standsAhead(0, 1));
        tells(0, x::many, 1, x.standsAhead(1, 0));
        tells(1, x::many, 1, x.standsAhead(0, 2));
        tells(1, x::many, 1, x.standsAhead(2, 0));
        edge(31, "In how many of these a SHEET stands ahead of another one");
        for (int s = 0; s < 12; s++) shown(NONE, 5, 0, 0);
        tells(TWELVE / 2, x::many, 1, x.standsAhead(0, 11));
        tells(TWELVE / 2, x::many, 1, x.standsAhead(11, 0));

        edge(31, "BAD: also the same one");
        shown(NONE, 0, 0, 0);
        shown(NONE, 0, 0, 0);
        plainSheets(1);
        for (int s : new int[] {-1, 3, NONE, LEAST, MOST}) refuses(BAD, () -> x.standsAhead(s, 0));
        for (int s : new int[] {-1, 3, NONE, LEAST, MOST}) refuses(BAD, () -> x.standsAhead(0, s));
        refuses(BAD, () -> x.standsAhead(0, 0));
        refuses(BAD, () -> x.standsAhead(2, 2));
        due(1, x.standsAhead(0, 1));

        edge(31, "UNLIKE: not the same BLOCK, or none");
        shown(NONE, 0, 0, 0);
        shown(NONE, 5, 0, 0);
        shown(NONE, NONE, 0, 0);
        shown(NONE, NONE, 0, 0);
        finds(UNLIKE, () -> x.standsAhead(0, 1));
        finds(UNLIKE, () -> x.standsAhead(1, 0));
        finds(UNLIKE, () -> x.standsAhead(0, 2));
        finds(UNLIKE, () -> x.standsAhead(2, 0));
        finds(UNLIKE, () -> x.standsAhead(2, 3));

        edge(31, "SPENT. (SPENT behind UNLIKE.)");
        for (int s = 0; s < 13; s++) shown(NONE, 0, 0, 0);
        shown(NONE, 1, 0, 0);
        shown(NONE, 1, 0, 0);
        plainSheets(1);
        refuses(SPENT, () -> x.standsAhead(0, 12));
        finds(UNLIKE, () -> x.standsAhead(0, 13));
        finds(UNLIKE, () -> x.standsAhead(13, 0));
        finds(UNLIKE, () -> x.standsAhead(0, 15));
        refuses(BAD, () -> x.standsAhead(0, 0));
        refuses(BAD, () -> x.standsAhead(0, 16));
        tells(1, x::many, 1, x.standsAhead(13, 14));
        x.block(12, 1, 0);
        tells(TWELVE / 2, x::many, 1, x.standsAhead(0, 11));
    }

    private static int judged(int... sheets) {
        lay(0, sheets);
        return x.judgeOrder(0, 0);
    }

    private static void judgeOrder() {
        edge(32, "one that is not of the BLOCK");
        shown(NONE, 0, 0, 0);
        shown(NONE, 0, 0, 0);
        shown(NONE, 1, 0, 0);
        plainSheets(1);
        due(NONE, judged(0, 1));
        due(0, judged(2, 0));
        due(1, judged(0, 2));
        due(1, judged(0, 3));
        due(2, judged(1, 0, 2));
        due(0, judged(4));
        for (int s : new int[] {-1, 4, 20, 32, NONE, LEAST, MOST}) due(1, judged(0, s, 1));

        edge(32, "or came ahead in the ROW");
        shown(NONE, 0, 0, 0);
        shown(NONE, 0, 0, 0);
        due(1, judged(0, 0));
        due(2, judged(0, 1, 0));
        due(2, judged(1, 0, 0));
        due(NONE, judged(1, 0));

        edge(32, "or behind one of which it is AHEAD");
        shown(NONE, 0, 0, 0);
        shown(NONE, 0, 1, 0);
        shown(NONE, 0, 3, 0);
        due(NONE, judged(0, 1, 2));
        due(1, judged(1, 0, 2));
        due(2, judged(0, 2, 1));
        due(2, judged(1, 2, 0));
        edge(32, "or behind one of which it is AHEAD");
        shown(1, 0, 0, 0);
        shown(1, 0, 0, 1);
        shown(2, 0, 0, 3);
        due(NONE, judged(0, 1, 2));
        due(NONE, judged(2, 0, 1));
        due(1, judged(1, 0, 2));
        edge(32, "or behind one of which it is AHEAD");
        shown(1, 0, 1, 3);
        shown(1, 0, 3, 1);
        due(1, judged(0, 1));
        due(1, judged(1, 0));

        edge(32, "its size, if SHEETS are left out; NONE: it is one.");
        shown(NONE, 0, 0, 0);
        shown(NONE, 0, 0, 0);
        due(0, judged());
        due(1, judged(0));
        due(1, judged(1));
        due(NONE, judged(0, 1));
        due(NONE, x.judgeOrder(0, 0));
        x.row(0, 0);
        due(NONE, x.judgeOrder(5, 0));
        edge(32, "its size, if SHEETS are left out");
        for (int s = 0; s < 20; s++) shown(NONE, 0, 0, 0);
        x.row(0, 20);
        for (int s = 0; s < 20; s++) x.lay(0, s, 19 - s);
        due(NONE, x.judgeOrder(0, 0));
        x.row(0, 19);
        for (int s = 0; s < 19; s++) x.lay(0, s, s);
        due(19, x.judgeOrder(0, 0));
        x.row(0, 40);
        for (int s = 0; s < 20; s++) x.lay(0, s, s);
        due(20, x.judgeOrder(0, 0));

        edge(32, "BAD");
        x.row(0, 0);
        for (int block : NO_BLOCKS) refuses(BAD, () -> x.judgeOrder(block, 0));
        for (int r : NO_ROWS) refuses(BAD, () -> x.judgeOrder(0, r));
        refuses(BAD, () -> x.judgeOrder(6, 1));

        edge(32, "NOTHING");
        finds(NOTHING, () -> x.judgeOrder(0, 0));
        finds(NOTHING, () -> x.judgeOrder(5, 5));
    }

    private static void years(int s, int least, int most) {
        due(least, x.year(s, false));
        due(most, x.year(s, true));
    }

    private static void year() {
        edge(33, "the least (most: the greatest); NONE: there are none.");
        shown(NONE, 0, 0, 0);
        shown(NONE, 0, 1, 0);
        plainSheets(1);
        x.span(0, 1600, 1610);
        x.span(1, 1610, 1620);
        years(0, 1600, 1610);
        years(1, 1610, 1620);
        x.span(1, 1580, 1599);
        for (int s = 0; s < 3; s++) years(s, NONE, NONE);
        x.span(1, 1580, 1600);
        years(0, 1600, 1600);
        years(1, 1600, 1600);
        years(2, 1500, 1999);

        edge(33, "BAD");
        for (int s : new int[] {-1, 0, 1, NONE, LEAST, MOST}) refuses(BAD, () -> x.year(s, false));
        plainSheets(1);
        for (int s : new int[] {-1, 1, 20, NONE, LEAST, MOST}) refuses(BAD, () -> x.year(s, true));
        years(0, 1500, 1999);
        edge(33, "BAD");
        shown(NONE, 0, 0, 0);
        shown(NONE, 0, 1, 0);
        x.span(0, 1601, 1601);
        x.span(1, 1600, 1600);
        due(NONE, x.year(0, true));
        for (int s : new int[] {-1, 2, 20, NONE, LEAST, MOST}) refuses(BAD, () -> x.year(s, true));
    }

    private static void whichYears() {
        terms("a year (1500 .. 1999) for each");
        x.sheet(0, 0, 0, 0);
        years(0, 1500, 1999);
        x.printer(0, 1899, 1899);
        rule("D99", 0);
        years(0, 1899, 1998);
        rule("D100", 0);
        years(0, 1899, 1999);
        rule("D101", 0);
        years(0, 1899, 1999);
        rule("D999", 0);
        years(0, 1899, 1999);

        terms("it is within its told SPAN");
        plainSheets(1);
        x.span(0, 1500, 1500);
        years(0, 1500, 1500);
        x.span(0, 1899, 1899);
        years(0, 1899, 1899);
        x.span(0, 1600, 1601);
        years(0, 1600, 1601);

        terms("with a PRINTER that has from and till, it is from that from to till and D (IN FORCE for TODAY, as known on it)");
        x.sheet(0, 0, 0, 0);
        x.printer(0, 1600, 1650);
        years(0, 1600, 1652);
        x.span(0, 1652, 1700);
        years(0, 1652, 1652);
        x.span(0, 1653, 1700);
        years(0, NONE, NONE);
        x.span(0, 1550, 1600);
        years(0, 1600, 1600);
        x.span(0, 1550, 1599);
        years(0, NONE, NONE);
        x.span(0, NONE, 0);
        rule("D0", 3);
        years(0, 1600, 1652);
        x.later(2);
        years(0, 1600, 1652);
        x.later(1);
        years(0, 1600, 1650);

        terms("if one is AHEAD of another one (by BLOCK or type) its year is no greater");
        shown(NONE, 0, 0, 0);
        shown(1, 0, 1, 0);
        shown(1, NONE, 0, 1);
        x.span(1, 1700, 1710);
        years(0, 1500, 1710);
        years(2, 1700, 1999);
        x.span(2, 1600, 1700);
        years(1, 1700, 1700);
        x.span(0, 1701, 1701);
        years(0, NONE, NONE);
        x.span(1, NONE, 0);
        years(2, NONE, NONE);
        x.span(0, 1700, 1701);
        years(0, 1700, 1700);
        years(1, 1700, 1700);
        years(2, 1700, 1700);
        terms("if one is AHEAD of another one (by BLOCK or type) its year is no greater");
        shown(1, 0, 1, 1);
        shown(1, 0, 3, 0);
        x.span(0, 1600, 1620);
        x.span(1, 1610, 1630);
        years(0, 1610, 1620);
        years(1, 1610, 1620);
        terms("if one is AHEAD of another one (by BLOCK or type) its year is no greater");
        for (int s = 0; s < 12; s++) shown(NONE, 0, (1 << (11 - s)) - 1, 0);
        for (int s = 12; s < 20; s++) shown(NONE, 0, 4095, 0);
        x.span(11, 1700, 1700);
        years(0, 1700, 1999);
        years(19, 1700, 1999);
        x.span(19, 1800, 1800);
        years(0, 1700, 1800);
        years(12, 1700, 1999);
    }

    /** What is ahead by way of one between them, wherever that one lies, and no longer than it is so. */
    private static void yearsByWay() {
        for (int between = 0; between < 3; between++) {
            terms("if one is AHEAD of another one (by BLOCK or type) its year is no greater");
            int[] place = {(between + 1) % 3, between, (between + 2) % 3};
            for (int s = 0; s < 3; s++) x.sheet(0, s == place[0] ? NONE : 4, 0, 0);
            x.block(place[0], 0, 0);
            x.block(place[1], 0, 1);
            x.type(place[2], 1, 0);
            due(0, x.ahead(place[0], place[2]));
            x.span(place[0], 1600, 1700);
            years(place[2], 1600, 1999);
            x.span(place[2], 1500, 1650);
            years(place[0], 1600, 1650);
            x.block(place[1], 1, 1);
            years(place[2], 1500, 1650);
            years(place[0], 1600, 1700);
            x.span(place[2], 1500, 1599);
            years(place[2], 1500, 1599);
            due(0, x.doubts());
        }
    }

    private static void doubts() {
        edge(34, "DOUBTS (bits of SHEETS); 0: there are YEARS");
        due(0, x.doubts());
        plainSheets(1);
        due(0, x.doubts());
        x.span(0, 1500, 1500);
        due(0, x.doubts());
        x.block(0, 0, 0);
        shown(NONE, 0, 1, 0);
        due(0, x.doubts());
        x.span(0, 1501, 1501);
        x.span(1, 1501, 1501);
        due(0, x.doubts());
        x.span(1, 1500, 1500);
        due(1, x.doubts());

        edge(34, "NONE: not even without all SPANS.");
        x.printer(0, 1700, 1710);
        x.printer(1, 1600, 1697);
        shown(0, 0, 0, 0);
        shown(1, 0, 1, 0);
        due(NONE, x.doubts());
        for (int s = 0; s < 2; s++) x.span(s, 1650, 1650);
        due(NONE, x.doubts());
        plainSheets(8);
        for (int s = 2; s < 10; s++) x.span(s, 1650, 1650);
        due(NONE, x.doubts());
        x.printer(1, 1600, 1698);
        due(3, x.doubts());
        for (int s = 0; s < 2; s++) x.span(s, NONE, 0);
        due(0, x.doubts());

        edge(34, "SPENT: there are none, and more than 10 SHEETS have a SPAN.");
        for (int s = 0; s < 12; s++) shown(NONE, 0, 1 << s, 0);
        for (int s = 0; s < 12; s++) x.span(s, 1600, 1600);
        due(0, x.doubts());
        shown(NONE, 0, 0, 0);
        due(0, x.doubts());
        x.span(12, 1601, 1601);
        refuses(SPENT, x::doubts);
        x.span(0, NONE, 0);
        refuses(SPENT, x::doubts);
        x.span(1, NONE, 0);
        refuses(SPENT, x::doubts);
        x.span(2, NONE, 0);
        due(1 << 12, x.doubts());
        edge(34, "more than 10 SHEETS have a SPAN");
        for (int s = 0; s < 11; s++) shown(NONE, 0, s == 10 ? 0 : 1, 0);
        for (int s = 0; s < 10; s++) x.span(s, 1600, 1600);
        x.span(10, 1601, 1601);
        refuses(SPENT, x::doubts);
        x.span(0, NONE, 0);
        due(1 << 10, x.doubts());
        edge(34, "more than 10 SHEETS have a SPAN");
        x.printer(0, 1700, 1710);
        x.printer(1, 1600, 1610);
        shown(0, 0, 0, 0);
        shown(1, 0, 1, 0);
        plainSheets(11);
        for (int s = 2; s < 12; s++) x.span(s, 1650, 1650);
        due(NONE, x.doubts());
        x.span(12, 1650, 1650);
        refuses(SPENT, x::doubts);
    }

    private static void whichDoubts() {
        terms("the fewest told SPANS (of those SHEETS that have one) without which there are");
        for (int s = 0; s < 12; s++) shown(NONE, 0, (1 << s) - 1, 0);
        x.span(0, 1600, 1600);
        x.span(11, 1599, 1599);
        due(1, x.doubts());
        x.span(5, 1599, 1599);
        due(1, x.doubts());
        x.span(1, 1600, 1600);
        x.span(2, 1600, 1600);
        due((1 << 5) + (1 << 11), x.doubts());
        x.span(5, NONE, 0);
        due(1 << 11, x.doubts());
        x.span(0, NONE, 0);
        x.span(1, NONE, 0);
        due(4, x.doubts());

        terms("the fewest told SPANS (of those SHEETS that have one) without which there are");
        x.printer(0, 1600, 1650);
        for (int s = 0; s < 3; s++) x.sheet(0, 0, 0, 0);
        x.span(0, 1653, 1653);
        due(1, x.doubts());
        x.span(1, 1599, 1599);
        due(3, x.doubts());
        x.span(2, 1652, 1700);
        due(3, x.doubts());
        x.span(2, 1500, 1600);
        due(3, x.doubts());
        x.span(2, 1500, 1599);
        due(7, x.doubts());

        terms("of these the least bits");
        for (int s = 0; s < 4; s++) shown(NONE, 0, (1 << s) - 1, 0);
        x.span(0, 1700, 1700);
        x.span(3, 1600, 1600);
        due(1, x.doubts());
        x.span(1, 1700, 1700);
        x.span(2, 1600, 1600);
        due(3, x.doubts());
        x.block(0, 1, 0);
        x.block(3, 1, 1);
        due(3, x.doubts());
        terms("of these the least bits");
        for (int s = 0; s < 4; s++) shown(NONE, 0, 7 >> s, 0);
        x.span(0, 1600, 1600);
        x.span(3, 1700, 1700);
        due(1, x.doubts());
        x.span(1, 1600, 1600);
        x.span(2, 1700, 1700);
        due(3, x.doubts());

        terms("if there are none: the fewest told SPANS");
        for (int s = 0; s < 10; s++) shown(NONE, 0, (1 << s) - 1, 0);
        for (int s = 0; s < 10; s++) x.span(s, 1700 - s, 1700 - s);
        due(0x1ff, x.doubts());
        x.span(9, 1700, 1700);
        due(0xff, x.doubts());
    }
}
