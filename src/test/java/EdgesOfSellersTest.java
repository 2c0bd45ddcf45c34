import java.io.IOException;

/** Edges of sellers and of what is lost: promises 42 to 46, and what Terms say of them. */
public final class EdgesOfSellersTest extends Edges {
    private static final int[] NO_ROWS = {-1, 6, NONE, LEAST, MOST};
    private static final int[] NO_SELLERS = {-1, 4, NONE, LEAST, MOST};
    private static final int[] NO_SONGS = {-1, 10, NONE, LEAST, MOST};
    private static final int[] NO_PLACES = {-1, 10, NONE, LEAST, MOST};
    private static final int[] NO_DAYS = {-1, 100, 999, NONE, LEAST, MOST};

    public static void main(String[] args) throws IOException {
        begin(args);
        walk();
        sung();
        can();
        whoCan();
        far();
        lost();
        howManyLost();
        end(42, 46);
    }

    private static int walks(int seller, int... places) {
        lay(0, places);
        return x.walk(seller, 0);
    }

    private static void walk() {
        edge(42, "A WALK of a SELLER by a ROW: how many days.");
        due(1, walks(0, 0));
        due(2, walks(3, 9, 0));
        x.row(0, 40);
        due(40, x.walk(1, 0));
        due(40, x.walk(1, 0));
        due(1, walks(1, 5));
        x.tear(0);
        x.sung(0, 5, 0);
        due(1, x.can(1, 0, 0));

        edge(42, "BAD");
        lay(0, 1);
        for (int seller : NO_SELLERS) refuses(BAD, () -> x.walk(seller, 0));
        for (int r : NO_ROWS) refuses(BAD, () -> x.walk(0, r));
        refuses(BAD, () -> x.walk(4, 1));

        edge(42, "NOTHING");
        finds(NOTHING, () -> x.walk(0, 0));
        finds(NOTHING, () -> x.walk(3, 5));

        edge(42, "SIZE: none");
        walks(0, 3);
        x.row(0, 0);
        finds(SIZE, () -> x.walk(0, 0));
        finds(SIZE, () -> x.walk(1, 0));
        x.sung(0, 3, 0);
        due(1, x.can(0, 0, 0));
        due(STATE, x.can(1, 0, 0));

        edge(42, "UNLIKE");
        walks(0, 3);
        for (int place : NO_PLACES) {
            lay(0, place);
            finds(UNLIKE, () -> x.walk(0, 0));
            lay(0, 0, 9, place);
            finds(UNLIKE, () -> x.walk(0, 0));
        }

        terms("SELLERS 0 .. 3 have a WALK: a ROW of PLACES 0 .. 9 by days (0 on).");
        for (int seller = 0; seller < 4; seller++) due(10, walks(seller, 0, 1, 2, 3, 4, 5, 6, 7, 8, 9));
        for (int place = 0; place < 10; place++) x.sung(place, place, 0);
        for (int place = 0; place < 10; place++) due(place, x.far(place, place));
    }

    private static void sung() {
        edge(43, "A SONG was printed at a PLACE from a day (0 .. 99) on: how many such.");
        due(1, x.sung(0, 0, 0));
        due(2, x.sung(9, 9, 99));
        due(3, x.sung(9, 9, 99));

        edge(43, "BAD");
        for (int song : NO_SONGS) refuses(BAD, () -> x.sung(song, 0, 0));
        for (int place : NO_PLACES) refuses(BAD, () -> x.sung(0, place, 0));
        for (int day : NO_DAYS) refuses(BAD, () -> x.sung(0, 0, day));

        edge(43, "FULL");
        for (int k = 1; k <= 30; k++) due(k, x.sung(0, 0, 0));
        refuses(FULL, () -> x.sung(0, 0, 0));
        refuses(FULL, () -> x.sung(9, 9, 99));
        refuses(BAD, () -> x.sung(10, 0, 0));
        refuses(BAD, () -> x.sung(0, 10, 0));
        refuses(BAD, () -> x.sung(0, 0, 100));

        terms("a SONG was printed at a PLACE from a day on (30 such at most)");
        for (int k = 1; k <= 29; k++) due(k, x.sung(0, 0, 0));
        due(30, x.sung(9, 9, 7));
        due(FULL, x.sung(9, 9, 3));
        walks(0, 9);
        due(7, x.far(9, 9));
    }

    private static void can() {
        edge(44, "Whether a SELLER CAN have a SONG on a day (0 .. 99): 1, 0.");
        for (int seller = 0; seller < 4; seller++) walks(seller, seller);
        for (int place = 0; place < 4; place++) x.sung(9, place, 0);
        x.sung(0, 3, 99);
        for (int seller = 0; seller < 4; seller++) due(1, x.can(seller, 9, 0));
        due(0, x.can(3, 0, 0));
        due(0, x.can(3, 0, 98));
        due(1, x.can(3, 0, 99));
        due(1, x.can(0, 9, 99));
        due(0, x.can(0, 0, 99));

        edge(44, "BAD");
        walks(0, 0);
        for (int seller : NO_SELLERS) refuses(BAD, () -> x.can(seller, 0, 0));
        for (int song : NO_SONGS) refuses(BAD, () -> x.can(0, song, 0));
        for (int day : NO_DAYS) refuses(BAD, () -> x.can(0, 0, day));
        edge(44, "BAD");
        for (int song : NO_SONGS) refuses(BAD, () -> x.can(0, song, 0));
        for (int day : NO_DAYS) refuses(BAD, () -> x.can(0, 0, day));

        edge(44, "STATE: no WALK.");
        for (int seller : new int[] {0, 1, 2, 3}) refuses(STATE, () -> x.can(seller, 0, 0));
        walks(1, 0);
        x.sung(0, 0, 0);
        refuses(STATE, () -> x.can(0, 0, 0));
        due(1, x.can(1, 0, 0));
    }

    private static void whoCan() {
        terms("if he was on it or ahead of it at a PLACE at which it was printed by that day");
        walks(0, 1, 2, 3);
        x.sung(5, 1, 1);
        due(0, x.can(0, 5, 99));
        x.sung(5, 2, 1);
        due(0, x.can(0, 5, 0));
        due(1, x.can(0, 5, 1));
        due(1, x.can(0, 5, 2));
        due(1, x.can(0, 5, 99));
        x.sung(6, 2, 2);
        due(0, x.can(0, 6, 99));
        x.sung(6, 3, 3);
        due(0, x.can(0, 6, 2));
        due(1, x.can(0, 6, 3));
        x.sung(6, 2, 0);
        due(1, x.can(0, 6, 1));

        terms("or on one day at a PLACE with a seller who CAN have it on that day");
        walks(0, 1, 4, 6);
        walks(1, 0, 4, 5);
        walks(2, 2, 5, 5);
        walks(3, 4, 3, 6);
        x.sung(0, 1, 0);
        due(0, x.can(1, 0, 0));
        due(1, x.can(1, 0, 1));
        due(0, x.can(2, 0, 1));
        due(1, x.can(2, 0, 2));
        due(0, x.can(3, 0, 1));
        due(1, x.can(3, 0, 2));
        terms("or on one day at a PLACE with a seller who CAN have it on that day");
        // Where two met ahead of the day on which one of them got it, neither got it from the other.
        walks(0, 4, 1, 7);
        walks(1, 4, 2, 8);
        x.sung(0, 1, 1);
        due(1, x.can(0, 0, 1));
        due(0, x.can(1, 0, 99));

        terms("(Who has no day more stays where he was last; one without a WALK is nowhere.)");
        walks(0, 1, 2);
        x.sung(0, 2, 60);
        due(0, x.can(0, 0, 59));
        due(1, x.can(0, 0, 60));
        x.sung(1, 1, 2);
        due(0, x.can(0, 1, 99));
        x.row(0, 40);
        x.lay(0, 39, 7);
        x.walk(1, 0);
        x.sung(2, 7, 0);
        due(0, x.can(1, 2, 38));
        due(1, x.can(1, 2, 39));
        x.sung(3, 7, 40);
        due(0, x.can(1, 3, 39));
        due(1, x.can(1, 3, 40));
        terms("one without a WALK is nowhere");
        x.sung(0, 0, 0);
        due(NONE, x.far(0, 0));
        due(STATE, x.can(0, 0, 99));
        x.sheet(5, NONE, 0, 0);
        due(0, x.mark(0, 5));
        walks(3, 0);
        due(0, x.far(0, 0));
        due(1, x.mark(0, 5));
    }

    private static void far() {
        edge(45, "The first day on which a seller at a PLACE CAN have a SONG (0 .. 99); NONE.");
        due(NONE, x.far(0, 0));
        x.sung(0, 9, 99);
        due(NONE, x.far(0, 9));
        walks(0, 9);
        due(99, x.far(0, 9));
        x.sung(9, 9, 0);
        due(0, x.far(9, 9));
        due(NONE, x.far(9, 0));
        due(NONE, x.far(1, 9));

        edge(45, "The first day on which a seller at a PLACE CAN have a SONG");
        walks(0, 1, 2, 3, 2);
        walks(1, 3, 3, 3, 8);
        x.sung(0, 2, 0);
        due(NONE, x.far(0, 1));
        due(1, x.far(0, 2));
        due(2, x.far(0, 3));
        due(3, x.far(0, 8));
        x.sung(1, 3, 2);
        due(2, x.far(1, 3));
        due(3, x.far(1, 2));

        edge(45, "BAD");
        for (int song : NO_SONGS) refuses(BAD, () -> x.far(song, 0));
        for (int place : NO_PLACES) refuses(BAD, () -> x.far(0, place));
        due(NONE, x.far(9, 9));
    }

    private static void copies(int song, int n) {
        for (int k = 0; k < n; k++) x.sheet(1, 0, song, 0);
    }

    private static void lost() {
        edge(46, "LOST at least, told by upper(), lower(): how many prints are LEFT.");
        copies(0, 1);
        due(1, x.lost());
        copies(1, 2);
        due(2, x.lost());
        copies(2, 3);
        due(3, x.lost());
        fraction(1, 2);

        edge(46, "NOUGHT: none.");
        finds(NOUGHT, x::lost);
        for (int kind : new int[] {0, 3, 4, 5, 6}) x.sheet(kind, 0, 0, 0);
        finds(NOUGHT, x::lost);
        x.type(0, 0, 1);
        x.type(1, 0, 1);
        x.taken(0, 1);
        finds(NOUGHT, x::lost);
        fraction(1, 16);
        half(0, 0);
        due(1, x.lost());
        fraction(0, 1);
    }

    private static void howManyLost() {
        terms("of SHEETS that are COPIES (HALVES, too) those with one SONG and PRINTER are of one print");
        x.sheet(1, 0, 0, 0);
        half(0, 0, 1, 2);
        due(1, x.lost());
        fraction(0, 1);
        x.sheet(1, 1, 0, 0);
        due(2, x.lost());
        fraction(1, 2);
        x.sheet(1, NONE, 0, 0);
        due(3, x.lost());
        fraction(2, 1);
        half(NONE, 0);
        due(3, x.lost());
        fraction(1, 4);
        x.sheet(1, 0, 9, 0);
        due(4, x.lost());
        fraction(1, 1);

        terms("ONES: prints of which one is left, TWOS: two");
        copies(0, 1);
        copies(1, 1);
        copies(2, 2);
        copies(3, 3);
        copies(4, 4);
        due(5, x.lost());
        fraction(2 * 2 / 2, 1);
        copies(4, 1);
        due(5, x.lost());
        fraction(2, 1);
        copies(2, 1);
        due(5, x.lost());
        fraction(1, 1);

        terms("ONES times ONES by twice TWOS");
        copies(0, 2);
        due(1, x.lost());
        fraction(0, 1);
        copies(1, 1);
        due(2, x.lost());
        fraction(1, 2);
        copies(2, 1);
        due(3, x.lost());
        fraction(2, 1);
        copies(3, 1);
        due(4, x.lost());
        fraction(9, 2);
        copies(3, 1);
        due(4, x.lost());
        fraction(1, 1);
        copies(1, 2);
        due(4, x.lost());
        fraction(1, 4);

        terms("without TWOS: ONES times (ONES less 1) by 2");
        copies(0, 1);
        due(1, x.lost());
        fraction(0, 1);
        copies(1, 1);
        due(2, x.lost());
        fraction(1, 1);
        copies(2, 3);
        due(3, x.lost());
        fraction(1, 1);
        copies(3, 1);
        due(4, x.lost());
        fraction(3, 1);
        terms("without TWOS: ONES times (ONES less 1) by 2");
        copies(0, 20);
        due(1, x.lost());
        fraction(0, 1);
        terms("without TWOS: ONES times (ONES less 1) by 2");
        for (int s = 0; s < 20; s++) x.sheet(1, s % 8, s / 2, 0);
        due(20, x.lost());
        fraction(190, 1);
    }
}
