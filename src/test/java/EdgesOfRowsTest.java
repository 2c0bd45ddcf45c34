import java.io.IOException;

/** Edges of rows, texts, songs and tunes: promises 1 to 16, and what Terms say of them. */
public final class EdgesOfRowsTest extends Edges {
    private static final int[] ALL_ROWS = {0, 1, 2, 3, 4, 5}, ALL_TEXTS = {0, 1, 2, 3};
    private static final int[] NO_ROWS = {-1, 6, NONE, LEAST, MOST};
    private static final int[] NO_TEXTS = {-1, 4, NONE, LEAST, MOST};
    private static final int[] NO_SONGS = {-1, 10, NONE, LEAST, MOST};
    private static final int[] NO_TUNES = {-1, 6, NONE, LEAST, MOST};

    public static void main(String[] args) throws IOException {
        begin(args);
        newOnes();
        row();
        lay();
        tear();
        copy();
        mean();
        text();
        put();
        later();
        song();
        signsOfSongs();
        songTold();
        measure();
        rhyme();
        tune();
        fit();
        tunes();
        end(1, 16);
    }

    private static void newOnes() {
        edge(1, "No ROWS, TEXTS, SONGS, TUNES, SHEETS; TODAY 0.");
        for (int what = 0; what < 8; what++) due(0, x.count(what));
        for (int r = 0; r < 6; r++) due(FINDING, x.tear(r));
        for (int t = 0; t < 4; t++) due(FINDING, x.fault(t));
        for (int s = 0; s < 10; s++) due(FINDING, x.tunes(s));
        due(BAD, x.told(0, 0));
        due(0, x.later(0));
        due(20, x.findings(NOTHING));
        sing(0, "a");
        for (int u = 0; u < 6; u++) due(FINDING, x.fit(0, u));

        terms("ROWS 0 .. 5 are rows of 0 to 40 ints, TEXTS 0 .. 3 rows of 0 to 60 bytes, or missing (at first)");
        for (int r : ALL_ROWS) finds(NOTHING, () -> x.mean(r));
        for (int t : ALL_TEXTS) finds(NOTHING, () -> x.put(t, 0, 0));
        for (int r : ALL_ROWS) due(40, x.row(r, 40));
        for (int r : ALL_ROWS) due(0, x.row(r, 0));
        for (int t : ALL_TEXTS) due(60, x.text(t, 60));
        for (int t : ALL_TEXTS) due(0, x.text(t, 0));
        due(6, x.count(6));
        due(4, x.count(7));

        terms("TODAY is a day (0 .. 999; 0 at first), which only goes on.");
        due(0, x.count(0));
        due(999, x.later(999));
        refuses(BAD, () -> x.later(1));
        refuses(BAD, () -> x.later(-1));
        refuses(BAD, () -> x.later(-999));
        due(999, x.count(0));
    }

    private static void row() {
        edge(2, "A ROW is there with n ints 0: n.");
        due(40, x.row(5, 40));
        for (int i = 0; i < 40; i++) asks(0, x.lay(5, i, 7));
        due(40, x.row(5, 40));
        for (int i = 0; i < 40; i++) asks(0, x.lay(5, i, 7));

        edge(2, "A ROW is there");
        due(0, x.row(0, 0));
        due(1, x.count(6));
        due(1, x.tear(0));

        edge(2, "BAD");
        for (int r : NO_ROWS) refuses(BAD, () -> x.row(r, 1));
        for (int r : NO_ROWS) refuses(BAD, () -> x.row(r, -1));

        edge(2, "also n above 40");
        x.row(1, 40);
        x.lay(1, 39, 5);
        refuses(BAD, () -> x.row(1, 41));
        refuses(BAD, () -> x.row(1, MOST));
        refuses(BAD, () -> x.row(2, 41));
        asks(5, x.lay(1, 39, 0));

        edge(2, "SIZE: below 0");
        x.row(1, 2);
        finds(SIZE, () -> x.row(1, -1));
        finds(SIZE, () -> x.row(1, LEAST));
        finds(SIZE, () -> x.row(2, -1));
        due(1, x.count(6));
    }

    private static void lay() {
        edge(3, "Place i of a ROW is v: what it was, told by asked(): 1.");
        x.row(0, 40);
        asks(0, x.lay(0, 0, LEAST));
        asks(LEAST, x.lay(0, 0, MOST));
        asks(MOST, x.lay(0, 0, -1));
        asks(0, x.lay(0, 39, NONE));
        asks(NONE, x.lay(0, 39, 0));
        asks(-1, x.lay(0, 0, 0));

        edge(3, "BAD");
        x.row(0, 1);
        for (int r : NO_ROWS) refuses(BAD, () -> x.lay(r, 0, 1));

        edge(3, "NOTHING");
        for (int r : ALL_ROWS) finds(NOTHING, () -> x.lay(r, 0, 1));
        x.row(0, 1);
        x.tear(0);
        finds(NOTHING, () -> x.lay(0, 0, 1));
        finds(NOTHING, () -> x.lay(0, -1, 1));

        edge(3, "BEYOND");
        x.row(0, 40);
        x.row(1, 0);
        finds(BEYOND, () -> x.lay(0, 40, 1));
        finds(BEYOND, () -> x.lay(0, -1, 1));
        finds(BEYOND, () -> x.lay(0, MOST, 1));
        finds(BEYOND, () -> x.lay(0, LEAST, 1));
        finds(BEYOND, () -> x.lay(1, 0, 1));
    }

    private static void tear() {
        edge(4, "A ROW is missing: 1.");
        x.row(0, 0);
        x.row(5, 40);
        due(1, x.tear(5));
        due(1, x.count(6));
        due(1, x.tear(0));
        due(0, x.count(6));

        edge(4, "BAD");
        for (int r : NO_ROWS) refuses(BAD, () -> x.tear(r));

        edge(4, "NOTHING");
        finds(NOTHING, () -> x.tear(0));
        x.row(0, 1);
        x.tear(0);
        finds(NOTHING, () -> x.tear(0));
    }

    private static void holds(int r, int... values) {
        for (int i = 0; i < values.length; i++) asks(values[i], x.lay(r, i, values[i]));
        due(FINDING, x.lay(r, values.length, 0));
    }

    private static void copy() {
        edge(5, "n places of a ROW, from one on, come to those of another one");
        lay(0, 1, 2, 3, 4);
        lay(1, 9, 8);
        due(1, x.copy(1, 0, 0, 2, 2));
        holds(0, 1, 2, 9, 8);
        holds(1, 9, 8);
        due(1, x.copy(0, 3, 1, 0, 1));
        holds(1, 8, 8);
        x.row(2, 40);
        x.row(3, 40);
        x.lay(2, 39, 6);
        due(1, x.copy(2, 0, 3, 0, 40));
        asks(6, x.lay(3, 39, 6));

        edge(5, "(perhaps itself) from one on, as if taken ahead");
        lay(0, 1, 2, 3, 4);
        due(1, x.copy(0, 0, 0, 1, 3));
        holds(0, 1, 1, 2, 3);
        lay(0, 1, 2, 3, 4);
        due(1, x.copy(0, 1, 0, 0, 3));
        holds(0, 2, 3, 4, 4);
        due(1, x.copy(0, 0, 0, 0, 4));
        holds(0, 2, 3, 4, 4);

        edge(5, "n places");
        lay(0, 1, 2);
        x.row(1, 0);
        due(1, x.copy(0, 0, 1, 0, 0));
        due(1, x.copy(0, 2, 1, 0, 0));
        due(1, x.copy(1, 0, 0, 2, 0));
        due(1, x.copy(1, 0, 1, 0, 0));
        holds(0, 1, 2);

        edge(5, "BAD");
        x.row(0, 1);
        for (int r : NO_ROWS) refuses(BAD, () -> x.copy(r, 0, 0, 0, 1));
        for (int r : NO_ROWS) refuses(BAD, () -> x.copy(0, 0, r, 0, 1));
        refuses(BAD, () -> x.copy(6, 0, 1, 0, -1));
        refuses(BAD, () -> x.copy(1, 9, 6, 0, 1));

        edge(5, "SIZE: n below 0");
        x.row(0, 1);
        finds(SIZE, () -> x.copy(0, 0, 0, 0, -1));
        finds(SIZE, () -> x.copy(0, 0, 0, 0, LEAST));
        finds(SIZE, () -> x.copy(1, 0, 0, 0, -1));
        finds(SIZE, () -> x.copy(0, 9, 1, 0, -1));

        edge(5, "NOTHING: either");
        x.row(0, 1);
        finds(NOTHING, () -> x.copy(0, 0, 1, 0, 1));
        finds(NOTHING, () -> x.copy(1, 0, 0, 0, 1));
        finds(NOTHING, () -> x.copy(1, 0, 2, 0, 0));
        finds(NOTHING, () -> x.copy(0, 9, 1, 9, 99));
        finds(NOTHING, () -> x.copy(1, 9, 0, 9, 99));

        edge(5, "BEYOND: not so many there");
        x.row(0, 4);
        x.row(1, 2);
        finds(BEYOND, () -> x.copy(0, 0, 1, 0, 3));
        finds(BEYOND, () -> x.copy(1, 0, 0, 0, 3));
        finds(BEYOND, () -> x.copy(0, 3, 1, 0, 2));
        finds(BEYOND, () -> x.copy(0, 0, 1, 1, 2));
        finds(BEYOND, () -> x.copy(0, -1, 1, 0, 1));
        finds(BEYOND, () -> x.copy(0, 0, 1, -1, 1));
        finds(BEYOND, () -> x.copy(0, 4, 1, 0, 1));
        finds(BEYOND, () -> x.copy(0, 5, 1, 0, 0));
        finds(BEYOND, () -> x.copy(0, 0, 1, 3, 0));
        finds(BEYOND, () -> x.copy(0, -1, 1, 0, 0));

        edge(5, "not so many there");
        x.row(0, 4);
        finds(BEYOND, () -> x.copy(0, MOST, 0, 0, 1));
        finds(BEYOND, () -> x.copy(0, 0, 0, MOST, 1));
        finds(BEYOND, () -> x.copy(0, 0, 0, 0, MOST));
        finds(BEYOND, () -> x.copy(0, MOST, 0, MOST, MOST));
        finds(BEYOND, () -> x.copy(0, 1, 0, 1, MOST));
        finds(BEYOND, () -> x.copy(0, LEAST, 0, LEAST, 1));
    }

    private static int meanOf(int... values) {
        lay(0, values);
        due(1, x.mean(0));
        return x.asked();
    }

    private static void mean() {
        edge(6, "The mean of a ROW's ints, cut, told by asked(): 1.");
        due(1, meanOf(1, 2, 2));
        due(2, meanOf(2, 2, 2));
        due(-1, meanOf(-1, -2, -2));
        due(0, meanOf(0, 1));
        due(0, meanOf(0, -1));
        due(MOST, meanOf(MOST));
        due(LEAST, meanOf(LEAST));
        due(MOST, meanOf(MOST, MOST, MOST));
        due(LEAST, meanOf(LEAST, LEAST, LEAST));
        due(0, meanOf(LEAST, MOST));
        due(MOST - 1, meanOf(MOST, MOST, MOST - 3));

        edge(6, "BAD");
        x.row(0, 1);
        for (int r : NO_ROWS) refuses(BAD, () -> x.mean(r));

        edge(6, "NOTHING");
        finds(NOTHING, () -> x.mean(0));

        edge(6, "NOUGHT");
        x.row(0, 0);
        finds(NOUGHT, () -> x.mean(0));
        x.row(0, 1);
        due(1, x.mean(0));
    }

    private static void text() {
        edge(7, "A TEXT is there with n blanks: n.");
        due(60, x.text(3, 60));
        for (int i = 0; i < 60; i++) due(1032, x.put(3, i, 97));
        due(60, x.text(3, 60));
        for (int i = 0; i < 60; i++) due(1032, x.put(3, i, 97));
        due(0, x.text(0, 0));
        due(2, x.count(7));

        edge(7, "BAD");
        for (int t : NO_TEXTS) refuses(BAD, () -> x.text(t, 1));
        for (int t : NO_TEXTS) refuses(BAD, () -> x.text(t, -1));

        edge(7, "also n above 60");
        x.text(0, 60);
        x.put(0, 59, 97);
        refuses(BAD, () -> x.text(0, 61));
        refuses(BAD, () -> x.text(0, MOST));
        refuses(BAD, () -> x.text(1, 61));
        due(1097, x.put(0, 59, 0));

        edge(7, "SIZE: below 0");
        x.text(0, 2);
        finds(SIZE, () -> x.text(0, -1));
        finds(SIZE, () -> x.text(0, LEAST));
        finds(SIZE, () -> x.text(1, -1));
        due(1, x.count(7));
    }

    private static void put() {
        edge(8, "Byte i of a TEXT is v, cut to a byte: what it was, and 1000 more.");
        x.text(0, 60);
        due(1032, x.put(0, 0, 0));
        due(1000, x.put(0, 0, 127));
        due(1127, x.put(0, 0, 128));
        due(872, x.put(0, 0, 255));
        due(999, x.put(0, 0, 256));
        due(1000, x.put(0, 0, 256 + 7));
        due(1007, x.put(0, 0, -1));
        due(999, x.put(0, 0, -128));
        due(872, x.put(0, 0, -129));
        due(1127, x.put(0, 0, LEAST));
        due(1000, x.put(0, 0, MOST));
        due(999, x.put(0, 0, 0));
        due(1032, x.put(0, 59, 1));
        due(1001, x.put(0, 59, 1));

        edge(8, "BAD");
        x.text(0, 1);
        for (int t : NO_TEXTS) refuses(BAD, () -> x.put(t, 0, 1));

        edge(8, "NOTHING");
        finds(NOTHING, () -> x.put(0, 0, 1));
        finds(NOTHING, () -> x.put(3, -1, 1));

        edge(8, "BEYOND");
        x.text(0, 60);
        x.text(1, 0);
        finds(BEYOND, () -> x.put(0, 60, 1));
        finds(BEYOND, () -> x.put(0, -1, 1));
        finds(BEYOND, () -> x.put(0, MOST, 1));
        finds(BEYOND, () -> x.put(0, LEAST, 1));
        finds(BEYOND, () -> x.put(1, 0, 1));
    }

    private static void later() {
        edge(9, "TODAY is n days later: it.");
        due(0, x.later(0));
        due(1, x.later(1));
        due(1, x.later(0));
        due(999, x.later(998));
        due(999, x.later(0));

        edge(9, "BAD: below 0");
        x.later(5);
        refuses(BAD, () -> x.later(-1));
        refuses(BAD, () -> x.later(-5));
        refuses(BAD, () -> x.later(LEAST));

        edge(9, "or beyond 999");
        refuses(BAD, () -> x.later(1000));
        refuses(BAD, () -> x.later(MOST));
        due(5, x.later(5));
        refuses(BAD, () -> x.later(995));
        refuses(BAD, () -> x.later(MOST));
        refuses(BAD, () -> x.later(MOST - 4));
        due(999, x.later(994));
        refuses(BAD, () -> x.later(1));
    }

    private static void song() {
        edge(10, "A SONG by a TEXT (anew): how many LINES.");
        due(1, sing(0, "a"));
        due(1, sing(9, "z"));
        due(2, x.count(1));
        due(3, sing(0, "a/b/c"));
        asks(3, x.songTold(0, 0));
        due(2, x.count(1));
        x.text(3, 60);
        x.text(2, 60);
        asks(3, x.songTold(0, 2));

        edge(10, "BAD");
        write(0, "a");
        for (int s : NO_SONGS) refuses(BAD, () -> x.song(s, 0));
        for (int t : NO_TEXTS) refuses(BAD, () -> x.song(0, t));
        refuses(BAD, () -> x.song(10, 1));

        edge(10, "NOTHING");
        for (int t : ALL_TEXTS) finds(NOTHING, () -> x.song(0, t));
        sing(0, "a");
        finds(NOTHING, () -> x.song(0, 0));
        asks(1, x.songTold(0, 0));

        edge(10, "UNLIKE");
        sing(0, "a b/c");
        write(0, "no?");
        finds(UNLIKE, () -> x.song(0, 0));
        finds(UNLIKE, () -> x.song(1, 0));
        asks(2, x.songTold(0, 0));
        due(1, x.count(1));

        terms("a SONG has 1 to 8 LINES, each of 1 WORD at least");
        due(1, sing(0, "a"));
        due(8, sing(0, "a/b/c/d/e/f/g/h"));
        noSong("a/b/c/d/e/f/g/h/i");
        noSong("");
        noSong(" ");
        noSong("/");
        noSong("/a");
        noSong("a/");
        noSong("a//b");
        noSong("a/ /b");
        noSong("a/b/c/d/e/f/g/h/");
        asks(8, x.songTold(0, 0));
    }

    private static void noSong(String text) {
        write(3, text);
        finds(UNLIKE, () -> x.song(0, 3));
    }

    private static void signsOfSongs() {
        due(0, signsTaken(-128, -1));
        due(28, signsTaken(0, 127));

        terms("LINES are parted by /, WORDS of a LINE by blanks (one or more; blanks ahead and behind, too)");
        due(2, sing(0, "  ab  c / d  "));
        asks(2, x.songTold(0, 0));
        asks(3, x.songTold(0, 1));
        asks(4, x.songTold(0, 2));
        due(1, sing(0, "   q                                                       "));
        asks(1, x.songTold(0, 1));
        due(1, sing(0, "a b c d e f g h i j k l m n o p q r s t u v w x y z a b c d "));
        asks(30, x.songTold(0, 1));
        due(1, sing(0, "abcdefghijklmnopqrstuvwxyzabcdefghijklmnopqrstuvwxyzabcdefgh"));
        asks(1, x.songTold(0, 1));
        asks(60, x.songTold(0, 2));

        terms("SONGS 0 .. 9 (missing at first)");
        for (int s : new int[] {0, 1, 2, 3, 4, 5, 6, 7, 8, 9}) {
            finds(NOTHING, () -> x.songTold(s, 0));
            due(1, sing(s, "a"));
            asks(1, x.songTold(s, 0));
            due(s + 1, x.count(1));
        }
    }

    /** How many of some signs between two letters make a song, each as it is due; on one desk 512 calls at most. */
    private static int signsTaken(int from, int till) {
        terms("TEXTS of letters a to z (97 .. 122), blanks (32) and / (47)");
        x.text(0, 3);
        x.put(0, 0, 97);
        x.put(0, 2, 122);
        int taken = 0;
        for (int sign = from; sign <= till; sign++) {
            x.put(0, 1, sign);
            boolean isOne = sign == 32 || sign == 47 || (sign >= 97 && sign <= 122);
            int answer = x.song(0, 0);
            due(isOne ? sign == 47 ? 2 : 1 : FINDING, answer);
            if (answer != FINDING) taken++;
        }
        due(till - from + 1 - taken, x.findings(UNLIKE));
        return taken;
    }

    private static void songTold() {
        edge(11, "0 LINES, 1 WORDS, 2 letters, told by asked(): 1.");
        sing(0, " the  ship/sails  ");
        asks(2, x.songTold(0, 0));
        asks(3, x.songTold(0, 1));
        asks(12, x.songTold(0, 2));

        edge(11, "BAD");
        sing(0, "a");
        for (int s : NO_SONGS) refuses(BAD, () -> x.songTold(s, 0));
        for (int what : new int[] {-1, 3, LEAST, MOST}) refuses(BAD, () -> x.songTold(0, what));
        for (int what : new int[] {-1, 3, LEAST, MOST}) refuses(BAD, () -> x.songTold(1, what));

        edge(11, "NOTHING");
        sing(0, "a");
        finds(NOTHING, () -> x.songTold(1, 0));
        finds(NOTHING, () -> x.songTold(9, 2));
    }

    private static void measure() {
        edge(12, "MEASURE of LINE i of a SONG.");
        sing(0, "a/ee/bcd/a b a/e/y/i/ou oy");
        int[] beats = {1, 1, 0, 2, 1, 1, 1, 2};
        for (int i = 0; i < 8; i++) due(beats[i], x.measure(0, i));

        edge(12, "BAD");
        sing(0, "a");
        for (int s : NO_SONGS) refuses(BAD, () -> x.measure(s, 0));

        edge(12, "NOTHING");
        sing(0, "a");
        finds(NOTHING, () -> x.measure(1, 0));
        finds(NOTHING, () -> x.measure(1, 9));

        edge(12, "BEYOND");
        sing(0, "a/b");
        finds(BEYOND, () -> x.measure(0, 2));
        finds(BEYOND, () -> x.measure(0, -1));
        finds(BEYOND, () -> x.measure(0, LEAST));
        finds(BEYOND, () -> x.measure(0, MOST));
        sing(0, "a/b/c/d/e/f/g/h");
        finds(BEYOND, () -> x.measure(0, 8));
        due(0, x.measure(0, 7));

        terms("how many rows of vowels (a, e, i, o, u, y; one or more behind one another within a WORD) it has");
        sing(0, "xaxexixoxuxyx/aeiouy/a e i o u y/a  a/bcdfghjklmn/pqrstvwxz");
        int[] rows = {6, 1, 6, 2, 0, 0};
        for (int i = 0; i < 6; i++) due(rows[i], x.measure(0, i));
        sing(0, "a/a");
        due(1, x.measure(0, 0));
        due(1, x.measure(0, 1));
        sing(0, "a a a a a a a a a a a a a a a a a a a a a a a a a a a a a a");
        due(30, x.measure(0, 0));
    }

    private static void rhyme() {
        edge(13, "Whether LINES i and j of a SONG RHYME: 1, 0.");
        sing(0, "a b/c d/x b");
        due(0, x.rhyme(0, 0, 1));
        due(1, x.rhyme(0, 0, 2));
        due(1, x.rhyme(0, 2, 0));
        due(1, x.rhyme(0, 1, 1));

        edge(13, "BAD");
        sing(0, "a");
        for (int s : NO_SONGS) refuses(BAD, () -> x.rhyme(s, 0, 0));

        edge(13, "NOTHING");
        sing(0, "a");
        finds(NOTHING, () -> x.rhyme(1, 0, 0));
        finds(NOTHING, () -> x.rhyme(1, 9, 9));

        edge(13, "BEYOND");
        sing(0, "a/b");
        for (int i : new int[] {-1, 2, 8, LEAST, MOST}) {
            finds(BEYOND, () -> x.rhyme(0, i, 0));
            finds(BEYOND, () -> x.rhyme(0, 0, i));
            finds(BEYOND, () -> x.rhyme(0, i, i));
        }
        due(0, x.rhyme(0, 1, 0));

        terms("Two LINES RHYME, if the last two letters of their last WORDS are the same");
        sing(0, "a cat /mat/at/it/ac/cat a/ta");
        due(1, x.rhyme(0, 0, 1));
        due(1, x.rhyme(0, 0, 2));
        due(0, x.rhyme(0, 0, 3));
        due(0, x.rhyme(0, 2, 4));
        due(0, x.rhyme(0, 0, 5));
        due(0, x.rhyme(0, 2, 6));

        terms("(a WORD of one letter: that one alone; then both have one)");
        sing(0, "o/so/to o/e/o a b c");
        due(0, x.rhyme(0, 0, 1));
        due(0, x.rhyme(0, 1, 0));
        due(1, x.rhyme(0, 0, 2));
        due(0, x.rhyme(0, 0, 3));
        due(0, x.rhyme(0, 0, 4));
        due(1, x.rhyme(0, 0, 0));
    }

    private static void tune() {
        edge(14, "A TUNE by a ROW (anew): its size.");
        lay(0, 3);
        due(1, x.tune(0, 0));
        due(1, x.count(2));
        lay(0, 1, 2, 3, 4, 5, 6, 7, 8);
        due(8, x.tune(0, 0));
        due(1, x.count(2));
        due(8, x.tune(5, 0));
        due(2, x.count(2));

        edge(14, "A TUNE by a ROW (anew)");
        sing(0, "a");
        lay(0, 1);
        x.tune(0, 0);
        x.lay(0, 0, 9);
        due(NONE, x.fit(0, 0));
        x.tear(0);
        due(NONE, x.fit(0, 0));

        edge(14, "BAD");
        lay(0, 1);
        for (int u : NO_TUNES) refuses(BAD, () -> x.tune(u, 0));
        for (int r : NO_ROWS) refuses(BAD, () -> x.tune(0, r));
        refuses(BAD, () -> x.tune(6, 1));

        edge(14, "NOTHING");
        finds(NOTHING, () -> x.tune(0, 0));
        finds(NOTHING, () -> x.tune(5, 5));

        edge(14, "SIZE");
        lay(0, 1);
        x.tune(0, 0);
        lay(0, 1, 1, 1, 1, 1, 1, 1, 1, 1);
        finds(SIZE, () -> x.tune(0, 0));
        x.row(0, 40);
        finds(SIZE, () -> x.tune(0, 0));
        x.row(0, 0);
        finds(SIZE, () -> x.tune(0, 0));
        lay(0, 1, 1, 1, 1, 1, 1, 1, 1, 99);
        finds(SIZE, () -> x.tune(0, 0));

        edge(14, "UNLIKE");
        lay(0, 1);
        x.tune(0, 0);
        for (int v : new int[] {-1, 21, NONE, LEAST, MOST}) {
            lay(0, v, 1);
            finds(UNLIKE, () -> x.tune(0, 0));
            lay(0, 1, 1, 1, 1, 1, 1, 1, v);
            finds(UNLIKE, () -> x.tune(0, 0));
        }

        terms("a ROW of 1 to 8 numbers (0 .. 20), or missing (at first)");
        sing(0, "a");
        for (int u : ALL_ROWS) finds(NOTHING, () -> x.fit(0, u));
        lay(0, 0, 20);
        for (int u : ALL_ROWS) due(2, x.tune(u, 0));
        due(6, x.count(2));
    }

    private static void fit() {
        edge(15, "NONE it does; else the first LINE that does not.");
        sing(0, "a/a a a a/a/a a a a");
        lay(0, 1);
        x.tune(0, 0);
        due(1, x.fit(0, 0));
        lay(0, 9);
        x.tune(1, 0);
        due(0, x.fit(0, 1));
        lay(0, 1, 4, 1, 9);
        x.tune(2, 0);
        due(3, x.fit(0, 2));
        lay(0, 2, 3);
        x.tune(3, 0);
        due(NONE, x.fit(0, 3));

        edge(15, "BAD");
        sing(0, "a");
        lay(0, 1);
        x.tune(0, 0);
        for (int s : NO_SONGS) refuses(BAD, () -> x.fit(s, 0));
        for (int u : NO_TUNES) refuses(BAD, () -> x.fit(0, u));
        refuses(BAD, () -> x.fit(10, 1));
        refuses(BAD, () -> x.fit(1, 6));

        edge(15, "NOTHING: either");
        sing(0, "a");
        lay(0, 1);
        x.tune(0, 0);
        finds(NOTHING, () -> x.fit(1, 0));
        finds(NOTHING, () -> x.fit(0, 1));
        finds(NOTHING, () -> x.fit(1, 1));

        terms("each LINE i (0 ..) has a MEASURE off that of place i modulo the TUNE's size by L at most");
        sing(0, "a a/a/a a/a");
        lay(0, 2, 1);
        x.tune(0, 0);
        lay(0, 2, 1, 2);
        x.tune(1, 0);
        lay(0, 2, 1, 2, 1, 20, 20, 20, 20);
        x.tune(2, 0);
        lay(0, 3, 0);
        x.tune(3, 0);
        lay(0, 1, 2);
        x.tune(4, 0);
        lay(0, 4, 1);
        x.tune(5, 0);
        due(NONE, x.fit(0, 0));
        due(NONE, x.fit(0, 1));
        due(NONE, x.fit(0, 2));
        due(NONE, x.fit(0, 3));
        due(NONE, x.fit(0, 4));
        due(0, x.fit(0, 5));
        rule("L0", 0);
        due(NONE, x.fit(0, 0));
        due(3, x.fit(0, 1));
        due(NONE, x.fit(0, 2));
        due(0, x.fit(0, 3));
        due(0, x.fit(0, 4));
        rule("L2", 0);
        due(NONE, x.fit(0, 5));
        lay(0, 20);
        x.tune(0, 0);
        due(0, x.fit(0, 0));
        rule("L999", 0);
        due(NONE, x.fit(0, 0));

        terms("(IN FORCE for TODAY as known on it)");
        sing(0, "a");
        lay(0, 3);
        x.tune(0, 0);
        rule("L2", 5);
        due(0, x.fit(0, 0));
        due(0, x.tunes(0));
        x.later(4);
        due(0, x.fit(0, 0));
        x.later(1);
        due(NONE, x.fit(0, 0));
        due(1, x.tunes(0));
        rule("L0", 6);
        due(NONE, x.fit(0, 0));
        x.later(1);
        due(0, x.fit(0, 0));
    }

    private static void tunes() {
        edge(16, "TUNES that a SONG FITS (bits).");
        sing(0, "a a");
        due(0, x.tunes(0));
        lay(0, 4);
        x.tune(1, 0);
        due(0, x.tunes(0));
        lay(0, 1);
        x.tune(0, 0);
        due(1, x.tunes(0));
        x.tune(5, 0);
        due(33, x.tunes(0));
        for (int u = 0; u < 6; u++) x.tune(u, 0);
        due(63, x.tunes(0));

        edge(16, "BAD");
        sing(0, "a");
        for (int s : NO_SONGS) refuses(BAD, () -> x.tunes(s));

        edge(16, "NOTHING");
        sing(0, "a");
        finds(NOTHING, () -> x.tunes(1));
        finds(NOTHING, () -> x.tunes(9));
    }
}
