import java.util.Arrays;

/**
 * The desk of one who keeps ballads by the sheet. The methods of the face look at every number that
 * they are handed, refuse it or hand it on; the classes inside take only numbers that were looked at.
 */
public final class BalladSheets {
    public static final int BAD = -1, FULL = -2, FINDING = -3, STATE = -4, SPENT = -6, NONE = -9;

    private static final int NOTHING = 1, BEYOND = 2, UNLIKE = 3, NOUGHT = 4, SIZE = 5;

    private static final int ROWS = 6, MOST_PLACES = 40, TEXTS = 4, MOST_BYTES = 60;
    private static final int SONGS = 10, MOST_LINES = 8;
    private static final int TUNES = 6, MOST_BEATS = 8, GREATEST_BEAT = 20;
    private static final int LAST_DAY = 999, LAST_WALKED_DAY = 99;
    private static final int FIRST_YEAR = 1500, LAST_TOLD_YEAR = 1899, LAST_YEAR = 1999;
    private static final int PRINTERS = 8, BLOCKS = 6, SELLERS = 4, PLACES = 10;
    private static final int MOST_RULES = 16, MOST_SHEETS = 20, MOST_ENTRIES = 40, MOST_SUNG = 30;
    private static final int MOST_ORDERED = 12, MOST_DOUBTED = 10, MOST_KIN = 10;
    private static final int CRACK_BITS = 12, TYPE_BITS = 16;

    private static final int BLANK = 32, SLASH = 47;

    private static final int COPY = 1, HALF = 2, STOLEN = 3, SLIP = 4, HEARD = 5, LOST = 6;
    private static final int KINDS = LOST + 1;
    private static final int[] KIND_ABOVE = {0, 0, COPY, 0, 0, 0, HEARD};
    private static final int[] NO_CUT = {};

    private static final int L = 0, R = 1, S = 2, D = 3, C = 4;
    private static final int[] RULE_LETTERS = {76, 82, 83, 68, 67};
    private static final int[] FORCE_AT_FIRST = {1, 21, 3, 2, 1};

    private final int[][] rows = new int[ROWS][];
    private final byte[][] texts = new byte[TEXTS][];
    private final Song[] songs = new Song[SONGS];
    private final int[][] tunes = new int[TUNES][];
    private int today;

    private final Rules rules = new Rules();
    private final Sheets sheets = new Sheets();
    private final Orders orders = new Orders();
    private final Years years = new Years();
    private final Families families = new Families();
    private final Register register = new Register();
    private final Sellers sellers = new Sellers();

    private int finding;
    private final int[] findings = new int[SIZE + 1];
    private long many;
    private int asked;
    private long upper;
    private long lower = 1;

    public BalladSheets() {
    }

    // ---- 1 rows, texts, songs

    public int row(int r, int n) {
        if (!isRow(r) || n > MOST_PLACES) return BAD;
        if (n < 0) return found(SIZE);
        rows[r] = new int[n];
        return n;
    }

    public int lay(int r, int i, int v) {
        if (!isRow(r)) return BAD;
        int[] row = rows[r];
        if (row == null) return found(NOTHING);
        if (i < 0 || i >= row.length) return found(BEYOND);
        asked = row[i];
        row[i] = v;
        return 1;
    }

    public int tear(int r) {
        if (!isRow(r)) return BAD;
        if (rows[r] == null) return found(NOTHING);
        rows[r] = null;
        return 1;
    }

    public int copy(int r, int i, int to, int j, int n) {
        if (!isRow(r) || !isRow(to)) return BAD;
        if (n < 0) return found(SIZE);
        int[] source = rows[r];
        int[] goal = rows[to];
        if (source == null || goal == null) return found(NOTHING);
        if (!hasPlaces(source, i, n) || !hasPlaces(goal, j, n)) return found(BEYOND);
        System.arraycopy(source, i, goal, j, n);
        return 1;
    }

    public int mean(int r) {
        if (!isRow(r)) return BAD;
        int[] row = rows[r];
        if (row == null) return found(NOTHING);
        if (row.length == 0) return found(NOUGHT);
        long sum = 0;
        for (int i = 0; i < row.length; i++) sum += row[i];
        asked = (int) (sum / row.length);
        return 1;
    }

    public int text(int t, int n) {
        if (!isText(t) || n > MOST_BYTES) return BAD;
        if (n < 0) return found(SIZE);
        byte[] text = new byte[n];
        for (int i = 0; i < n; i++) text[i] = BLANK;
        texts[t] = text;
        return n;
    }

    public int put(int t, int i, int v) {
        if (!isText(t)) return BAD;
        byte[] text = texts[t];
        if (text == null) return found(NOTHING);
        if (i < 0 || i >= text.length) return found(BEYOND);
        int was = text[i];
        text[i] = (byte) v;
        return was + 1000;
    }

    public int later(int n) {
        if (n < 0 || n > LAST_DAY - today) return BAD;
        today += n;
        return today;
    }

    public int song(int s, int t) {
        if (!isSong(s) || !isText(t)) return BAD;
        byte[] text = texts[t];
        if (text == null) return found(NOTHING);
        int lines = Song.linesIn(text);
        if (lines == NONE) return found(UNLIKE);
        songs[s] = new Song(text, lines);
        return lines;
    }

    public int songTold(int s, int what) {
        if (!isSong(s) || what < 0 || what > 2) return BAD;
        Song song = songs[s];
        if (song == null) return found(NOTHING);
        asked = what == 0 ? song.lines : what == 1 ? song.words() : song.letters();
        return 1;
    }

    public int measure(int s, int i) {
        if (!isSong(s)) return BAD;
        Song song = songs[s];
        if (song == null) return found(NOTHING);
        if (!song.hasLine(i)) return found(BEYOND);
        return song.beats(i);
    }

    public int rhyme(int s, int i, int j) {
        if (!isSong(s)) return BAD;
        Song song = songs[s];
        if (song == null) return found(NOTHING);
        if (!song.hasLine(i) || !song.hasLine(j)) return found(BEYOND);
        return song.linesRhyme(i, j) ? 1 : 0;
    }

    public int tune(int u, int r) {
        if (!isTune(u) || !isRow(r)) return BAD;
        int[] row = rows[r];
        if (row == null) return found(NOTHING);
        if (row.length == 0 || row.length > MOST_BEATS) return found(SIZE);
        if (!allWithin(row, GREATEST_BEAT)) return found(UNLIKE);
        tunes[u] = Arrays.copyOf(row, row.length);
        return row.length;
    }

    public int fit(int s, int u) {
        if (!isSong(s) || !isTune(u)) return BAD;
        Song song = songs[s];
        int[] tune = tunes[u];
        if (song == null || tune == null) return found(NOTHING);
        return song.firstMisfit(tune, inForceToday(L));
    }

    public int tunes(int s) {
        if (!isSong(s)) return BAD;
        Song song = songs[s];
        if (song == null) return found(NOTHING);
        int slack = inForceToday(L);
        int fitting = 0;
        for (int u = 0; u < TUNES; u++) {
            int[] tune = tunes[u];
            if (tune != null && song.firstMisfit(tune, slack) == NONE) fitting |= 1 << u;
        }
        return fitting;
    }

    // ---- 2 rules

    public int fault(int t) {
        if (!isText(t)) return BAD;
        byte[] text = texts[t];
        if (text == null) return found(NOTHING);
        return Rules.faultIn(text);
    }

    public int rule(int t, int from) {
        if (!isText(t) || !isDay(from)) return BAD;
        if (rules.size >= MOST_RULES) return FULL;
        byte[] text = texts[t];
        if (text == null) return found(NOTHING);
        if (Rules.faultIn(text) != NONE) return STATE;
        return rules.add(text, today, from);
    }

    public int force(int what, int day, int known) {
        if (!isForce(what, day, known)) return BAD;
        return rules.inForce(what, day, known);
    }

    public int why(int what, int day, int known) {
        if (!isForce(what, day, known)) return BAD;
        return rules.governing(what, day, known);
    }

    // ---- 3 sheets, orders, years

    public int printer(int p, int from, int till) {
        if (!isPrinter(p) || !isSpan(from, till)) return BAD;
        years.setPrinter(p, from, till);
        return 1;
    }

    public int sheet(int kind, int printer, int song, int r) {
        if (kind < 0 || kind >= KINDS || !isSong(song)) return BAD;
        if (printer != NONE && !isPrinter(printer)) return BAD;
        if (kind == HALF && !isRow(r)) return BAD;
        if (sheets.size >= MOST_SHEETS) return FULL;
        int[] cut = NO_CUT;
        if (kind == HALF) {
            int[] row = rows[r];
            if (row == null) return found(NOTHING);
            cut = Arrays.copyOf(row, row.length);
        }
        return sheets.add(new Sheet(kind, printer, song, today, cut));
    }

    public int block(int s, int block, int cracks) {
        if (!isSheet(s) || !isBits(cracks, CRACK_BITS)) return BAD;
        if (block != NONE && !isBlock(block)) return BAD;
        Sheet sheet = sheets.all[s];
        sheet.block = block;
        sheet.cracks = cracks;
        return 1;
    }

    public int type(int s, int broken, int slips) {
        if (!isSheet(s) || !isBits(broken, TYPE_BITS) || !isBits(slips, TYPE_BITS)) return BAD;
        Sheet sheet = sheets.all[s];
        sheet.broken = broken;
        sheet.slips = slips;
        return 1;
    }

    public int span(int s, int from, int till) {
        if (!isSheet(s)) return BAD;
        if (from != NONE && !isSpan(from, till)) return BAD;
        Sheet sheet = sheets.all[s];
        sheet.from = from;
        sheet.till = from == NONE ? NONE : till;
        return 1;
    }

    public int told(int s, int what) {
        if (!isSheet(s) || what < 0 || what >= Sheet.TOLD) return BAD;
        asked = sheets.all[s].tells(what);
        return 1;
    }

    public int mark(int s, int kind) {
        if (!isSheet(s) || kind <= 0 || kind >= KINDS) return BAD;
        Sheet sheet = sheets.all[s];
        if (!sheet.isOf(kind)) return found(UNLIKE);
        switch (kind) {
            case COPY: return sheets.leftOfPrint(sheet);
            case HALF: return sheet.cut.length;
            case STOLEN: return sheets.sharing(s, inForceToday(S));
            case SLIP: return sheet.toldOn;
            case HEARD: return Integer.bitCount(sellers.havers(sheet.song, Math.min(today, LAST_WALKED_DAY)));
            default: return register.entriesOf(sheet.song, sheet.printer);
        }
    }

    public int ahead(int s, int t) {
        if (!areTwoSheets(s, t)) return -100;
        return sheets.all[s].standing(sheets.all[t]);
    }

    public int quarrel() {
        return sheets.firstQuarrel();
    }

    public int orders(int block) {
        if (!isBlock(block)) return BAD;
        if (sheets.withBlock(block) > MOST_ORDERED) return SPENT;
        orders.gather(sheets, block);
        many = orders.ways();
        return orders.size;
    }

    public int standsAhead(int s, int t) {
        if (!areTwoSheets(s, t)) return BAD;
        int block = sheets.all[s].block;
        if (block == NONE || block != sheets.all[t].block) return found(UNLIKE);
        if (sheets.withBlock(block) > MOST_ORDERED) return SPENT;
        orders.gather(sheets, block);
        orders.demand(s, t);
        many = orders.ways();
        return 1;
    }

    public int judgeOrder(int block, int r) {
        if (!isBlock(block) || !isRow(r)) return BAD;
        int[] row = rows[r];
        if (row == null) return found(NOTHING);
        return sheets.firstOutOfOrder(block, row);
    }

    public int year(int s, boolean most) {
        if (!isSheet(s)) return BAD;
        if (!years.work(sheets, inForceToday(D))) return NONE;
        return most ? years.most[s] : years.least[s];
    }

    public int doubts() {
        int slack = inForceToday(D);
        if (years.work(sheets, slack)) return 0;
        if (sheets.withSpan() > MOST_DOUBTED) return SPENT;
        return years.fewestDoubts(sheets, slack);
    }

    // ---- 4 texts, families, rights

    public int changes(int a, int b) {
        if (!isSong(a) || !isSong(b)) return BAD;
        Song one = songs[a];
        Song other = songs[b];
        if (one == null || other == null) return found(NOTHING);
        return families.changesBetween(one, other);
    }

    public int family(int set) {
        if (!isSetOfSheets(set)) return BAD;
        if (Integer.bitCount(set) > MOST_KIN) return SPENT;
        if (!haveSongs(set)) return found(NOTHING);
        if (!years.work(sheets, inForceToday(D))) return STATE;
        families.gather(set, sheets, songs, years.least);
        int sum = families.leastSum();
        many = families.rivals;
        return sum;
    }

    public int judge(int set, int r) {
        if (!isSetOfSheets(set) || !isRow(r)) return BAD;
        int members = Integer.bitCount(set);
        if (members > MOST_KIN) return SPENT;
        int[] row = rows[r];
        if (row == null || !haveSongs(set)) return found(NOTHING);
        if (row.length != members) return found(SIZE);
        if (!years.work(sheets, inForceToday(D))) return STATE;
        families.gather(set, sheets, songs, years.least);
        int wrong = families.firstWrongParent(row);
        if (wrong == NONE) asked = families.sumOf(row);
        return wrong;
    }

    public int taken(int s, int t) {
        if (!areTwoSheets(s, t)) return BAD;
        int first = sheets.all[s].slips;
        int second = sheets.all[t].slips;
        int shared = Integer.bitCount(first & second);
        tellWould(Integer.bitCount(first), Integer.bitCount(second), shared);
        return shared >= inForceToday(S) ? 1 : 0;
    }

    public int register(int song, int printer, int year) {
        if (!isSong(song) || !isPrinter(printer) || !isToldYear(year)) return BAD;
        if (register.size >= MOST_ENTRIES) return FULL;
        register.add(song, printer, year);
        return register.size;
    }

    public int right(int song, int year) {
        if (!isSong(song) || !isToldYear(year)) return BAD;
        return register.holder(song, year, inForceToday(R));
    }

    public int join(int s, int t) {
        if (!areTwoSheets(s, t)) return BAD;
        Sheet one = sheets.all[s];
        Sheet other = sheets.all[t];
        if (!one.isOf(HALF) || !other.isOf(HALF)) return found(UNLIKE);
        if (one.song != other.song || one.cut.length != other.cut.length) return 0;
        long off = one.cutOff(other);
        if (off == 0 && one.broken == other.broken) return 2;
        return off <= inForceToday(C) ? 1 : 0;
    }

    // ---- 5 sellers, lost ones

    public int walk(int seller, int r) {
        if (!isSeller(seller) || !isRow(r)) return BAD;
        int[] row = rows[r];
        if (row == null) return found(NOTHING);
        if (row.length == 0) return found(SIZE);
        if (!allWithin(row, PLACES - 1)) return found(UNLIKE);
        sellers.walks[seller] = Arrays.copyOf(row, row.length);
        return row.length;
    }

    public int sung(int song, int place, int day) {
        if (!isSong(song) || !isPlace(place) || !isWalkedDay(day)) return BAD;
        if (sellers.size >= MOST_SUNG) return FULL;
        sellers.add(song, place, day);
        return sellers.size;
    }

    public int can(int seller, int song, int day) {
        if (!isSeller(seller) || !isSong(song) || !isWalkedDay(day)) return BAD;
        if (sellers.walks[seller] == null) return STATE;
        return sellers.havers(song, day) >> seller & 1;
    }

    public int far(int song, int place) {
        if (!isSong(song) || !isPlace(place)) return BAD;
        return sellers.firstDayAt(song, place);
    }

    public int lost() {
        int prints = sheets.printsOf(0);
        if (prints == 0) return found(NOUGHT);
        long ones = sheets.printsOf(1);
        long twos = sheets.printsOf(2);
        if (twos > 0) tellFraction(ones * ones, 2 * twos);
        else tellFraction(ones * (ones - 1), 2);
        return prints;
    }

    // ---- 6 what is told

    public long many() {
        return many;
    }

    public int asked() {
        return asked;
    }

    public long upper() {
        return upper;
    }

    public long lower() {
        return lower;
    }

    public int count(int what) {
        switch (what) {
            case 0: return today;
            case 1: return songsThere();
            case 2: return rowsThere(tunes);
            case 3: return sheets.size;
            case 4: return rules.size;
            case 5: return register.size;
            case 6: return rowsThere(rows);
            case 7: return textsThere();
            default: return BAD;
        }
    }

    public int finding() {
        return finding;
    }

    public int findings(int f) {
        if (f < NOTHING || f > SIZE) return BAD;
        return findings[f];
    }

    public long digest() {
        long h = 17;
        for (int what = 0; what < 8; what++) h = mix(h, count(what));
        for (int s = 0; s < SONGS; s++) {
            Song song = songs[s];
            h = mixText(h, song == null ? null : song.signs);
        }
        for (int u = 0; u < TUNES; u++) h = mixRow(h, tunes[u]);
        h = years.mixPrinters(h);
        h = sheets.mixAll(h);
        h = rules.mixAll(h);
        h = register.mixAll(h);
        h = sellers.mixAll(h);
        for (int r = 0; r < ROWS; r++) h = mixRow(h, rows[r]);
        for (int t = 0; t < TEXTS; t++) h = mixText(h, texts[t]);
        return h;
    }

    // ---- what numbers are ones

    private static boolean isRow(int r) {
        return r >= 0 && r < ROWS;
    }

    private static boolean isText(int t) {
        return t >= 0 && t < TEXTS;
    }

    private static boolean isSong(int s) {
        return s >= 0 && s < SONGS;
    }

    private static boolean isTune(int u) {
        return u >= 0 && u < TUNES;
    }

    private static boolean isDay(int day) {
        return day >= 0 && day <= LAST_DAY;
    }

    private static boolean isWalkedDay(int day) {
        return day >= 0 && day <= LAST_WALKED_DAY;
    }

    private static boolean isToldYear(int year) {
        return year >= FIRST_YEAR && year <= LAST_TOLD_YEAR;
    }

    private static boolean isSpan(int from, int till) {
        return isToldYear(from) && isToldYear(till) && from <= till;
    }

    private static boolean isForce(int what, int day, int known) {
        return what >= L && what <= C && isDay(day) && isDay(known);
    }

    private static boolean isPrinter(int p) {
        return p >= 0 && p < PRINTERS;
    }

    private static boolean isBlock(int block) {
        return block >= 0 && block < BLOCKS;
    }

    private static boolean isSeller(int seller) {
        return seller >= 0 && seller < SELLERS;
    }

    private static boolean isPlace(int place) {
        return place >= 0 && place < PLACES;
    }

    private static boolean isBits(int set, int bits) {
        return set >= 0 && set < 1 << bits;
    }

    private boolean isSheet(int s) {
        return s >= 0 && s < sheets.size;
    }

    private boolean areTwoSheets(int s, int t) {
        return isSheet(s) && isSheet(t) && s != t;
    }

    private boolean isSetOfSheets(int set) {
        return set != 0 && isBits(set, sheets.size);
    }

    private boolean haveSongs(int set) {
        for (int s = 0; s < sheets.size; s++) {
            if (has(set, s) && songs[sheets.all[s].song] == null) return false;
        }
        return true;
    }

    private static boolean allWithin(int[] row, int greatest) {
        for (int i = 0; i < row.length; i++) {
            if (row[i] < 0 || row[i] > greatest) return false;
        }
        return true;
    }

    private static boolean hasPlaces(int[] row, int from, int n) {
        return from >= 0 && n <= row.length && from <= row.length - n;
    }

    private static boolean has(int set, int one) {
        return (set >> one & 1) != 0;
    }

    // ---- what is answered

    private int found(int what) {
        finding = what;
        findings[what]++;
        return FINDING;
    }

    private int inForceToday(int letter) {
        return rules.inForce(letter, today, today);
    }

    private void tellFraction(long above, long below) {
        long divisor = Math.max(1, greatestDivisor(above, below));
        upper = above / divisor;
        lower = below / divisor;
    }

    private static long greatestDivisor(long a, long b) {
        long rest = a;
        long divisor = b;
        for (int step = 0; step < 100 && rest != 0; step++) {
            long next = divisor % rest;
            divisor = rest;
            rest = next;
        }
        return divisor;
    }

    private void tellWould(int ofFirst, int ofSecond, int shared) {
        long ways = 0;
        for (int both = shared; both <= ofSecond; both++) {
            ways += choices(ofFirst, both) * choices(TYPE_BITS - ofFirst, ofSecond - both);
        }
        tellFraction(ways, choices(TYPE_BITS, ofSecond));
    }

    private static long choices(int of, int some) {
        if (some < 0 || some > of) return 0;
        long ways = 1;
        for (int i = 1; i <= some; i++) ways = ways * (of - some + i) / i;
        return ways;
    }

    private int songsThere() {
        int there = 0;
        for (int s = 0; s < SONGS; s++) if (songs[s] != null) there++;
        return there;
    }

    private static int rowsThere(int[][] some) {
        int there = 0;
        for (int r = 0; r < some.length; r++) if (some[r] != null) there++;
        return there;
    }

    private int textsThere() {
        int there = 0;
        for (int t = 0; t < TEXTS; t++) if (texts[t] != null) there++;
        return there;
    }

    private static long mix(long h, int v) {
        return 31 * h + v;
    }

    private static long mixRow(long h, int[] row) {
        if (row == null) return mix(h, -1);
        long mixed = mix(h, row.length);
        for (int i = 0; i < row.length; i++) mixed = mix(mixed, row[i]);
        return mixed;
    }

    private static long mixText(long h, byte[] text) {
        if (text == null) return mix(h, -1);
        long mixed = mix(h, text.length);
        for (int i = 0; i < text.length; i++) mixed = mix(mixed, text[i]);
        return mixed;
    }

    /** A song: its signs as they were told, and its words and the marks between its lines as tokens. */
    private static final class Song {
        final byte[] signs;
        final int lines;
        final int[] tokenFrom;
        final int[] tokenEnd;
        final int tokens;

        Song(byte[] text, int lines) {
            this.signs = Arrays.copyOf(text, text.length);
            this.lines = lines;
            this.tokenFrom = new int[text.length];
            this.tokenEnd = new int[text.length];
            int n = 0;
            for (int i = 0; i < signs.length; i++) {
                if (signs[i] == BLANK) continue;
                boolean goesOn = n > 0 && isLetter(signs[i]) && isLetter(signs[i - 1]);
                if (!goesOn) tokenFrom[n++] = i;
                tokenEnd[n - 1] = i + 1;
            }
            this.tokens = n;
        }

        /** How many lines a text has; NONE, if it is no song. */
        static int linesIn(byte[] text) {
            int lines = 1;
            boolean word = false;
            for (int i = 0; i < text.length; i++) {
                if (isLetter(text[i])) {
                    word = true;
                } else if (text[i] == SLASH) {
                    if (!word) return NONE;
                    word = false;
                    lines++;
                } else if (text[i] != BLANK) {
                    return NONE;
                }
            }
            return word && lines <= MOST_LINES ? lines : NONE;
        }

        static boolean isLetter(int sign) {
            return sign >= 'a' && sign <= 'z';
        }

        static boolean isVowel(int sign) {
            return sign == 'a' || sign == 'e' || sign == 'i' || sign == 'o' || sign == 'u' || sign == 'y';
        }

        boolean hasLine(int line) {
            return line >= 0 && line < lines;
        }

        int words() {
            return tokens - (lines - 1);
        }

        int letters() {
            int letters = 0;
            for (int i = 0; i < signs.length; i++) if (isLetter(signs[i])) letters++;
            return letters;
        }

        int beats(int line) {
            int at = 0;
            int beats = 0;
            boolean behindVowel = false;
            for (int i = 0; i < signs.length && at <= line; i++) {
                boolean vowel = isVowel(signs[i]);
                if (vowel && !behindVowel && at == line) beats++;
                if (signs[i] == SLASH) at++;
                behindVowel = vowel;
            }
            return beats;
        }

        /** The first line whose beats are off those of a tune (that has some) by more than slack; NONE. */
        int firstMisfit(int[] tune, int slack) {
            int place = 0;
            for (int line = 0; line < lines && place < tune.length; line++) {
                int off = beats(line) - tune[place];
                if (off > slack || -off > slack) return line;
                place = place + 1 < tune.length ? place + 1 : 0;
            }
            return NONE;
        }

        boolean linesRhyme(int i, int j) {
            int one = lastWord(i);
            int other = lastWord(j);
            boolean single = size(one) == 1;
            if (single != (size(other) == 1)) return false;
            if (fromEnd(one, 1) != fromEnd(other, 1)) return false;
            return single || fromEnd(one, 2) == fromEnd(other, 2);
        }

        private int lastWord(int line) {
            int at = 0;
            int last = 0;
            for (int k = 0; k < tokens && at <= line; k++) {
                if (signs[tokenFrom[k]] == SLASH) at++;
                else last = k;
            }
            return last;
        }

        private int size(int token) {
            return tokenEnd[token] - tokenFrom[token];
        }

        private int fromEnd(int token, int back) {
            return signs[tokenEnd[token] - back];
        }

        boolean hasSameToken(int token, Song other, int otherToken) {
            int size = size(token);
            if (size != other.size(otherToken)) return false;
            int from = tokenFrom[token];
            int otherFrom = other.tokenFrom[otherToken];
            for (int i = 0; i < size; i++) {
                if (signs[from + i] != other.signs[otherFrom + i]) return false;
            }
            return true;
        }
    }

    /** The rules of the desk: of each the day it was told on, its from-day, its last number by letters. */
    private static final class Rules {
        final int[] toldOn = new int[MOST_RULES];
        final int[] from = new int[MOST_RULES];
        final int[] numbers = new int[MOST_RULES * RULE_LETTERS.length];
        int size;

        /** The first place at which a text can't go on as rules; NONE, if there is none. */
        static int faultIn(byte[] text) {
            final int outside = -1;
            int digits = outside;
            for (int i = 0; i < text.length; i++) {
                if (isDigit(text[i])) {
                    if (digits == outside || digits == 3) return i;
                    digits++;
                } else if (digits == 0) {
                    return i;
                } else if (text[i] == BLANK) {
                    digits = outside;
                } else if (letterOf(text[i]) == NONE) {
                    return i;
                } else {
                    digits = 0;
                }
            }
            return digits == 0 ? text.length : NONE;
        }

        private static boolean isDigit(int sign) {
            return sign >= '0' && sign <= '9';
        }

        private static int letterOf(int sign) {
            for (int k = 0; k < RULE_LETTERS.length; k++) if (RULE_LETTERS[k] == sign) return k;
            return NONE;
        }

        /** Adds rules by a text without a fault. */
        int add(byte[] text, int today, int fromDay) {
            int base = size * RULE_LETTERS.length;
            for (int k = 0; k < RULE_LETTERS.length; k++) numbers[base + k] = NONE;
            int at = base;
            for (int i = 0; i < text.length; i++) {
                int letter = letterOf(text[i]);
                if (letter != NONE) {
                    at = base + letter;
                    numbers[at] = 0;
                } else if (isDigit(text[i])) {
                    numbers[at] = numbers[at] * 10 + (text[i] - '0');
                }
            }
            toldOn[size] = today;
            from[size] = fromDay;
            return size++;
        }

        int governing(int letter, int day, int known) {
            int best = NONE;
            for (int k = 0; k < size; k++) {
                if (toldOn[k] > known || from[k] > day || numberOf(k, letter) == NONE) continue;
                // Rules are kept as they were told: of alike from-days the later number was told last.
                if (best == NONE || from[k] >= from[best]) best = k;
            }
            return best;
        }

        int inForce(int letter, int day, int known) {
            int best = governing(letter, day, known);
            return best == NONE ? FORCE_AT_FIRST[letter] : numberOf(best, letter);
        }

        private int numberOf(int which, int letter) {
            return numbers[which * RULE_LETTERS.length + letter];
        }

        long mixAll(long h) {
            long mixed = h;
            for (int k = 0; k < size; k++) mixed = mix(mix(mixed, toldOn[k]), from[k]);
            return mixed;
        }
    }

    /** A sheet of any kind; only a half has a cut that is its own. */
    private static final class Sheet {
        static final int TOLD = 9;
        private static final int ALIKE = 0, FIRST = 1, SECOND = -1, APART = 2;

        final int kind;
        final int printer;
        final int song;
        final int toldOn;
        final int[] cut;
        int block = NONE;
        int cracks;
        int broken;
        int slips;
        int from = NONE;
        int till = NONE;

        Sheet(int kind, int printer, int song, int toldOn, int[] cut) {
            this.kind = kind;
            this.printer = printer;
            this.song = song;
            this.toldOn = toldOn;
            this.cut = cut;
        }

        /** Whether it is of a kind above 0; no such kind has more than one other such kind above it. */
        boolean isOf(int wanted) {
            return kind == wanted || KIND_ABOVE[kind] == wanted;
        }

        int tells(int what) {
            switch (what) {
                case 0: return kind;
                case 1: return printer;
                case 2: return song;
                case 3: return block;
                case 4: return cracks;
                case 5: return broken;
                case 6: return slips;
                case 7: return from;
                default: return till;
            }
        }

        boolean hasSpan() {
            return from != NONE;
        }

        boolean isOfPrintOf(Sheet other) {
            return isOf(COPY) && song == other.song && printer == other.printer;
        }

        boolean isAheadOf(Sheet other) {
            return byBlock(other) == FIRST || byType(other) == FIRST;
        }

        /** What ahead() answers: above 0 by what it is ahead of the other one, below 0 how they quarrel. */
        int standing(Sheet other) {
            int byBlock = byBlock(other);
            int byType = byType(other);
            if (byBlock == APART || byType == APART) {
                return (byBlock == APART ? -10 : 0) + (byType == APART ? -20 : 0);
            }
            if (byBlock != ALIKE && byType == -byBlock) return -40;
            return (byBlock == FIRST ? 1 : 0) + (byType == FIRST ? 2 : 0);
        }

        private int byBlock(Sheet other) {
            return block == NONE || block != other.block ? ALIKE : whichFirst(cracks, other.cracks);
        }

        private int byType(Sheet other) {
            return printer == NONE || printer != other.printer ? ALIKE : whichFirst(broken, other.broken);
        }

        private static int whichFirst(int harm, int otherHarm) {
            if (harm == otherHarm) return ALIKE;
            if ((harm & ~otherHarm) == 0) return FIRST;
            return (otherHarm & ~harm) == 0 ? SECOND : APART;
        }

        /** By how much a sum of two cuts (of one size) is off the first sum at most. */
        long cutOff(Sheet other) {
            long most = 0;
            for (int i = 0; i < cut.length && i < other.cut.length; i++) {
                long off = (long) cut[i] + other.cut[i] - cut[0] - other.cut[0];
                most = Math.max(most, Math.max(off, -off));
            }
            return most;
        }
    }

    /** All sheets, as they were told. */
    private static final class Sheets {
        final Sheet[] all = new Sheet[MOST_SHEETS];
        int size;

        int add(Sheet sheet) {
            all[size] = sheet;
            return size++;
        }

        int withBlock(int block) {
            int n = 0;
            for (int s = 0; s < size; s++) if (all[s].block == block) n++;
            return n;
        }

        int withSpan() {
            int n = 0;
            for (int s = 0; s < size; s++) if (all[s].hasSpan()) n++;
            return n;
        }

        int leftOfPrint(Sheet sheet) {
            int n = 0;
            for (int s = 0; s < size; s++) if (all[s].isOfPrintOf(sheet)) n++;
            return n;
        }

        /** How many prints have so many copies left; 0: how many prints there are. */
        int printsOf(int left) {
            int prints = 0;
            for (int s = 0; s < size; s++) {
                if (!isFirstOfPrint(s)) continue;
                if (left == 0 || leftOfPrint(all[s]) == left) prints++;
            }
            return prints;
        }

        private boolean isFirstOfPrint(int s) {
            if (!all[s].isOf(COPY)) return false;
            for (int t = 0; t < s; t++) if (all[t].isOfPrintOf(all[s])) return false;
            return true;
        }

        int sharing(int s, int slips) {
            int n = 0;
            for (int t = 0; t < size; t++) {
                if (t != s && Integer.bitCount(all[s].slips & all[t].slips) >= slips) n++;
            }
            return n;
        }

        int firstQuarrel() {
            for (int s = 0; s < size; s++) {
                for (int t = s + 1; t < size; t++) {
                    if (all[s].standing(all[t]) < 0) return 100 * s + t;
                }
            }
            return NONE;
        }

        int firstOutOfOrder(int block, int[] row) {
            int came = 0;
            for (int i = 0; i < row.length; i++) {
                int s = row[i];
                if (s < 0 || s >= size || all[s].block != block || has(came, s)) return i;
                if (isAheadOfAny(s, came)) return i;
                came |= 1 << s;
            }
            return row.length < withBlock(block) ? row.length : NONE;
        }

        private boolean isAheadOfAny(int s, int set) {
            for (int t = 0; t < size; t++) {
                if (has(set, t) && all[s].isAheadOf(all[t])) return true;
            }
            return false;
        }

        long mixAll(long h) {
            long mixed = h;
            for (int s = 0; s < size; s++) {
                for (int what = 0; what < Sheet.TOLD; what++) mixed = mix(mixed, all[s].tells(what));
                if (all[s].kind == HALF) mixed = mixRow(mixed, all[s].cut);
            }
            return mixed;
        }
    }

    /** The orders of the sheets with one block, counted by sets that may stand foremost. */
    private static final class Orders {
        private final int[] members = new int[MOST_ORDERED];
        private final int[] mustPrecede = new int[MOST_ORDERED];
        // Grown when first needed: most desks never order twelve sheets.
        private int[] waysOfSet = new int[1];
        int size;

        /** Takes the sheets with a block, of which there are MOST_ORDERED at most. */
        void gather(Sheets sheets, int block) {
            size = 0;
            for (int s = 0; s < sheets.size && size < MOST_ORDERED; s++) {
                if (sheets.all[s].block == block) members[size++] = s;
            }
            for (int m = 0; m < size; m++) {
                mustPrecede[m] = 0;
                for (int k = 0; k < size; k++) {
                    if (sheets.all[members[k]].isAheadOf(sheets.all[members[m]])) mustPrecede[m] |= 1 << k;
                }
            }
        }

        /** Lets only those orders count in which s stands ahead of t. */
        void demand(int s, int t) {
            for (int m = 0; m < size; m++) {
                if (members[m] == t) mustPrecede[m] |= 1 << placeOf(s);
            }
        }

        private int placeOf(int s) {
            int place = 0;
            for (int m = 0; m < size; m++) if (members[m] == s) place = m;
            return place;
        }

        /** Twelve sheets have 479001600 orders at most, so an int holds each number. */
        int ways() {
            int full = (1 << size) - 1;
            if (waysOfSet.length <= full) waysOfSet = new int[full + 1];
            for (int set = 0; set <= full; set++) waysOfSet[set] = 0;
            waysOfSet[0] = 1;
            for (int set = 0; set < full; set++) {
                if (waysOfSet[set] != 0) goOnFrom(set);
            }
            return waysOfSet[full];
        }

        private void goOnFrom(int set) {
            int ways = waysOfSet[set];
            for (int m = 0; m < size; m++) {
                int bit = 1 << m;
                if ((set & bit) == 0 && (mustPrecede[m] & ~set) == 0) waysOfSet[set | bit] += ways;
            }
        }
    }

    /** The years that sheets can have, by printers, told spans and which sheet is ahead of which. */
    private static final class Years {
        private final int[] printerFrom = new int[PRINTERS];
        private final int[] printerTill = new int[PRINTERS];
        /** Of each sheet the set of those that are no older, by however many steps. */
        private final int[] noOlder = new int[MOST_SHEETS];
        private final int[] doubted = new int[MOST_DOUBTED];
        private final int[] clashing = new int[MOST_DOUBTED];
        final int[] least = new int[MOST_SHEETS];
        final int[] most = new int[MOST_SHEETS];

        Years() {
            for (int p = 0; p < PRINTERS; p++) {
                printerFrom[p] = NONE;
                printerTill[p] = NONE;
            }
        }

        void setPrinter(int p, int from, int till) {
            printerFrom[p] = from;
            printerTill[p] = till;
        }

        /** Works out the least and greatest years of all sheets: whether there are such. */
        boolean work(Sheets sheets, int slack) {
            findNoOlder(sheets);
            return bound(sheets, slack, true);
        }

        private void findNoOlder(Sheets sheets) {
            for (int s = 0; s < sheets.size; s++) {
                noOlder[s] = 0;
                for (int t = 0; t < sheets.size; t++) {
                    if (sheets.all[s].isAheadOf(sheets.all[t])) noOlder[s] |= 1 << t;
                }
            }
            for (int by = 0; by < sheets.size; by++) {
                for (int s = 0; s < sheets.size; s++) {
                    if (has(noOlder[s], by)) noOlder[s] |= noOlder[by];
                }
            }
        }

        private boolean bound(Sheets sheets, int slack, boolean bySpans) {
            for (int s = 0; s < sheets.size; s++) boundAlone(s, sheets.all[s], slack, bySpans);
            // noOlder leaps over all steps between, so one pass carries each bound as far as it goes.
            for (int s = 0; s < sheets.size; s++) {
                for (int t = 0; t < sheets.size; t++) {
                    if (!has(noOlder[s], t)) continue;
                    least[t] = Math.max(least[t], least[s]);
                    most[s] = Math.min(most[s], most[t]);
                }
            }
            for (int s = 0; s < sheets.size; s++) if (least[s] > most[s]) return false;
            return true;
        }

        private void boundAlone(int s, Sheet sheet, int slack, boolean bySpan) {
            least[s] = FIRST_YEAR;
            most[s] = LAST_YEAR;
            int p = sheet.printer;
            if (p != NONE && printerFrom[p] != NONE) {
                least[s] = printerFrom[p];
                most[s] = Math.min(LAST_YEAR, printerTill[p] + slack);
            }
            if (bySpan && sheet.hasSpan()) {
                least[s] = Math.max(least[s], sheet.from);
                most[s] = Math.min(most[s], sheet.till);
            }
        }

        /** The fewest spans (of MOST_DOUBTED at most) without which there are years; NONE. Behind work(). */
        int fewestDoubts(Sheets sheets, int slack) {
            if (!bound(sheets, slack, false)) return NONE;
            int n = 0;
            for (int s = 0; s < sheets.size && n < MOST_DOUBTED; s++) {
                if (sheets.all[s].hasSpan()) doubted[n++] = s;
            }
            int surely = findClashes(sheets, n);
            int best = (1 << n) - 1;
            for (int dropped = best; dropped >= 0; dropped--) {
                if ((surely & ~dropped) != 0 || !clear(dropped, n)) continue;
                if (Integer.bitCount(dropped) <= Integer.bitCount(best)) best = dropped;
            }
            return spread(best, n);
        }

        /**
         * Bounds clash by twos, a least year with a greatest one behind it: a span with what holds
         * without any (it is among those answered), or two spans with one another (clashing).
         */
        private int findClashes(Sheets sheets, int n) {
            int surely = 0;
            for (int k = 0; k < n; k++) {
                clashing[k] = 0;
                int s = doubted[k];
                Sheet sheet = sheets.all[s];
                if (sheet.from > most[s] || sheet.till < least[s]) surely |= 1 << k;
                for (int m = 0; m < n; m++) {
                    int t = doubted[m];
                    if (has(noOlder[s], t) && sheet.from > sheets.all[t].till) clashing[k] |= 1 << m;
                }
            }
            return surely;
        }

        private boolean clear(int dropped, int n) {
            for (int k = 0; k < n; k++) {
                if (!has(dropped, k) && (clashing[k] & ~dropped) != 0) return false;
            }
            return true;
        }

        private int spread(int dropped, int n) {
            int set = 0;
            for (int k = 0; k < n; k++) if (has(dropped, k)) set |= 1 << doubted[k];
            return set;
        }

        long mixPrinters(long h) {
            long mixed = h;
            for (int p = 0; p < PRINTERS; p++) mixed = mix(mix(mixed, printerFrom[p]), printerTill[p]);
            return mixed;
        }
    }

    /** Songs laid side by side, and the families of sheets that change least. */
    private static final class Families {
        private final int[] cost = new int[MOST_BYTES + 1];
        private final int[] byNumber = new int[MOST_KIN];
        private final int[] byAge = new int[MOST_KIN];
        private final int[] rank = new int[MOST_SHEETS];
        private final Song[] songOf = new Song[MOST_SHEETS];
        private int members;
        int rivals;

        int changesBetween(Song a, Song b) {
            for (int j = 0; j <= b.tokens; j++) cost[j] = j;
            for (int i = 0; i < a.tokens; i++) {
                int corner = cost[0];
                cost[0] = i + 1;
                for (int j = 0; j < b.tokens; j++) {
                    int above = cost[j + 1];
                    boolean same = a.hasSameToken(i, b, j);
                    cost[j + 1] = same ? corner : 1 + Math.min(corner, Math.min(above, cost[j]));
                    corner = above;
                }
            }
            return cost[b.tokens];
        }

        /** Takes a set of sheets (MOST_KIN at most, their songs there) and orders it by least years. */
        void gather(int set, Sheets sheets, Song[] songs, int[] least) {
            members = 0;
            for (int s = 0; s < MOST_SHEETS; s++) rank[s] = NONE;
            for (int s = 0; s < sheets.size; s++) {
                if (!has(set, s) || members >= MOST_KIN) continue;
                songOf[s] = songs[sheets.all[s].song];
                byNumber[members] = s;
                int place = members++;
                for (; place > 0 && least[byAge[place - 1]] > least[s]; place--) byAge[place] = byAge[place - 1];
                byAge[place] = s;
            }
            for (int k = 0; k < members; k++) rank[byAge[k]] = k;
        }

        /** Each but the root chooses its parent by itself, so the ways to choose alike well multiply. */
        int leastSum() {
            int sum = 0;
            rivals = 1;
            for (int k = 1; k < members; k++) {
                int best = 0;
                int alike = 0;
                for (int parent = 0; parent < k; parent++) {
                    int changes = changesFrom(byAge[parent], byAge[k]);
                    if (alike == 0 || changes < best) {
                        best = changes;
                        alike = 1;
                    } else if (changes == best) {
                        alike++;
                    }
                }
                sum += best;
                rivals *= alike;
            }
            return sum;
        }

        private int changesFrom(int parent, int s) {
            Song one = songOf[parent];
            Song other = songOf[s];
            return one == null || other == null || one == other ? 0 : changesBetween(one, other);
        }

        /** The first sheet by number that can't have its parent in a row of as many places; NONE. */
        int firstWrongParent(int[] row) {
            for (int k = 0; k < members && k < row.length; k++) {
                if (!canDescend(byNumber[k], row[k])) return byNumber[k];
            }
            return NONE;
        }

        private boolean canDescend(int s, int parent) {
            if (parent == NONE) return rank[s] == 0;
            if (parent < 0 || parent >= MOST_SHEETS || rank[parent] == NONE) return false;
            return rank[parent] < rank[s];
        }

        int sumOf(int[] row) {
            int sum = 0;
            for (int k = 0; k < members && k < row.length; k++) {
                if (row[k] != NONE) sum += changesFrom(row[k], byNumber[k]);
            }
            return sum;
        }
    }

    /** The register: entries as they were told, and their numbers by years. */
    private static final class Register {
        private final int[] songs = new int[MOST_ENTRIES];
        private final int[] printers = new int[MOST_ENTRIES];
        private final int[] years = new int[MOST_ENTRIES];
        private final int[] byYears = new int[MOST_ENTRIES];
        int size;

        void add(int song, int printer, int year) {
            songs[size] = song;
            printers[size] = printer;
            years[size] = year;
            int place = size;
            for (; place > 0 && years[byYears[place - 1]] > year; place--) byYears[place] = byYears[place - 1];
            byYears[place] = size;
            size++;
        }

        int entriesOf(int song, int printer) {
            int n = 0;
            for (int e = 0; e < size; e++) if (songs[e] == song && printers[e] == printer) n++;
            return n;
        }

        int holder(int song, int year, int lasting) {
            int holder = NONE;
            int end = FIRST_YEAR;
            for (int k = 0; k < size; k++) {
                int e = byYears[k];
                if (songs[e] != song || years[e] > year) continue;
                if (years[e] < end && printers[e] != holder) continue;
                holder = printers[e];
                end = years[e] + lasting;
            }
            return year < end ? holder : NONE;
        }

        long mixAll(long h) {
            long mixed = h;
            for (int e = 0; e < size; e++) mixed = mix(mix(mix(mixed, songs[e]), printers[e]), years[e]);
            return mixed;
        }
    }

    /** Sellers who walk, and where songs were printed. */
    private static final class Sellers {
        final int[][] walks = new int[SELLERS][];
        private final int[] sungSongs = new int[MOST_SUNG];
        private final int[] sungPlaces = new int[MOST_SUNG];
        private final int[] sungDays = new int[MOST_SUNG];
        private final int[] printedFrom = new int[PLACES];
        int size;

        void add(int song, int place, int day) {
            sungSongs[size] = song;
            sungPlaces[size] = place;
            sungDays[size] = day;
            size++;
        }

        /** The sellers who can have a song on a day, as a set. */
        int havers(int song, int day) {
            findPrinted(song);
            int havers = 0;
            for (int d = 0; d <= day; d++) havers |= sellersAt(placesWith(havers, d), d);
            return havers;
        }

        int firstDayAt(int song, int place) {
            findPrinted(song);
            int havers = 0;
            for (int d = 0; d <= LAST_WALKED_DAY; d++) {
                int places = placesWith(havers, d);
                if (has(places, place)) return d;
                havers |= sellersAt(places, d);
            }
            return NONE;
        }

        private void findPrinted(int song) {
            for (int p = 0; p < PLACES; p++) printedFrom[p] = LAST_WALKED_DAY + 1;
            for (int k = 0; k < size; k++) {
                int p = sungPlaces[k];
                if (sungSongs[k] == song) printedFrom[p] = Math.min(printedFrom[p], sungDays[k]);
            }
        }

        /** The places with a seller who has the song or gets it there from the press, as a set. */
        private int placesWith(int havers, int day) {
            int places = 0;
            for (int seller = 0; seller < SELLERS; seller++) {
                int place = placeOf(seller, day);
                if (place == NONE) continue;
                if (has(havers, seller) || printedFrom[place] <= day) places |= 1 << place;
            }
            return places;
        }

        private int sellersAt(int places, int day) {
            int set = 0;
            for (int seller = 0; seller < SELLERS; seller++) {
                int place = placeOf(seller, day);
                if (place != NONE && has(places, place)) set |= 1 << seller;
            }
            return set;
        }

        private int placeOf(int seller, int day) {
            int[] walk = walks[seller];
            if (walk == null || walk.length == 0) return NONE;
            return walk[Math.min(day, walk.length - 1)];
        }

        long mixAll(long h) {
            long mixed = h;
            for (int seller = 0; seller < SELLERS; seller++) mixed = mixRow(mixed, walks[seller]);
            for (int k = 0; k < size; k++) {
                mixed = mix(mix(mix(mixed, sungSongs[k]), sungPlaces[k]), sungDays[k]);
            }
            return mixed;
        }
    }
}
