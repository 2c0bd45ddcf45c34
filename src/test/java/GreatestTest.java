import java.util.ArrayList;
import java.util.Arrays;
import java.util.List;
import java.util.Random;

/**
 * The greatest sizes that the document leaves, which ModelTest is too slow for: blocks of 8 to 12 sheets, families of
 * 8 to 10, desks with 20 sheets and 10 spans, songs of 60 signs, full registers, rules and walks. What is due is found
 * by trying out, year by year, day by day, row by row.
 */
public final class GreatestTest {
    private static final int NONE = -9, SPENT = -6;
    private static final int MOST_ROWS = 300_000;

    private static Random random;
    private static BalladSheets x;
    private static int desk;
    private static int asked;
    private static int wrong;
    private static int met;

    private static void newDesk(int number) {
        desk = number;
        random = new Random(number * 104_729L);
        x = new BalladSheets();
    }

    private static void due(String call, long want, long got) {
        asked++;
        if (want == got) return;
        wrong++;
        System.out.println("desk " + desk + ": " + call + " answered " + got + ", due is " + want);
    }

    private static void met(String what, int atLeast) {
        if (met < atLeast) {
            wrong++;
            System.out.println("only " + met + " " + what);
        }
        met = 0;
    }

    private static int upTo(int below) {
        return random.nextInt(below);
    }

    private static boolean within(int a, int b) {
        return a != b && (a & ~b) == 0;
    }

    // ---- orders of 8 to 12 sheets

    private static int[] printer, cracks, broken;

    private static void showSheets(int n) {
        printer = new int[n];
        cracks = new int[n];
        broken = new int[n];
        int steps = 2 + upTo(11), kinds = 1 + upTo(3);
        for (int s = 0; s < n; s++) {
            printer[s] = upTo(4) == 0 ? NONE : upTo(kinds);
            cracks[s] = (1 << upTo(steps)) - 1;
            broken[s] = upTo(3) == 0 ? 0 : (1 << Integer.bitCount(cracks[s])) - 1;
            if (upTo(9) == 0) cracks[s] |= 1 << upTo(12);
            x.sheet(0, printer[s], 0, 0);
            x.block(s, 3, cracks[s]);
            x.type(s, broken[s], 0);
        }
    }

    private static boolean isAhead(int s, int t) {
        return within(cracks[s], cracks[t]) || printer[s] != NONE && printer[s] == printer[t] && within(broken[s], broken[t]);
    }

    /** All rows, each with the place of each sheet; no more than MOST_ROWS and one. */
    private static void rows(int[] row, int size, int[] place, List<int[]> all) {
        if (all.size() > MOST_ROWS) return;
        if (size == row.length) {
            all.add(place.clone());
            return;
        }
        for (int s = 0; s < row.length; s++) {
            if (place[s] >= 0) continue;
            boolean may = true;
            for (int k = 0; k < size; k++) may &= !isAhead(s, row[k]);
            if (!may) continue;
            row[size] = s;
            place[s] = size;
            rows(row, size + 1, place, all);
            place[s] = -1;
        }
    }

    private static void orders() {
        for (int k = 0; k < 150; k++) {
            newDesk(k);
            int n = 8 + upTo(5);
            showSheets(n);
            List<int[]> all = new ArrayList<>();
            int[] none = new int[n];
            Arrays.fill(none, -1);
            rows(new int[n], 0, none, all);
            if (all.size() > MOST_ROWS) continue;
            if (!all.isEmpty()) met++;
            due("orders(3)", n, x.orders(3));
            due("many()", all.size(), x.many());
            for (int pair = 0; pair < 12; pair++) stands(upTo(n), upTo(n), all);
            if (!all.isEmpty()) judgedOrders(n, all);
        }
        met("blocks of 8 to 12 sheets have orders", 40);
    }

    private static void stands(int s, int t, List<int[]> all) {
        if (s == t) return;
        long ahead = 0;
        for (int[] place : all) if (place[s] < place[t]) ahead++;
        due("standsAhead(" + s + ", " + t + ")", 1, x.standsAhead(s, t));
        due("many()", ahead, x.many());
    }

    private static void judgedOrders(int n, List<int[]> all) {
        int[] place = all.get(upTo(all.size()));
        x.row(0, n);
        for (int s = 0; s < n; s++) x.lay(0, place[s], s);
        due("judgeOrder of an order", NONE, x.judgeOrder(3, 0));
        int[] other = place.clone();
        int s = upTo(n), t = upTo(n);
        other[s] = place[t];
        other[t] = place[s];
        boolean isOne = false;
        for (int[] one : all) isOne |= Arrays.equals(one, other);
        x.lay(0, other[s], s);
        x.lay(0, other[t], t);
        due("judgeOrder of a changed order is one", isOne ? 1 : 0, x.judgeOrder(3, 0) == NONE ? 1 : 0);
    }

    // ---- years and doubts of 20 sheets

    private static int[][] spans, printers;
    private static int[] block;

    private static void datedSheets(int spanned) {
        showSheets(20);
        block = new int[20];
        spans = new int[20][];
        printers = new int[8][];
        for (int p = 0; p < 3; p++) {
            if (upTo(3) == 0) continue;
            int from = 1600 + upTo(60);
            printers[p] = new int[] {from, from + 20 + upTo(60)};
            x.printer(p, printers[p][0], printers[p][1]);
        }
        for (int s = 0; s < 20; s++) {
            block[s] = upTo(3) == 0 ? NONE : upTo(3);
            x.block(s, block[s], cracks[s]);
        }
        for (int k = 0; k < spanned; k++) {
            int s = upTo(20);
            if (spans[s] != null) continue;
            int from = 1590 + 5 * Integer.bitCount(cracks[s]) + upTo(70);
            spans[s] = new int[] {from, from + upTo(50)};
            x.span(s, spans[s][0], spans[s][1]);
        }
    }

    private static boolean isOlder(int s, int t) {
        if (block[s] != NONE && block[s] == block[t] && within(cracks[s], cracks[t])) return true;
        return printer[s] != NONE && printer[s] == printer[t] && within(broken[s], broken[t]);
    }

    /** Least and greatest years, found by taking away one year after the other; null: there are none. */
    private static int[][] years(int without) {
        int[][] y = new int[20][];
        for (int s = 0; s < 20; s++) {
            y[s] = new int[] {1500, 1999};
            int[] by = printer[s] == NONE ? null : printers[printer[s]];
            if (by != null) y[s] = new int[] {by[0], by[1] + 2};
            if (spans[s] != null && (without >> s & 1) == 0) {
                y[s] = new int[] {Math.max(y[s][0], spans[s][0]), Math.min(y[s][1], spans[s][1])};
            }
        }
        for (boolean again = true; again; ) {
            again = false;
            for (int s = 0; s < 20; s++) {
                for (int t = 0; t < 20; t++) {
                    if (!isOlder(s, t)) continue;
                    if (y[t][0] < y[s][0]) again = ++y[t][0] > 0;
                    if (y[s][1] > y[t][1]) again = --y[s][1] > 0;
                    if (y[s][0] > y[s][1] || y[t][0] > y[t][1]) return null;
                }
            }
        }
        for (int[] one : y) if (one[0] > one[1]) return null;
        return y;
    }

    private static int doubted() {
        int told = 0, best = NONE;
        for (int s = 0; s < 20; s++) if (spans[s] != null) told |= 1 << s;
        if (years(0) != null) return 0;
        if (Integer.bitCount(told) > 10) return SPENT;
        for (int set = told; ; set = set - 1 & told) {
            boolean better = best == NONE || Integer.bitCount(set) < Integer.bitCount(best)
                || Integer.bitCount(set) == Integer.bitCount(best) && set < best;
            if (better && years(set) != null) best = set;
            if (set == 0) return best;
        }
    }

    private static void dates() {
        for (int k = 0; k < 400; k++) {
            newDesk(k);
            datedSheets(7 + upTo(6));
            int[][] y = years(0);
            for (int s = 0; s < 20; s++) {
                due("year(" + s + ", false)", y == null ? NONE : y[s][0], x.year(s, false));
                due("year(" + s + ", true)", y == null ? NONE : y[s][1], x.year(s, true));
            }
            int due = doubted();
            if (Integer.bitCount(due) > 1 && due > 0) met++;
            due("doubts()", due, x.doubts());
        }
        met("desks have two doubts or more", 60);
    }

    // ---- songs of 60 signs, families of 8 to 10

    private static String song() {
        String[] words = {"a", "b", "o", "sea", "my", "ship"};
        StringBuilder b = new StringBuilder(words[upTo(6)]);
        int slashes = 0, few = 1 + upTo(6);
        while (b.length() < 55) {
            boolean line = slashes < 7 && upTo(4) == 0;
            b.append(line ? "/" : " ").append(words[upTo(few)]);
            if (line) slashes++;
        }
        while (b.length() < 60) b.append(' ');
        return b.toString();
    }

    private static void sing(int s, String song) {
        x.text(0, song.length());
        for (int i = 0; i < song.length(); i++) if (song.charAt(i) != ' ') x.put(0, i, song.charAt(i));
        x.song(s, 0);
    }

    private static int changes(String a, String b) {
        String[] from = a.replace("/", " / ").trim().split(" +"), to = b.replace("/", " / ").trim().split(" +");
        int[][] left = new int[from.length + 1][to.length + 1];
        for (int i = from.length; i >= 0; i--) {
            for (int j = to.length; j >= 0; j--) {
                if (i == from.length || j == to.length) {
                    left[i][j] = from.length - i + to.length - j;
                    continue;
                }
                int other = left[i + 1][j + 1] + (from[i].equals(to[j]) ? 0 : 1);
                left[i][j] = Math.min(other, 1 + Math.min(left[i + 1][j], left[i][j + 1]));
            }
        }
        return left[0][0];
    }

    private static int[] song, year;
    private static int[][] apart;
    private static long[] familiesOf;

    private static void parents(Integer[] order, int at, int sum) {
        if (at == order.length) {
            familiesOf[sum]++;
            return;
        }
        for (int k = 0; k < at; k++) parents(order, at + 1, sum + apart[song[order[at]]][song[order[k]]]);
    }

    private static void families() {
        for (int k = 0; k < 60; k++) {
            newDesk(k);
            String[] songs = new String[6];
            for (int s = 0; s < 6; s++) sing(s, songs[s] = s > 0 && upTo(3) == 0 ? songs[0].replace("sea", "my") : song());
            apart = new int[6][6];
            for (int a = 0; a < 6; a++) {
                for (int b = 0; b < 6; b++) due("changes(" + a + ", " + b + ")", apart[a][b] = changes(songs[a], songs[b]), x.changes(a, b));
            }
            family(8 + upTo(3), 10 + upTo(11));
        }
        met("families of 8 to 10 have rivals", 30);
    }

    private static void family(int size, int sheets) {
        song = new int[sheets];
        year = new int[sheets];
        for (int s = 0; s < sheets; s++) {
            song[s] = upTo(6);
            year[s] = upTo(4) == 0 ? 1500 : 1600 + upTo(12);
            x.sheet(upTo(2), NONE, song[s], 0);
            if (year[s] != 1500) x.span(s, year[s], 1700);
        }
        List<Integer> members = new ArrayList<>();
        while (members.size() < size) {
            int s = upTo(sheets);
            if (!members.contains(s)) members.add(s);
        }
        members.sort(null);
        int set = 0;
        for (int s : members) set |= 1 << s;
        Integer[] order = members.toArray(new Integer[0]);
        Arrays.sort(order, (s, t) -> year[s] != year[t] ? year[s] - year[t] : s - t);
        familiesOf = new long[1000];
        parents(order, 1, 0);
        int least = 0;
        while (familiesOf[least] == 0) least++;
        due("family(" + set + ")", least, x.family(set));
        due("many()", familiesOf[least], x.many());
        if (familiesOf[least] > 1) met++;
        judged(set, members, Arrays.asList(order));
    }

    private static void judged(int set, List<Integer> members, List<Integer> order) {
        x.row(0, members.size());
        int sum = 0;
        for (int k = 0; k < members.size(); k++) {
            int s = members.get(k), at = order.indexOf(s);
            int parent = at == 0 ? NONE : order.get(upTo(at));
            if (at > 0) sum += apart[song[s]][song[parent]];
            x.lay(0, k, parent);
        }
        due("judge(" + set + ", 0)", NONE, x.judge(set, 0));
        due("asked()", sum, x.asked());
        int wrongOne = upTo(members.size()), at = order.indexOf(members.get(wrongOne));
        x.lay(0, wrongOne, order.get(at + upTo(members.size() - at)));
        due("judge(" + set + ", 0) of a changed row", members.get(wrongOne), x.judge(set, 0));
    }

    // ---- full registers, rules, walks

    private static void rights() {
        for (int k = 0; k < 40; k++) {
            newDesk(k);
            int lasts = 1 + upTo(30);
            tellRule("R" + lasts, 0);
            int[][] entries = new int[40][];
            for (int e = 0; e < 40; e++) {
                entries[e] = new int[] {upTo(2), upTo(4), 1600 + upTo(200)};
                due("register", e + 1, x.register(entries[e][0], entries[e][1], entries[e][2]));
            }
            due("register, full", -2, x.register(0, 0, 1600));
            for (int song = 0; song < 2; song++) {
                int holder = NONE, till = 0;
                for (int year = 1590; year <= 1830; year++) {
                    if (year >= till) holder = NONE;
                    for (int[] entry : entries) {
                        if (entry[0] != song || entry[2] != year || holder != NONE && holder != entry[1]) continue;
                        holder = entry[1];
                        till = year + lasts;
                    }
                    if (holder != NONE && year == till - 1) met++;
                    // Not each year, for a desk has no more than 512 calls.
                    if (upTo(3) == 0) due("right(" + song + ", " + year + ")", holder, x.right(song, year));
                }
            }
        }
        met("rights end", 200);
    }

    private static void tellRule(String text, int from) {
        x.text(3, text.length());
        for (int i = 0; i < text.length(); i++) x.put(3, i, text.charAt(i));
        x.rule(3, from);
    }

    /** Sixteen rules, each of items as many as 60 signs hold, and each letter asked for on many days. */
    private static void rules() {
        String letters = "LRSDC";
        int[] atFirst = {1, 21, 3, 2, 1};
        for (int k = 0; k < 40; k++) {
            newDesk(k);
            int[] told = new int[16], from = new int[16];
            int[][] number = new int[16][5];
            int today = 0;
            for (int r = 0; r < 16; r++) {
                today = x.later(upTo(3) * 10);
                told[r] = today;
                from[r] = upTo(20) * 10;
                Arrays.fill(number[r], NONE);
                StringBuilder b = new StringBuilder();
                for (int item = upTo(5); item < 5; item++) {
                    int letter = upTo(5);
                    number[r][letter] = upTo(1000);
                    b.append(letters.charAt(letter)).append(number[r][letter]);
                }
                tellRule(b.toString(), from[r]);
            }
            due("count(4)", 16, x.count(4));
            for (int ask = 0; ask < 40; ask++) {
                int letter = upTo(5), day = upTo(21) * 10, known = upTo(40) * 10;
                int best = NONE;
                for (int r = 0; r < 16; r++) {
                    boolean holds = told[r] <= known && from[r] <= day && number[r][letter] != NONE;
                    if (holds && (best == NONE || from[r] >= from[best])) best = r;
                }
                if (best != NONE) met++;
                due("why", best, x.why(letter, day, known));
                due("force", best == NONE ? atFirst[letter] : number[best][letter], x.force(letter, day, known));
            }
        }
        met("rules are in force", 500);
    }

    private static void walks() {
        for (int k = 0; k < 60; k++) {
            newDesk(k);
            int[][] walk = new int[4][];
            int places = 3 + upTo(8);
            for (int seller = 0; seller < 4; seller++) {
                if (seller == 3 && upTo(2) == 0) continue;
                int days = upTo(3) == 0 ? 40 : 1 + upTo(40);
                walk[seller] = new int[days];
                x.row(0, days);
                for (int d = 0; d < days; d++) x.lay(0, d, walk[seller][d] = upTo(places));
                due("walk", days, x.walk(seller, 0));
            }
            int[][] sung = new int[30][];
            for (int n = 0; n < 30; n++) {
                sung[n] = new int[] {upTo(10), upTo(10), upTo(100)};
                due("sung", n + 1, x.sung(sung[n][0], sung[n][1], sung[n][2]));
            }
            walked(upTo(10), walk, sung);
            walked(upTo(10), walk, sung);
        }
        met("sellers came to have a song", 100);
    }

    private static void walked(int song, int[][] walk, int[][] sung) {
        boolean[] has = new boolean[4];
        int[] first = new int[10];
        Arrays.fill(first, NONE);
        for (int day = 0; day < 100; day++) {
            for (int round = 0; round < 4; round++) {
                for (int seller = 0; seller < 4; seller++) {
                    if (walk[seller] == null || has[seller]) continue;
                    int at = at(walk, seller, day);
                    for (int[] one : sung) has[seller] |= one[0] == song && one[1] == at && one[2] <= day;
                    for (int other = 0; other < 4; other++) has[seller] |= has[other] && at(walk, other, day) == at;
                    if (has[seller]) met++;
                }
            }
            for (int seller = 0; seller < 4; seller++) {
                if (has[seller] && first[at(walk, seller, day)] == NONE) first[at(walk, seller, day)] = day;
                if (upTo(12) != 0) continue;
                int due = walk[seller] == null ? -4 : has[seller] ? 1 : 0;
                due("can(" + seller + ", " + song + ", " + day + ")", due, x.can(seller, song, day));
            }
        }
        for (int place = 0; place < 10; place++) due("far(" + song + ", " + place + ")", first[place], x.far(song, place));
    }

    private static int at(int[][] walk, int seller, int day) {
        return walk[seller] == null ? NONE : walk[seller][Math.min(day, walk[seller].length - 1)];
    }

    public static void main(String[] args) {
        orders();
        dates();
        families();
        rights();
        rules();
        walks();
        System.out.println(asked + " answers at the greatest sizes, " + wrong + " are not as due");
        if (wrong != 0) System.exit(1);
    }
}
