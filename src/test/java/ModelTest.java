import java.util.ArrayList;
import java.util.Arrays;
import java.util.HashSet;
import java.util.List;
import java.util.Random;
import java.util.Set;
import java.util.TreeMap;
import java.util.regex.Matcher;
import java.util.regex.Pattern;

/**
 * Many seeded runs of calls, each answered by the class and by a second, plain reading of the document that
 * tries everything out: all rows of sheets, all sets of spans, all parents, all choices of slips.
 */
public final class ModelTest {
    private static final int BAD = -1, FULL = -2, FINDING = -3, STATE = -4, SPENT = -6, NONE = -9;
    private static final int NOTHING = 1, BEYOND = 2, UNLIKE = 3, NOUGHT = 4, SIZE = 5;
    private static final String LETTERS = "LRSDC";
    private static final int[] AT_FIRST = {1, 21, 3, 2, 1};

    // ---------------------------------------------------------------- the model

    private static final class Sheet {
        int kind, printer, song, day, block = NONE, cracks, broken, slips, from = NONE, till = NONE;
        int[] cut;

        int[] told() {
            return new int[] {kind, printer, song, block, cracks, broken, slips, from, till};
        }

        boolean copy() {
            return kind == 1 || kind == 2;
        }
    }

    private static final class Rule {
        int told, from;
        String text;
    }

    private static final class Model {
        final TreeMap<Integer, int[]> rows = new TreeMap<>(), tunes = new TreeMap<>(), walks = new TreeMap<>();
        final TreeMap<Integer, byte[]> texts = new TreeMap<>();
        final TreeMap<Integer, String> songs = new TreeMap<>();
        final TreeMap<Integer, int[]> printers = new TreeMap<>();
        final List<Sheet> sheets = new ArrayList<>();
        final List<Rule> rules = new ArrayList<>();
        final List<int[]> entries = new ArrayList<>(), sung = new ArrayList<>();
        int today, finding, asked;
        final int[] findings = new int[6];
        long many, upper, lower = 1;

        long answer(String call, int[] a) {
            switch (call) {
                case "row": return row(a[0], a[1]);
                case "lay": return lay(a[0], a[1], a[2]);
                case "tear": return tear(a[0]);
                case "copy": return copy(a);
                case "mean": return mean(a[0]);
                case "text": return text(a[0], a[1]);
                case "put": return put(a[0], a[1], a[2]);
                case "later": return later(a[0]);
                case "song": return song(a[0], a[1]);
                case "songTold": return songTold(a[0], a[1]);
                case "measure": return measure(a[0], a[1]);
                case "rhyme": return rhyme(a[0], a[1], a[2]);
                case "tune": return tune(a[0], a[1]);
                case "fit": return fit(a[0], a[1]);
                case "tunes": return tunes(a[0]);
                case "fault": return fault(a[0]);
                case "rule": return rule(a[0], a[1]);
                case "force": return out(a[0], 5) || out(a[1], 1000) || out(a[2], 1000) ? BAD : force(a[0], a[1], a[2])[0];
                case "why": return out(a[0], 5) || out(a[1], 1000) || out(a[2], 1000) ? BAD : force(a[0], a[1], a[2])[1];
                case "printer": return printer(a[0], a[1], a[2]);
                case "sheet": return sheet(a[0], a[1], a[2], a[3]);
                case "block": return block(a[0], a[1], a[2]);
                case "type": return type(a[0], a[1], a[2]);
                case "span": return span(a[0], a[1], a[2]);
                case "told": return told(a[0], a[1]);
                case "mark": return mark(a[0], a[1]);
                case "ahead": return noSheets(a[0], a[1]) ? -100 : ahead(a[0], a[1]);
                case "quarrel": return quarrel();
                case "orders": return orders(a[0]);
                case "standsAhead": return standsAhead(a[0], a[1]);
                case "judgeOrder": return judgeOrder(a[0], a[1]);
                case "year": return year(a[0], a[1] != 0);
                case "doubts": return doubts();
                case "changes": return changes(a[0], a[1]);
                case "family": return family(a[0]);
                case "judge": return judge(a[0], a[1]);
                case "taken": return taken(a[0], a[1]);
                case "register": return register(a[0], a[1], a[2]);
                case "right": return right(a[0], a[1]);
                case "join": return join(a[0], a[1]);
                case "walk": return walk(a[0], a[1]);
                case "sung": return sung(a[0], a[1], a[2]);
                case "can": return can(a[0], a[1], a[2]);
                case "far": return far(a[0], a[1]);
                case "lost": return lost();
                case "many": return many;
                case "asked": return asked;
                case "upper": return upper;
                case "lower": return lower;
                case "count": return out(a[0], 8) ? BAD : counts()[a[0]];
                case "finding": return finding;
                case "findings": return a[0] < 1 || a[0] > 5 ? BAD : findings[a[0]];
                case "digest": return digest();
                default: throw new IllegalStateException(call);
            }
        }

        static boolean out(int v, int below) {
            return v < 0 || v >= below;
        }

        int found(int f) {
            finding = f;
            findings[f]++;
            return FINDING;
        }

        int row(int r, int n) {
            if (out(r, 6) || n > 40) return BAD;
            if (n < 0) return found(SIZE);
            rows.put(r, new int[n]);
            return n;
        }

        int lay(int r, int i, int v) {
            if (out(r, 6)) return BAD;
            if (!rows.containsKey(r)) return found(NOTHING);
            if (out(i, rows.get(r).length)) return found(BEYOND);
            asked = rows.get(r)[i];
            rows.get(r)[i] = v;
            return 1;
        }

        int tear(int r) {
            if (out(r, 6)) return BAD;
            return rows.remove(r) == null ? found(NOTHING) : 1;
        }

        int copy(int[] a) {
            if (out(a[0], 6) || out(a[2], 6)) return BAD;
            if (a[4] < 0) return found(SIZE);
            if (!rows.containsKey(a[0]) || !rows.containsKey(a[2])) return found(NOTHING);
            int[] from = rows.get(a[0]).clone(), to = rows.get(a[2]);
            if (a[1] < 0 || a[3] < 0 || (long) a[1] + a[4] > from.length || (long) a[3] + a[4] > to.length) return found(BEYOND);
            for (int k = 0; k < a[4]; k++) to[a[3] + k] = from[a[1] + k];
            return 1;
        }

        int mean(int r) {
            if (out(r, 6)) return BAD;
            if (!rows.containsKey(r)) return found(NOTHING);
            if (rows.get(r).length == 0) return found(NOUGHT);
            long sum = 0;
            for (int v : rows.get(r)) sum += v;
            long size = rows.get(r).length;
            asked = (int) (sum < 0 ? -(-sum / size) : sum / size);
            return 1;
        }

        int text(int t, int n) {
            if (out(t, 4) || n > 60) return BAD;
            if (n < 0) return found(SIZE);
            byte[] text = new byte[n];
            Arrays.fill(text, (byte) ' ');
            texts.put(t, text);
            return n;
        }

        int put(int t, int i, int v) {
            if (out(t, 4)) return BAD;
            if (!texts.containsKey(t)) return found(NOTHING);
            if (out(i, texts.get(t).length)) return found(BEYOND);
            int was = texts.get(t)[i];
            texts.get(t)[i] = (byte) v;
            return 1000 + was;
        }

        int later(int n) {
            if (n < 0 || (long) today + n > 999) return BAD;
            return today += n;
        }

        static String string(byte[] bytes) {
            StringBuilder b = new StringBuilder();
            for (byte x : bytes) b.append((char) (x & 255));
            return b.toString();
        }

        int song(int s, int t) {
            if (out(s, 10) || out(t, 4)) return BAD;
            if (!texts.containsKey(t)) return found(NOTHING);
            String song = string(texts.get(t));
            if (!song.matches("[a-z /]*")) return found(UNLIKE);
            String[] lines = song.split("/", -1);
            if (lines.length > 8) return found(UNLIKE);
            for (String line : lines) if (line.trim().isEmpty()) return found(UNLIKE);
            songs.put(s, song);
            return lines.length;
        }

        String[] lines(int s) {
            return songs.get(s).split("/", -1);
        }

        int songTold(int s, int what) {
            if (out(s, 10) || out(what, 3)) return BAD;
            if (!songs.containsKey(s)) return found(NOTHING);
            int words = 0;
            for (String line : lines(s)) words += line.trim().split(" +").length;
            asked = what == 0 ? lines(s).length : what == 1 ? words : songs.get(s).replaceAll("[ /]", "").length();
            return 1;
        }

        static int beats(String line) {
            Matcher m = Pattern.compile("[aeiouy]+").matcher(line);
            int n = 0;
            while (m.find()) n++;
            return n;
        }

        int measure(int s, int i) {
            if (out(s, 10)) return BAD;
            if (!songs.containsKey(s)) return found(NOTHING);
            if (out(i, lines(s).length)) return found(BEYOND);
            return beats(lines(s)[i]);
        }

        static String ending(String line) {
            String[] words = line.trim().split(" +");
            String last = words[words.length - 1];
            return last.length() == 1 ? last : last.substring(last.length() - 2);
        }

        int rhyme(int s, int i, int j) {
            if (out(s, 10)) return BAD;
            if (!songs.containsKey(s)) return found(NOTHING);
            if (out(i, lines(s).length) || out(j, lines(s).length)) return found(BEYOND);
            return ending(lines(s)[i]).equals(ending(lines(s)[j])) ? 1 : 0;
        }

        int tune(int u, int r) {
            if (out(u, 6) || out(r, 6)) return BAD;
            if (!rows.containsKey(r)) return found(NOTHING);
            if (rows.get(r).length < 1 || rows.get(r).length > 8) return found(SIZE);
            for (int v : rows.get(r)) if (v < 0 || v > 20) return found(UNLIKE);
            tunes.put(u, rows.get(r).clone());
            return rows.get(r).length;
        }

        int misfit(int s, int u) {
            for (int i = 0; i < lines(s).length; i++) {
                int[] tune = tunes.get(u);
                if (Math.abs(beats(lines(s)[i]) - tune[i % tune.length]) > now(0)) return i;
            }
            return NONE;
        }

        int fit(int s, int u) {
            if (out(s, 10) || out(u, 6)) return BAD;
            if (!songs.containsKey(s) || !tunes.containsKey(u)) return found(NOTHING);
            return misfit(s, u);
        }

        int tunes(int s) {
            if (out(s, 10)) return BAD;
            if (!songs.containsKey(s)) return found(NOTHING);
            int bits = 0;
            for (int u : tunes.keySet()) if (misfit(s, u) == NONE) bits |= 1 << u;
            return bits;
        }

        static int faultIn(String t) {
            for (int i = 0; i < t.length(); i++) {
                if (!t.substring(0, i + 1).matches("( *[LRSDC][0-9]{1,3})* *([LRSDC])?")) return i;
            }
            return t.matches("( *[LRSDC][0-9]{1,3})* *") ? NONE : t.length();
        }

        int fault(int t) {
            if (out(t, 4)) return BAD;
            if (!texts.containsKey(t)) return found(NOTHING);
            return faultIn(string(texts.get(t)));
        }

        int rule(int t, int from) {
            if (out(t, 4) || out(from, 1000)) return BAD;
            if (rules.size() == 16) return FULL;
            if (!texts.containsKey(t)) return found(NOTHING);
            if (faultIn(string(texts.get(t))) != NONE) return STATE;
            Rule rule = new Rule();
            rule.told = today;
            rule.from = from;
            rule.text = string(texts.get(t));
            rules.add(rule);
            return rules.size() - 1;
        }

        int[] force(int what, int day, int known) {
            int value = AT_FIRST[what], by = NONE, from = -1;
            for (int k = 0; k < rules.size(); k++) {
                Rule rule = rules.get(k);
                if (rule.told > known || rule.from > day || rule.from < from) continue;
                Matcher m = Pattern.compile(LETTERS.charAt(what) + "([0-9]+)").matcher(rule.text);
                while (m.find()) {
                    value = Integer.parseInt(m.group(1));
                    by = k;
                    from = rule.from;
                }
            }
            return new int[] {value, by};
        }

        int now(int what) {
            return force(what, today, today)[0];
        }

        static boolean noSpan(int from, int till) {
            return from < 1500 || till > 1899 || from > till;
        }

        int printer(int p, int from, int till) {
            if (out(p, 8) || noSpan(from, till)) return BAD;
            printers.put(p, new int[] {from, till});
            return 1;
        }

        int sheet(int kind, int printer, int song, int r) {
            if (out(kind, 7) || printer != NONE && out(printer, 8) || out(song, 10)) return BAD;
            if (kind == 2 && out(r, 6)) return BAD;
            if (sheets.size() == 20) return FULL;
            if (kind == 2 && !rows.containsKey(r)) return found(NOTHING);
            Sheet x = new Sheet();
            x.kind = kind;
            x.printer = printer;
            x.song = song;
            x.day = today;
            if (kind == 2) x.cut = rows.get(r).clone();
            sheets.add(x);
            return sheets.size() - 1;
        }

        boolean noSheet(int s) {
            return out(s, sheets.size());
        }

        boolean noSheets(int s, int t) {
            return noSheet(s) || noSheet(t) || s == t;
        }

        int block(int s, int block, int cracks) {
            if (noSheet(s) || block != NONE && out(block, 6) || out(cracks, 4096)) return BAD;
            sheets.get(s).block = block;
            sheets.get(s).cracks = cracks;
            return 1;
        }

        int type(int s, int broken, int slips) {
            if (noSheet(s) || out(broken, 65536) || out(slips, 65536)) return BAD;
            sheets.get(s).broken = broken;
            sheets.get(s).slips = slips;
            return 1;
        }

        int span(int s, int from, int till) {
            if (noSheet(s) || from != NONE && noSpan(from, till)) return BAD;
            sheets.get(s).from = from;
            sheets.get(s).till = from == NONE ? NONE : till;
            return 1;
        }

        int told(int s, int what) {
            if (noSheet(s) || out(what, 9)) return BAD;
            asked = sheets.get(s).told()[what];
            return 1;
        }

        int mark(int s, int kind) {
            if (noSheet(s) || kind < 1 || kind > 6) return BAD;
            Sheet x = sheets.get(s);
            boolean is = x.kind == kind || x.kind == 2 && kind == 1 || x.kind == 6 && kind == 5;
            if (!is) return found(UNLIKE);
            int n = 0;
            if (kind == 2) return x.cut.length;
            if (kind == 4) return x.day;
            if (kind == 1) for (Sheet y : sheets) if (y.copy() && y.song == x.song && y.printer == x.printer) n++;
            if (kind == 3) for (Sheet y : sheets) if (y != x && Integer.bitCount(y.slips & x.slips) >= now(2)) n++;
            if (kind == 5) for (int seller = 0; seller < 4; seller++) if (table(x.song)[Math.min(99, today)][seller]) n++;
            if (kind == 6) for (int[] e : entries) if (e[0] == x.song && e[1] == x.printer) n++;
            return n;
        }

        /** 0 no tie; 1 the first is ahead; 2 the second is; 3 they quarrel. */
        static int tie(int a, int b) {
            boolean ab = (a | b) == b, ba = (a | b) == a;
            return ab && ba ? 0 : ab ? 1 : ba ? 2 : 3;
        }

        int blockTie(int s, int t) {
            Sheet a = sheets.get(s), b = sheets.get(t);
            return a.block == NONE || a.block != b.block ? 0 : tie(a.cracks, b.cracks);
        }

        int typeTie(int s, int t) {
            Sheet a = sheets.get(s), b = sheets.get(t);
            return a.printer == NONE || a.printer != b.printer ? 0 : tie(a.broken, b.broken);
        }

        boolean before(int s, int t) {
            return s != t && (blockTie(s, t) == 1 || typeTie(s, t) == 1);
        }

        int ahead(int s, int t) {
            int b = blockTie(s, t), y = typeTie(s, t);
            if (b == 3 && y == 3) return -30;
            if (b == 3) return -10;
            if (y == 3) return -20;
            if (b == 1 && y == 2 || b == 2 && y == 1) return -40;
            if (b == 1 && y == 1) return 3;
            return b == 1 ? 1 : y == 1 ? 2 : 0;
        }

        int quarrel() {
            for (int s = 0; s < sheets.size(); s++) {
                for (int t = s + 1; t < sheets.size(); t++) if (ahead(s, t) < 0) return 100 * s + t;
            }
            return NONE;
        }

        List<Integer> ofBlock(int block) {
            List<Integer> some = new ArrayList<>();
            for (int s = 0; s < sheets.size(); s++) if (sheets.get(s).block == block) some.add(s);
            return some;
        }

        void lists(List<Integer> left, List<Integer> row, List<List<Integer>> all) {
            if (left.isEmpty()) all.add(new ArrayList<>(row));
            for (int s : left) {
                boolean may = true;
                for (int t : row) if (before(s, t)) may = false;
                if (!may) continue;
                List<Integer> rest = new ArrayList<>(left);
                rest.remove((Integer) s);
                row.add(s);
                lists(rest, row, all);
                row.remove(row.size() - 1);
            }
        }

        List<List<Integer>> allOrders(int block) {
            List<List<Integer>> all = new ArrayList<>();
            lists(ofBlock(block), new ArrayList<>(), all);
            return all;
        }

        int orders(int block) {
            if (out(block, 6)) return BAD;
            if (ofBlock(block).size() > 12) return SPENT;
            many = allOrders(block).size();
            return ofBlock(block).size();
        }

        int standsAhead(int s, int t) {
            if (noSheets(s, t)) return BAD;
            int block = sheets.get(s).block;
            if (block == NONE || block != sheets.get(t).block) return found(UNLIKE);
            if (ofBlock(block).size() > 12) return SPENT;
            long n = 0;
            for (List<Integer> row : allOrders(block)) if (row.indexOf(s) < row.indexOf(t)) n++;
            many = n;
            return 1;
        }

        int judgeOrder(int block, int r) {
            if (out(block, 6) || out(r, 6)) return BAD;
            if (!rows.containsKey(r)) return found(NOTHING);
            List<Integer> came = new ArrayList<>();
            for (int v : rows.get(r)) {
                if (!ofBlock(block).contains(v) || came.contains(v)) return came.size();
                for (int w : came) if (before(v, w)) return came.size();
                came.add(v);
            }
            return came.size() < ofBlock(block).size() ? came.size() : NONE;
        }

        /** By going round until nothing changes any more; null: there are none. */
        int[][] years(Set<Integer> without) {
            int n = sheets.size();
            int[][] y = new int[n][];
            for (int s = 0; s < n; s++) {
                Sheet x = sheets.get(s);
                y[s] = new int[] {1500, 1999};
                if (x.from != NONE && !without.contains(s)) {
                    y[s][0] = Math.max(y[s][0], x.from);
                    y[s][1] = Math.min(y[s][1], x.till);
                }
                int[] p = printers.get(x.printer);
                if (p != null) {
                    y[s][0] = Math.max(y[s][0], p[0]);
                    y[s][1] = Math.min(y[s][1], p[1] + now(3));
                }
            }
            boolean again = true;
            while (again) {
                again = false;
                for (int s = 0; s < n; s++) {
                    for (int t = 0; t < n; t++) {
                        if (!before(s, t)) continue;
                        if (y[t][0] < y[s][0]) { y[t][0] = y[s][0]; again = true; }
                        if (y[s][1] > y[t][1]) { y[s][1] = y[t][1]; again = true; }
                    }
                }
            }
            for (int[] x : y) if (x[0] > x[1]) return null;
            return y;
        }

        int year(int s, boolean most) {
            if (noSheet(s)) return BAD;
            int[][] y = years(new HashSet<>());
            return y == null ? NONE : y[s][most ? 1 : 0];
        }

        int doubts() {
            if (years(new HashSet<>()) != null) return 0;
            List<Integer> spans = new ArrayList<>();
            for (int s = 0; s < sheets.size(); s++) if (sheets.get(s).from != NONE) spans.add(s);
            if (spans.size() > 10) return SPENT;
            int best = NONE;
            for (int set = 0; set < 1 << spans.size(); set++) {
                Set<Integer> without = new HashSet<>();
                int bits = 0;
                for (int k = 0; k < spans.size(); k++) {
                    if ((set >> k & 1) == 0) continue;
                    without.add(spans.get(k));
                    bits |= 1 << spans.get(k);
                }
                if (best != NONE && Integer.bitCount(best) <= Integer.bitCount(bits)) continue;
                if (years(without) != null) best = bits;
            }
            return best;
        }

        List<String> tokens(int s) {
            List<String> all = new ArrayList<>();
            for (String line : lines(s)) {
                if (!all.isEmpty()) all.add("/");
                all.addAll(Arrays.asList(line.trim().split(" +")));
            }
            return all;
        }

        int distance(int s, int t) {
            List<String> a = tokens(s), b = tokens(t);
            int[][] d = new int[a.size() + 1][b.size() + 1];
            for (int i = 0; i <= a.size(); i++) {
                for (int j = 0; j <= b.size(); j++) {
                    int best = i == 0 && j == 0 ? 0 : 999;
                    if (i > 0) best = Math.min(best, d[i - 1][j] + 1);
                    if (j > 0) best = Math.min(best, d[i][j - 1] + 1);
                    if (i > 0 && j > 0) best = Math.min(best, d[i - 1][j - 1] + (a.get(i - 1).equals(b.get(j - 1)) ? 0 : 1));
                    d[i][j] = best;
                }
            }
            return d[a.size()][b.size()];
        }

        int changes(int a, int b) {
            if (out(a, 10) || out(b, 10)) return BAD;
            if (!songs.containsKey(a) || !songs.containsKey(b)) return found(NOTHING);
            return distance(a, b);
        }

        boolean noSet(int set) {
            return set <= 0 || set >= 1 << sheets.size();
        }

        List<Integer> ofSet(int set) {
            List<Integer> some = new ArrayList<>();
            for (int s = 0; s < sheets.size(); s++) if ((set >> s & 1) != 0) some.add(s);
            return some;
        }

        boolean songMissing(int set) {
            for (int s : ofSet(set)) if (!songs.containsKey(sheets.get(s).song)) return true;
            return false;
        }

        List<Integer> byAge(int set, int[][] y) {
            List<Integer> some = ofSet(set);
            some.sort((s, t) -> y[s][0] != y[t][0] ? y[s][0] - y[t][0] : s - t);
            return some;
        }

        /** All sums of all ways to choose parents: sums[v] is how many have v. */
        void allSums(List<Integer> order, int at, int sum, long[] sums) {
            if (at >= order.size()) {
                sums[sum]++;
                return;
            }
            for (int k = 0; k < at; k++) {
                int d = distance(sheets.get(order.get(at)).song, sheets.get(order.get(k)).song);
                allSums(order, at + 1, sum + d, sums);
            }
        }

        int family(int set) {
            if (noSet(set)) return BAD;
            if (ofSet(set).size() > 10) return SPENT;
            if (songMissing(set)) return found(NOTHING);
            int[][] y = years(new HashSet<>());
            if (y == null) return STATE;
            long[] sums = new long[1000];
            allSums(byAge(set, y), 1, 0, sums);
            for (int v = 0; ; v++) {
                if (sums[v] == 0) continue;
                many = sums[v];
                return v;
            }
        }

        int judge(int set, int r) {
            if (noSet(set) || out(r, 6)) return BAD;
            if (ofSet(set).size() > 10) return SPENT;
            if (songMissing(set) || !rows.containsKey(r)) return found(NOTHING);
            if (rows.get(r).length != ofSet(set).size()) return found(SIZE);
            int[][] y = years(new HashSet<>());
            if (y == null) return STATE;
            List<Integer> order = byAge(set, y);
            int sum = 0;
            for (int k = 0; k < ofSet(set).size(); k++) {
                int s = ofSet(set).get(k), p = rows.get(r)[k];
                if (p == NONE) {
                    if (order.get(0) != s) return s;
                    continue;
                }
                if (!order.contains(p) || p == s || order.indexOf(p) > order.indexOf(s)) return s;
                sum += distance(sheets.get(s).song, sheets.get(p).song);
            }
            asked = sum;
            return NONE;
        }

        void fraction(long a, long b) {
            for (long d = b; d > 1; d--) {
                if (a % d == 0 && b % d == 0) {
                    a /= d;
                    b /= d;
                }
            }
            upper = a;
            lower = b;
        }

        int taken(int s, int t) {
            if (noSheets(s, t)) return BAD;
            int a = sheets.get(s).slips, b = sheets.get(t).slips, all = 0, like = 0;
            for (int c = 0; c < 65536; c++) {
                if (Integer.bitCount(c) != Integer.bitCount(b)) continue;
                all++;
                if (Integer.bitCount(c & a) >= Integer.bitCount(b & a)) like++;
            }
            fraction(like, all);
            return Integer.bitCount(a & b) >= now(2) ? 1 : 0;
        }

        int register(int song, int printer, int year) {
            if (out(song, 10) || out(printer, 8) || noSpan(year, year)) return BAD;
            if (entries.size() == 40) return FULL;
            entries.add(new int[] {song, printer, year});
            return entries.size();
        }

        int right(int song, int year) {
            if (out(song, 10) || noSpan(year, year)) return BAD;
            int has = NONE, since = 0, lasts = now(1);
            for (int y = 1500; y <= year; y++) {
                if (has != NONE && y >= since + lasts) has = NONE;
                for (int[] e : entries) {
                    if (e[0] != song || e[2] != y || has != NONE && has != e[1]) continue;
                    has = lasts == 0 ? NONE : e[1];
                    since = y;
                }
            }
            return has;
        }

        int join(int s, int t) {
            if (noSheets(s, t)) return BAD;
            Sheet a = sheets.get(s), b = sheets.get(t);
            if (a.kind != 2 || b.kind != 2) return found(UNLIKE);
            if (a.cut.length != b.cut.length || a.song != b.song) return 0;
            boolean alike = true, near = true;
            for (int i = 0; i < a.cut.length; i++) {
                long off = Math.abs(((long) a.cut[i] + b.cut[i]) - ((long) a.cut[0] + b.cut[0]));
                alike &= off == 0;
                near &= off <= now(4);
            }
            return alike && a.broken == b.broken ? 2 : near ? 1 : 0;
        }

        int walk(int seller, int r) {
            if (out(seller, 4) || out(r, 6)) return BAD;
            if (!rows.containsKey(r)) return found(NOTHING);
            if (rows.get(r).length == 0) return found(SIZE);
            for (int v : rows.get(r)) if (out(v, 10)) return found(UNLIKE);
            walks.put(seller, rows.get(r).clone());
            return rows.get(r).length;
        }

        int sung(int song, int place, int day) {
            if (out(song, 10) || out(place, 10) || out(day, 100)) return BAD;
            if (sung.size() == 30) return FULL;
            sung.add(new int[] {song, place, day});
            return sung.size();
        }

        int where(int seller, int day) {
            int[] w = walks.get(seller);
            return w == null ? NONE : day < w.length ? w[day] : w[w.length - 1];
        }

        /** Who can have a song on which day, by trying the two sentences until nothing comes any more. */
        boolean[][] table(int song) {
            boolean[][] can = new boolean[100][4];
            for (int day = 0; day < 100; day++) {
                for (int round = 0; round < 5; round++) {
                    for (int x = 0; x < 4; x++) {
                        if (where(x, day) == NONE) continue;
                        if (day > 0 && can[day - 1][x]) can[day][x] = true;
                        for (int[] p : sung) if (p[0] == song && p[1] == where(x, day) && p[2] <= day) can[day][x] = true;
                        for (int z = 0; z < 4; z++) if (where(z, day) == where(x, day) && can[day][z]) can[day][x] = true;
                    }
                }
            }
            return can;
        }

        int can(int seller, int song, int day) {
            if (out(seller, 4) || out(song, 10) || out(day, 100)) return BAD;
            if (!walks.containsKey(seller)) return STATE;
            return table(song)[day][seller] ? 1 : 0;
        }

        int far(int song, int place) {
            if (out(song, 10) || out(place, 10)) return BAD;
            boolean[][] can = table(song);
            for (int day = 0; day < 100; day++) {
                for (int x = 0; x < 4; x++) if (where(x, day) == place && can[day][x]) return day;
            }
            return NONE;
        }

        int lost() {
            TreeMap<Integer, Integer> prints = new TreeMap<>();
            for (Sheet x : sheets) if (x.copy()) prints.merge(100 * x.song + x.printer, 1, Integer::sum);
            if (prints.isEmpty()) return found(NOUGHT);
            long ones = 0, twos = 0;
            for (int left : prints.values()) {
                if (left == 1) ones++;
                if (left == 2) twos++;
            }
            if (twos > 0) fraction(ones * ones, 2 * twos);
            else fraction(ones * (ones - 1), 2);
            return prints.size();
        }

        int[] counts() {
            return new int[] {today, songs.size(), tunes.size(), sheets.size(), rules.size(), entries.size(), rows.size(), texts.size()};
        }

        long digest() {
            List<Integer> v = new ArrayList<>();
            all(v, counts());
            for (int s = 0; s < 10; s++) sized(v, songs.containsKey(s) ? ints(songs.get(s)) : null);
            for (int u = 0; u < 6; u++) sized(v, tunes.get(u));
            for (int p = 0; p < 8; p++) all(v, printers.getOrDefault(p, new int[] {NONE, NONE}));
            for (Sheet x : sheets) {
                all(v, x.told());
                if (x.kind == 2) sized(v, x.cut);
            }
            for (Rule r : rules) all(v, new int[] {r.told, r.from});
            for (int[] e : entries) all(v, e);
            for (int x = 0; x < 4; x++) sized(v, walks.get(x));
            for (int[] p : sung) all(v, p);
            for (int r = 0; r < 6; r++) sized(v, rows.get(r));
            for (int t = 0; t < 4; t++) {
                byte[] text = texts.get(t);
                int[] signs = text == null ? null : new int[text.length];
                for (int i = 0; signs != null && i < signs.length; i++) signs[i] = text[i];
                sized(v, signs);
            }
            long h = 17;
            for (int x : v) h = 31 * h + x;
            return h;
        }

        static int[] ints(String s) {
            return s.chars().toArray();
        }

        static void all(List<Integer> v, int[] some) {
            for (int x : some) v.add(x);
        }

        static void sized(List<Integer> v, int[] some) {
            v.add(some == null ? -1 : some.length);
            if (some != null) all(v, some);
        }
    }

    // ---------------------------------------------------------------- the class, by the same names

    private static long ask(BalladSheets x, String call, int[] a) {
        switch (call) {
            case "row": return x.row(a[0], a[1]);
            case "lay": return x.lay(a[0], a[1], a[2]);
            case "tear": return x.tear(a[0]);
            case "copy": return x.copy(a[0], a[1], a[2], a[3], a[4]);
            case "mean": return x.mean(a[0]);
            case "text": return x.text(a[0], a[1]);
            case "put": return x.put(a[0], a[1], a[2]);
            case "later": return x.later(a[0]);
            case "song": return x.song(a[0], a[1]);
            case "songTold": return x.songTold(a[0], a[1]);
            case "measure": return x.measure(a[0], a[1]);
            case "rhyme": return x.rhyme(a[0], a[1], a[2]);
            case "tune": return x.tune(a[0], a[1]);
            case "fit": return x.fit(a[0], a[1]);
            case "tunes": return x.tunes(a[0]);
            case "fault": return x.fault(a[0]);
            case "rule": return x.rule(a[0], a[1]);
            case "force": return x.force(a[0], a[1], a[2]);
            case "why": return x.why(a[0], a[1], a[2]);
            case "printer": return x.printer(a[0], a[1], a[2]);
            case "sheet": return x.sheet(a[0], a[1], a[2], a[3]);
            case "block": return x.block(a[0], a[1], a[2]);
            case "type": return x.type(a[0], a[1], a[2]);
            case "span": return x.span(a[0], a[1], a[2]);
            case "told": return x.told(a[0], a[1]);
            case "mark": return x.mark(a[0], a[1]);
            case "ahead": return x.ahead(a[0], a[1]);
            case "quarrel": return x.quarrel();
            case "orders": return x.orders(a[0]);
            case "standsAhead": return x.standsAhead(a[0], a[1]);
            case "judgeOrder": return x.judgeOrder(a[0], a[1]);
            case "year": return x.year(a[0], a[1] != 0);
            case "doubts": return x.doubts();
            case "changes": return x.changes(a[0], a[1]);
            case "family": return x.family(a[0]);
            case "judge": return x.judge(a[0], a[1]);
            case "taken": return x.taken(a[0], a[1]);
            case "register": return x.register(a[0], a[1], a[2]);
            case "right": return x.right(a[0], a[1]);
            case "join": return x.join(a[0], a[1]);
            case "walk": return x.walk(a[0], a[1]);
            case "sung": return x.sung(a[0], a[1], a[2]);
            case "can": return x.can(a[0], a[1], a[2]);
            case "far": return x.far(a[0], a[1]);
            case "lost": return x.lost();
            case "many": return x.many();
            case "asked": return x.asked();
            case "upper": return x.upper();
            case "lower": return x.lower();
            case "count": return x.count(a[0]);
            case "finding": return x.finding();
            case "findings": return x.findings(a[0]);
            case "digest": return x.digest();
            default: throw new IllegalStateException(call);
        }
    }

    // ---------------------------------------------------------------- runs of calls

    private static final String[] WORDS = {"a", "i", "o", "by", "my", "sea", "ship", "love", "the", "they", "you", "tree", "sky", "b"};

    private static final class Run {
        final Random random;
        final BalladSheets x = new BalladSheets();
        final Model model = new Model();
        final int number;
        final StringBuilder trail = new StringBuilder();
        int calls, wrong;
        final TreeMap<String, Integer> good;

        Run(int number, TreeMap<String, Integer> good) {
            this.number = number;
            this.random = new Random(number * 7919L);
            this.good = good;
        }

        void call(String name, int... a) {
            long want = model.answer(name, a), got = ask(x, name, a);
            calls++;
            trail.append(name).append(Arrays.toString(a)).append(' ').append(got).append('\n');
            good.merge(name + (want < 0 && want >= -9 ? " " + want + (want == FINDING ? "/" + model.finding : "") : ""), 1, Integer::sum);
            if (got == want) return;
            wrong++;
            System.out.println("run " + number + ", call " + calls + ": " + name + Arrays.toString(a) + " answered " + got + ", due is " + want);
        }

        int upTo(int below) {
            return random.nextInt(below);
        }

        /** Mostly a number of those below; now and then one at or beyond the edge. */
        int pick(int below) {
            int dice = upTo(60);
            if (dice == 0) return below;
            if (dice == 1) return -1;
            if (dice == 2) return random.nextInt();
            if (dice == 3) return NONE;
            return below <= 0 ? 0 : upTo(below);
        }

        int sheet() {
            return pick(model.sheets.size());
        }

        int year() {
            int dice = upTo(40);
            if (dice == 0) return 1499;
            if (dice == 1) return 1899;
            if (dice == 2) return 1900 + upTo(200);
            if (dice == 3) return 1500;
            return 1600 + upTo(60);
        }

        void write(int t, String s) {
            call("text", t, s.length());
            for (int i = 0; i < s.length(); i++) if (s.charAt(i) != ' ') call("put", t, i, s.charAt(i));
        }

        String words() {
            StringBuilder b = new StringBuilder();
            int lines = 1 + upTo(upTo(6) == 0 ? 10 : 3);
            for (int k = 0; k < lines; k++) {
                if (k > 0) b.append(upTo(2) == 0 ? "/" : " / ");
                int n = upTo(20) == 0 ? 0 : 1 + upTo(4);
                for (int w = 0; w < n; w++) b.append(w > 0 ? "  ".substring(upTo(2)) : "").append(WORDS[upTo(WORDS.length)]);
            }
            if (upTo(25) == 0) b.append("A{`.0".charAt(upTo(5)));
            return b.length() > 60 ? b.substring(0, 60) : b.toString();
        }

        String ruleText() {
            StringBuilder b = new StringBuilder();
            int n = upTo(4);
            for (int k = 0; k < n; k++) {
                b.append("   ".substring(upTo(4)));
                b.append(LETTERS.charAt(upTo(5)));
                int value = upTo(3) == 0 ? upTo(1000) : upTo(5);
                b.append(value);
            }
            if (upTo(6) == 0 && b.length() > 0) b.insert(upTo(b.length() + 1), "LX91 /l".charAt(upTo(7)));
            return b.append("  ".substring(upTo(3))).toString();
        }

        void layRow(int r, int[] values) {
            call("row", r, values.length);
            for (int i = 0; i < values.length; i++) if (values[i] != 0) call("lay", r, i, values[i]);
        }

        int[] some(int n, int below) {
            int[] v = new int[n];
            for (int i = 0; i < n; i++) v[i] = upTo(below);
            return v;
        }

        /** Bits of which few are set, so that sets lie within one another often. */
        int harm(int bits) {
            int way = upTo(3);
            int chain = (1 << upTo(5)) - 1;
            return way == 0 ? chain : way == 1 ? chain | 1 << upTo(bits) : random.nextInt(1 << bits) & random.nextInt(1 << bits);
        }

        int smallOrderBlock() {
            int block = pick(6);
            for (int k = 0; k < 6; k++) {
                int n = block < 0 || block > 5 ? 0 : model.ofBlock(block).size();
                if (n <= 7 || n > 12) return block;
                block = (block + 1) % 6;
            }
            return 6;
        }

        int[] orderRow(int block) {
            List<Integer> all = new ArrayList<>(model.ofBlock(block));
            List<List<Integer>> due = all.size() <= 6 ? model.allOrders(block) : new ArrayList<>();
            if (!due.isEmpty()) all = new ArrayList<>(due.get(upTo(due.size())));
            int way = upTo(5);
            if (way == 0 && !all.isEmpty()) all.set(upTo(all.size()), pick(model.sheets.size()));
            if (way == 1 && all.size() > 1) java.util.Collections.swap(all, upTo(all.size()), upTo(all.size()));
            if (way == 2 && !all.isEmpty()) all.remove(upTo(all.size()));
            if (way == 3 && upTo(3) == 0) all.add(upTo(20));
            return all.stream().mapToInt(Integer::intValue).toArray();
        }

        int set() {
            int n = model.sheets.size();
            if (upTo(15) == 0 || n == 0) return pick(1 << n);
            int set = 0;
            int size = upTo(12) == 0 ? 10 + upTo(3) : 1 + upTo(6);
            for (int k = 0; k < size; k++) {
                int s = upTo(n);
                boolean there = model.songs.containsKey(model.sheets.get(s).song);
                if (there || upTo(40) == 0 || size > 9) set |= 1 << s;
            }
            return Integer.bitCount(set) > 7 && Integer.bitCount(set) < 11 ? set & 0x7f : set;
        }

        void judge() {
            int set = set();
            List<Integer> members = model.ofSet(set & 0xfffff);
            int[] row = new int[Math.min(40, members.size())];
            int[][] y = model.years(new HashSet<>());
            List<Integer> order = y == null ? members : model.byAge(set & 0xfffff, y);
            for (int k = 0; k < row.length; k++) {
                int at = order.indexOf(members.get(k));
                row[k] = at == 0 ? NONE : order.get(upTo(at));
                if (upTo(25) == 0) row[k] = pick(model.sheets.size());
            }
            layRow(4, row);
            if (upTo(30) == 0) call("row", 4, upTo(5));
            call("judge", set, upTo(30) == 0 ? pick(6) : 4);
            call("asked");
        }

        /** Which steps a run is made of: all of them, or those that work on one another. */
        static final int[][] THEMES = {
            {},
            {20, 23, 24, 25, 26, 27, 28, 29, 30, 31, 32, 33, 34, 35, 36, 37, 51},
            {8, 10, 11, 12, 13, 14, 15, 38, 39, 40, 27, 23, 17, 51},
            {16, 17, 18, 19, 7, 42, 43, 14, 41, 44, 36, 30, 49, 51},
            {45, 46, 47, 48, 30, 7, 49, 44, 41, 42, 51},
            {0, 1, 2, 3, 4, 5, 6, 7, 50, 51},
        };

        void begin() {
            int theme = number % THEMES.length;
            int sheets = theme == 0 ? upTo(21) : theme == 5 ? 0 : 3 + upTo(18);
            if (upTo(2) == 0) layRow(2, some(upTo(4), 4));
            for (int k = 0; k < sheets; k++) {
                call("sheet", upTo(7), upTo(4) == 0 ? NONE : upTo(3), upTo(theme == 2 ? 4 : 10), 2);
                if (theme == 1 && upTo(3) > 0) call("block", k, upTo(3), harm(12));
            }
            for (int s = 0; theme == 2 && s < 4; s++) {
                write(2, words());
                call("song", s, 2);
            }
        }

        void step() {
            int[] theme = THEMES[number % THEMES.length];
            step(theme.length == 0 ? upTo(52) : theme[upTo(theme.length)]);
        }

        void step(int which) {
            switch (which) {
                case 0: call("row", pick(6), upTo(10) == 0 ? 39 + upTo(3) : upTo(12) - 1); break;
                case 1: call("lay", pick(6), pick(6), upTo(3) == 0 ? random.nextInt() : upTo(9)); call("asked"); break;
                case 2: if (upTo(4) == 0) call("tear", pick(6)); break;
                case 3: call("copy", pick(6), pick(5), pick(6), pick(5), pick(6)); break;
                case 4: call("mean", pick(6)); call("asked"); break;
                case 5: call("text", pick(4), upTo(10) == 0 ? 59 + upTo(3) : upTo(9) - 1); break;
                case 6: call("put", pick(4), pick(9), upTo(2) == 0 ? random.nextInt() : upTo(128)); break;
                case 7: if (upTo(3) == 0) call("later", upTo(10) == 0 ? upTo(1200) : pick(20)); break;
                case 8: case 9: write(2, words()); call("song", pick(10), upTo(30) == 0 ? pick(4) : 2); break;
                case 10: call("songTold", pick(10), pick(3)); call("asked"); break;
                case 11: call("measure", pick(10), pick(4)); break;
                case 12: call("rhyme", pick(10), pick(3), pick(3)); break;
                case 13: layRow(3, some(upTo(upTo(8) == 0 ? 10 : 4), upTo(5) == 0 ? 22 : 6)); call("tune", pick(6), upTo(30) == 0 ? pick(6) : 3); break;
                case 14: call("fit", pick(10), pick(6)); break;
                case 15: call("tunes", pick(10)); break;
                case 16: write(3, ruleText()); call("fault", upTo(9) == 0 ? pick(4) : 3); break;
                case 17: if (upTo(4) == 0) { write(3, ruleText()); call("rule", upTo(9) == 0 ? pick(4) : 3, upTo(4) == 0 ? pick(1000) : upTo(30)); } break;
                case 18: call("force", pick(5), upTo(2) == 0 ? pick(1000) : upTo(30), pick(1000)); break;
                case 19: call("why", pick(5), upTo(2) == 0 ? pick(1000) : upTo(30), pick(1000)); break;
                case 20: int from = year(); call("printer", pick(8), from, upTo(9) == 0 ? year() : from + upTo(30)); break;
                case 21: case 22: call("sheet", pick(7), upTo(3) == 0 ? pick(8) : upTo(4) - 1 < 0 ? NONE : upTo(3), pick(10), pick(6)); break;
                case 23: case 24: call("block", sheet(), upTo(8) == 0 ? NONE : upTo(2) == 0 ? pick(6) : 0, upTo(20) == 0 ? pick(4096) : harm(12)); break;
                case 25: case 26: call("type", sheet(), upTo(20) == 0 ? pick(65536) : harm(5), upTo(20) == 0 ? pick(65536) : harm(16)); break;
                case 27: case 28: int at = year(); call("span", sheet(), upTo(4) == 0 ? NONE : at, upTo(9) == 0 ? year() : at + upTo(40)); break;
                case 29: call("told", sheet(), pick(9)); call("asked"); break;
                case 30: for (int k = 0; k < 3; k++) call("mark", sheet(), upTo(20) == 0 ? pick(8) : 1 + upTo(6)); break;
                case 31: for (int k = 0; k < 4; k++) call("ahead", sheet(), sheet()); break;
                case 32: call("quarrel"); break;
                case 33: call("orders", smallOrderBlock()); call("many"); break;
                case 34: stands(); break;
                case 35: int block = upTo(2) == 0 ? pick(6) : 0; layRow(5, orderRow(block)); call("judgeOrder", block, upTo(30) == 0 ? pick(6) : 5); break;
                case 36: call("year", sheet(), 0); call("year", sheet(), 1); break;
                case 37: call("doubts"); break;
                case 38: call("changes", pick(10), pick(10)); break;
                case 39: call("family", set()); call("many"); break;
                case 40: judge(); break;
                case 41: if (upTo(4) == 0) call("taken", sheet(), sheet()); call("upper"); call("lower"); break;
                case 42: call("register", upTo(2) == 0 ? pick(10) : 0, pick(8), year()); break;
                case 43: call("right", upTo(2) == 0 ? pick(10) : 0, year()); break;
                case 44: halves(); break;
                case 45: layRow(1, some(upTo(6), upTo(9) == 0 ? 12 : 5)); call("walk", pick(4), upTo(30) == 0 ? pick(6) : 1); break;
                case 46: call("sung", upTo(2) == 0 ? pick(10) : 0, upTo(2) == 0 ? pick(10) : upTo(5), upTo(2) == 0 ? pick(100) : upTo(6)); break;
                case 47: call("can", pick(4), upTo(2) == 0 ? pick(10) : 0, upTo(2) == 0 ? pick(100) : upTo(6)); break;
                case 48: call("far", upTo(2) == 0 ? pick(10) : 0, pick(10)); break;
                case 49: call("lost"); call("upper"); call("lower"); break;
                case 50: call("count", pick(8)); call("finding"); call("findings", pick(6)); break;
                default: call("digest"); break;
            }
        }

        void stands() {
            int s = sheet(), t = sheet();
            int n = s >= 0 && s < model.sheets.size() ? model.ofBlock(model.sheets.get(s).block).size() : 0;
            if (n > 7 && n <= 12) return;
            call("standsAhead", s, t);
            call("many");
        }

        void halves() {
            List<Integer> some = new ArrayList<>();
            for (int s = 0; s < model.sheets.size(); s++) if (model.sheets.get(s).kind == 2) some.add(s);
            if (some.size() >= 2 && upTo(5) != 0) {
                call("join", some.get(upTo(some.size())), some.get(upTo(some.size())));
                return;
            }
            call("join", sheet(), sheet());
            if (some.isEmpty() || upTo(2) == 0) {
                layRow(0, some(1 + upTo(3), 3));
                call("sheet", 2, upTo(2), upTo(2), 0);
            }
        }

        void endsAlike() {
            for (int what = 0; what < 8; what++) call("count", what);
            for (int f = 1; f < 6; f++) call("findings", f);
            for (String name : new String[] {"many", "asked", "upper", "lower", "finding", "digest"}) call(name);
        }
    }

    public static void main(String[] args) {
        int runs = args.length > 1 ? Integer.parseInt(args[1]) : 1200;
        TreeMap<String, Integer> good = new TreeMap<>();
        long calls = 0;
        int wrong = 0;
        for (int number = 1; number <= runs; number++) {
            Run run = new Run(number, good);
            run.begin();
            while (run.calls < 440 && run.wrong == 0) run.step();
            run.endsAlike();
            calls += run.calls;
            wrong += run.wrong;
        }
        if (args.length > 2) good.forEach((k, v) -> System.out.println(k + ": " + v));
        System.out.println(calls + " calls in " + runs + " runs, " + wrong + " answers are not as the model's");
        if (wrong != 0) System.exit(1);
    }
}
