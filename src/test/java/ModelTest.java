import java.util.ArrayList;
import java.util.Arrays;
import java.util.HashMap;
import java.util.List;
import java.util.Map;
import java.util.Random;

/**
 * Runs of calls drawn from fixed seeds, on LacePillow and on a slow model that follows the
 * document's words by other ways (closures, lists of events, taking out pair by pair). Arguments:
 * the first seed and how many runs.
 */
public final class ModelTest {
    private static final int BEYOND = 1, NONE = 2, STATE = 3, FULL = 4, LACK = 6, LOST = 7;

    /** A crossing in thought or in the work. */
    private record Crossing(int stitch, int place, int sign, int over, int under) {}

    /** The document, plainly. */
    private static final class Model {
        int pairs = 4;
        int[][] pricking = emptyPricking();
        String[] words = {"ctc", "ct", "ctct", "t", "tct", "cc"};
        int[] wound = new int[16];
        List<Integer> work = new ArrayList<>();
        StringBuilder tape = new StringBuilder();
        long[][] sheets = new long[4][];
        int[] sorts = {-1, -1, -1, -1};
        Model image;
        int[] errors = new int[8];
        Random shuffle = new Random(5);

        Model() {
            Arrays.fill(wound, 200);
        }

        static int[][] emptyPricking() {
            int[][] p = new int[12][7];
            for (int[] row : p) Arrays.fill(row, -1);
            return p;
        }

        int err(int k) {
            errors[k]++;
            return -1000000000 - k;
        }

        long errL(int k) {
            errors[k]++;
            return -9000000000000000000L - k;
        }

        void take(Model m) {
            pairs = m.pairs;
            pricking = new int[12][];
            for (int r = 0; r < 12; r++) pricking[r] = m.pricking[r].clone();
            words = m.words.clone();
            wound = m.wound.clone();
            work = new ArrayList<>(m.work);
        }

        // stitches

        List<int[]> all() {
            List<int[]> out = new ArrayList<>();
            for (int r = 0; r < 12; r++)
                for (int g = 0; g <= pairs - 2; g++)
                    if (pricking[r][g] >= 0) out.add(new int[] {r, g, pricking[r][g]});
            return out;
        }

        boolean[][] closure() {
            List<int[]> st = all();
            int n = st.size();
            boolean[][] c = new boolean[n][n];
            for (int a = 0; a < n; a++)
                for (int b = 0; b < n; b++)
                    c[a][b] = st.get(a)[0] < st.get(b)[0] && Math.abs(st.get(a)[1] - st.get(b)[1]) <= 1;
            for (int k = 0; k < n; k++)
                for (int a = 0; a < n; a++)
                    for (int b = 0; b < n; b++) c[a][b] |= c[a][k] && c[k][b];
            return c;
        }

        boolean free(int s) {
            if (work.contains(s)) return false;
            boolean[][] c = closure();
            for (int a = 0; a < c.length; a++) if (c[a][s] && !work.contains(a)) return false;
            return true;
        }

        int level(int s, boolean[][] c, Map<Integer, Integer> memo) {
            if (memo.containsKey(s)) return memo.get(s);
            int best = 0;
            for (int a = 0; a < c.length; a++) if (c[a][s]) best = Math.max(best, level(a, c, memo) + 1);
            memo.put(s, best);
            return best;
        }

        /** By Dilworth: how many there are less the greatest matching of a with b behind it. */
        int width(boolean[][] c) {
            int n = c.length;
            int[] mate = new int[n];
            Arrays.fill(mate, -1);
            int matched = 0;
            for (int a = 0; a < n; a++) if (augment(a, c, mate, new boolean[n])) matched++;
            return n - matched;
        }

        boolean augment(int a, boolean[][] c, int[] mate, boolean[] seen) {
            for (int b = 0; b < c.length; b++) {
                if (!c[a][b] || seen[b]) continue;
                seen[b] = true;
                if (mate[b] < 0 || augment(mate[b], c, mate, seen)) {
                    mate[b] = a;
                    return true;
                }
            }
            return false;
        }

        long ways(int done, boolean[][] c, Map<Integer, Long> memo) {
            int n = c.length;
            if (done == (1 << n) - 1) return 1;
            Long kept = memo.get(done);
            if (kept != null) return kept;
            long sum = 0;
            for (int s = 0; s < n; s++) if (can(s, done, c)) sum += ways(done | 1 << s, c, memo);
            memo.put(done, sum);
            return sum;
        }

        boolean can(int s, int done, boolean[][] c) {
            if ((done >> s & 1) == 1) return false;
            for (int a = 0; a < c.length; a++) if (c[a][s] && (done >> a & 1) == 0) return false;
            return true;
        }

        // threads

        int[] places;

        /** The crossings of some stitches; places is where the threads are then, by thread. */
        List<Crossing> events(List<Integer> row) {
            List<int[]> st = all();
            List<Crossing> out = new ArrayList<>();
            places = new int[2 * pairs];
            for (int i = 0; i < places.length; i++) places[i] = i;
            for (int s : row) crossAll(words[st.get(s)[2]], st.get(s)[1], s, out);
            return out;
        }

        void crossAll(String word, int gap, int stitch, List<Crossing> out) {
            for (char l : word.toCharArray()) {
                if (l == 'c') crossOne(2 * gap + 1, 1, stitch, out);
                if (l == 'C') crossOne(2 * gap + 1, 2, stitch, out);
                if (l == 't' || l == 'T') {
                    crossOne(2 * gap, l == 't' ? 2 : 1, stitch, out);
                    crossOne(2 * gap + 2, l == 't' ? 2 : 1, stitch, out);
                }
            }
        }

        void crossOne(int place, int sign, int stitch, List<Crossing> out) {
            int left = threadAt(place), right = threadAt(place + 1);
            places[left]++;
            places[right]--;
            out.add(new Crossing(stitch, place, sign, sign == 1 ? left : right, sign == 1 ? right : left));
        }

        int threadAt(int place) {
            for (int t = 0; t < places.length; t++) if (places[t] == place) return t;
            throw new IllegalStateException();
        }

        List<Integer> first(int n) {
            List<Integer> out = new ArrayList<>();
            for (int i = 0; i < n; i++) out.add(i);
            return out;
        }

        int[] used(List<Integer> row) {
            List<int[]> st = all();
            int[] used = new int[2 * pairs];
            for (int i = 0; i < row.size(); i++) {
                events(row.subList(0, i));
                int g = st.get(row.get(i))[1];
                for (int t = 0; t < used.length; t++) if (places[t] >= 2 * g && places[t] <= 2 * g + 3) used[t]++;
            }
            for (Crossing x : events(row)) {
                used[x.over] += 2;
                used[x.under] += 1;
            }
            return used;
        }

        static int rounds(int thread, int[] map) {
            int k = 0, p = thread;
            do {
                p = map[p];
                k++;
            } while (p != thread);
            return k;
        }

        static long common(int[] map) {
            for (long k = 1; ; k++) {
                boolean all = true;
                for (int t = 0; t < map.length; t++) all &= k % rounds(t, map) == 0;
                if (all) return k;
            }
        }

        // lace

        List<Crossing> reduce(List<Crossing> lace) {
            List<Crossing> row = new ArrayList<>(lace);
            while (true) {
                List<int[]> out = new ArrayList<>();
                for (int a = 0; a < row.size(); a++) {
                    int b = partner(row, a);
                    if (b >= 0) out.add(new int[] {a, b});
                }
                if (out.isEmpty()) return row;
                int[] pick = out.get(shuffle.nextInt(out.size()));
                row.remove(pick[1]);
                row.remove(pick[0]);
            }
        }

        int partner(List<Crossing> row, int a) {
            for (int b = a + 1; b < row.size(); b++) {
                int d = Math.abs(row.get(b).place - row.get(a).place);
                if (d == 0 && row.get(b).sign != row.get(a).sign) return b;
                if (d <= 1) return -1;
            }
            return -1;
        }

        int[] layers(List<Crossing> row) {
            int[] layers = new int[row.size()];
            for (int i = 0; i < layers.length; i++)
                for (int j = 0; j < i; j++)
                    if (Math.abs(row.get(i).place - row.get(j).place) <= 1)
                        layers[i] = Math.max(layers[i], layers[j] + 1);
            return layers;
        }

        List<String> heap(List<Integer> row) {
            List<Crossing> reduced = reduce(events(row));
            int[] layers = layers(reduced);
            List<String> out = new ArrayList<>();
            for (int i = 0; i < layers.length; i++)
                out.add(layers[i] + " " + reduced.get(i).place + " " + reduced.get(i).sign);
            out.sort(null);
            return out;
        }

        List<Integer> laceRow(int which) {
            return which == 0 ? work : first(all().size());
        }

        // the face

        int pairs(int n) {
            if (n < 2 || n > 8) return err(BEYOND);
            int was = pairs;
            pairs = n;
            pricking = emptyPricking();
            work.clear();
            return was;
        }

        int lay(int row, int gap, int kind) {
            if (row < 0 || row > 11 || gap < 0 || gap > pairs - 2 || kind < -1 || kind > 5) return err(BEYOND);
            if (kind >= 0 && gap > 0 && pricking[row][gap - 1] >= 0) return err(STATE);
            if (kind >= 0 && gap < pairs - 2 && pricking[row][gap + 1] >= 0) return err(STATE);
            int was = pricking[row][gap];
            pricking[row][gap] = kind;
            work.clear();
            return was;
        }

        int look(int row, int gap) {
            if (row < 0 || row > 11 || gap < 0 || gap > pairs - 2) return err(BEYOND);
            return pricking[row][gap];
        }

        int feed(int b) {
            if (b < 0 || b > 255) return err(BEYOND);
            if (tape.length() == 120) return err(FULL);
            tape.append((char) b);
            return tape.length();
        }

        /** Whether bytes are the beginning of a text of a pricking. */
        boolean begins(String text) {
            if (text.isEmpty()) return true;
            String[] rows = text.split("/", -1);
            if (rows.length > 12) return false;
            for (int r = 0; r < rows.length; r++) {
                if (!rows[r].matches("[.a-f]*") || rows[r].matches(".*[a-f][a-f].*")) return false;
                if (rows[r].length() > pairs - 1) return false;
                if (r < rows.length - 1 && rows[r].length() < pairs - 1) return false;
            }
            return true;
        }

        int read() {
            String text = tape.toString();
            tape.setLength(0);
            for (int i = 0; i < text.length(); i++) if (!begins(text.substring(0, i + 1))) return -10 - i;
            String[] rows = text.split("/", -1);
            if (rows[rows.length - 1].length() < pairs - 1) return -10 - text.length();
            pricking = emptyPricking();
            for (int r = 0; r < rows.length; r++)
                for (int g = 0; g < pairs - 1; g++)
                    if (rows[r].charAt(g) != '.') pricking[r][g] = rows[r].charAt(g) - 'a';
            work.clear();
            return all().size();
        }

        int spell(int kind) {
            if (kind < 0 || kind > 5) return err(BEYOND);
            String text = tape.toString();
            tape.setLength(0);
            for (int i = 0; i < text.length(); i++)
                if (i == 8 || "cCtT".indexOf(text.charAt(i)) < 0) return -10 - i;
            if (text.isEmpty()) return -10;
            words[kind] = text;
            work.clear();
            return text.length();
        }

        int word(int kind, int what) {
            if (kind < 0 || kind > 5 || what < 0 || what > 7) return err(BEYOND);
            if (what == 0) return words[kind].length();
            places = new int[] {0, 1, 2, 3};
            List<Crossing> out = new ArrayList<>();
            crossAll(words[kind], 0, 0, out);
            if (what == 1) return out.size();
            if (what == 2) return reduce(out).size();
            if (what == 3) return (int) common(places);
            return places[what - 4];
        }

        int letter(int kind, int i) {
            if (kind < 0 || kind > 5 || i < 0 || i >= words[kind].length()) return err(BEYOND);
            return words[kind].charAt(i);
        }

        int stitches(int what) {
            int n = all().size();
            if (what == 0) return n;
            if (what == 1) return n == 0 ? 0 : all().get(n - 1)[0] + 1;
            if (what == 2) {
                boolean[][] c = closure();
                int best = 0;
                for (int s = 0; s < n; s++) best = Math.max(best, level(s, c, new HashMap<>()) + 1);
                return best;
            }
            if (what == 3) return width(closure());
            if (what == 5) return work.size();
            if (what != 4 && what != 6) return err(BEYOND);
            int free = 0;
            for (int s = 0; s < n; s++) {
                if (free(s)) {
                    if (what == 6) return s;
                    free++;
                }
            }
            return what == 4 ? free : err(NONE);
        }

        int stitch(int s, int what) {
            int n = all().size();
            if (s < 0 || s >= n || what < 0 || what > 7) return err(BEYOND);
            if (what < 3) return all().get(s)[what];
            boolean[][] c = closure();
            if (what == 3) return level(s, c, new HashMap<>());
            if (what == 6) return work.contains(s) ? 1 : 0;
            if (what == 7) return free(s) ? 1 : 0;
            int sum = 0;
            for (int a = 0; a < n; a++) if (what == 4 ? c[a][s] : c[s][a]) sum++;
            return sum;
        }

        int ahead(int a, int b) {
            int n = all().size();
            if (a < 0 || b < 0 || a >= n || b >= n) return err(BEYOND);
            return closure()[a][b] ? 1 : 0;
        }

        long orders() {
            if (all().size() > 20) return errL(FULL);
            return ways(0, closure(), new HashMap<>());
        }

        int order(long r, int i) {
            int n = all().size();
            if (i < 0 || i >= n) return err(BEYOND);
            if (n > 20) return err(FULL);
            boolean[][] c = closure();
            Map<Integer, Long> memo = new HashMap<>();
            if (r < 0 || r >= ways(0, c, memo)) return err(NONE);
            if (n <= 7) {
                List<List<Integer>> rows = new ArrayList<>();
                enumerate(new ArrayList<>(), 0, c, rows);
                return rows.get((int) r).get(i);
            }
            int done = 0, last = -1;
            for (int k = 0; k <= i; k++) {
                last = -1;
                for (int s = 0; s < n && last < 0; s++) {
                    if (!can(s, done, c)) continue;
                    long w = ways(done | 1 << s, c, memo);
                    if (r < w) last = s;
                    else r -= w;
                }
                done |= 1 << last;
            }
            return last;
        }

        void enumerate(List<Integer> row, int done, boolean[][] c, List<List<Integer>> rows) {
            if (row.size() == c.length) rows.add(new ArrayList<>(row));
            for (int s = 0; s < c.length; s++) {
                if (!can(s, done, c)) continue;
                row.add(s);
                enumerate(row, done | 1 << s, c, rows);
                row.remove(row.size() - 1);
            }
        }

        long rank(int sheet) {
            if (sheet < 0 || sheet > 3) return errL(BEYOND);
            int n = all().size();
            if (n > 20) return errL(FULL);
            if (sheets[sheet] == null) return errL(LOST);
            if (sheets[sheet].length != n) return errL(STATE);
            boolean[][] c = closure();
            Map<Integer, Long> memo = new HashMap<>();
            int done = 0;
            long rank = 0;
            for (long v : sheets[sheet]) {
                if (v < 0 || v >= n || !can((int) v, done, c)) return errL(STATE);
                for (int s = 0; s < v; s++) if (can(s, done, c)) rank += ways(done | 1 << s, c, memo);
                done |= 1 << v;
            }
            return rank;
        }

        int refusal(long s) {
            if (s < 0 || s >= all().size()) return BEYOND;
            if (!free((int) s)) return STATE;
            List<Integer> more = new ArrayList<>(work);
            more.add((int) s);
            int[] used = used(more);
            for (int t = 0; t < used.length; t++) if (used[t] > wound[t]) return LACK;
            return 0;
        }

        int work(int s) {
            int k = refusal(s);
            if (k > 0) return err(k);
            work.add(s);
            int n = 0;
            for (Crossing x : events(work)) if (x.stitch == s) n++;
            return n;
        }

        int works(int sheet) {
            if (sheet < 0 || sheet > 3) return err(BEYOND);
            if (sheets[sheet] == null) return err(LOST);
            int n = 0;
            for (long v : sheets[sheet]) {
                if (refusal(v) > 0) break;
                work.add((int) v);
                n++;
            }
            return n;
        }

        int back() {
            return work.isEmpty() ? err(NONE) : work.remove(work.size() - 1);
        }

        int worked(int i) {
            return i < 0 || i >= work.size() ? err(BEYOND) : work.get(i);
        }

        int at(int place) {
            if (place < 0 || place >= 2 * pairs) return err(BEYOND);
            events(work);
            return threadAt(place);
        }

        int wind(int thread, int v) {
            if (thread < 0 || thread >= 2 * pairs || v < 0 || v > 9999) return err(BEYOND);
            if (used(work)[thread] > v) return err(STATE);
            int was = wound[thread];
            wound[thread] = v;
            return was;
        }

        int thread(int thread, int what) {
            if (thread < 0 || thread >= 2 * pairs || what < 0 || what > 7) return err(BEYOND);
            if (what == 0) return wound[thread];
            if (what == 1) return wound[thread] - used(work)[thread];
            List<Crossing> lace = events(what == 2 ? work : laceRow(1));
            if (what == 2) return places[thread];
            if (what == 3) return rounds(thread, places);
            if (what == 4) return used(laceRow(1))[thread];
            StringBuilder sides = new StringBuilder();
            for (Crossing x : lace) {
                if (x.over == thread) sides.append('o');
                if (x.under == thread) sides.append('u');
            }
            if (what == 5) return (int) sides.chars().filter(x -> x == 'o').count();
            if (what == 6) return (int) sides.chars().filter(x -> x == 'u').count();
            for (int i = 1; i < sides.length(); i++) if (sides.charAt(i) == sides.charAt(i - 1)) return i;
            return -1;
        }

        int place(int thread, int s) {
            if (thread < 0 || thread >= 2 * pairs || s < 0 || s > all().size()) return err(BEYOND);
            events(first(s));
            return places[thread];
        }

        long rounds() {
            events(laceRow(1));
            return common(places);
        }

        boolean badTwo(int one, int other) {
            return one < 0 || one >= 2 * pairs || other < 0 || other >= 2 * pairs || one == other;
        }

        int link(int one, int other) {
            if (badTwo(one, other)) return err(BEYOND);
            int sum = 0;
            for (Crossing x : events(laceRow(1))) {
                if (x.over == one && x.under == other) sum++;
                if (x.over == other && x.under == one) sum--;
            }
            return sum;
        }

        int meet(int one, int other) {
            if (badTwo(one, other)) return err(BEYOND);
            for (Crossing x : events(laceRow(1)))
                if (x.over == one && x.under == other || x.over == other && x.under == one) return x.stitch;
            return err(NONE);
        }

        int lacks(int what) {
            if (what != 0 && what != 1) return err(BEYOND);
            int n = all().size();
            for (int s = 0; s < n; s++) {
                int[] used = used(first(s + 1));
                for (int t = 0; t < used.length; t++) if (used[t] > wound[t]) return what == 0 ? s : t;
            }
            return err(NONE);
        }

        int lace(int which, int what) {
            if (which < 0 || which > 1 || what < 0 || what > 3) return err(BEYOND);
            List<Crossing> lace = events(laceRow(which));
            if (what == 0) return lace.size();
            List<Crossing> reduced = reduce(lace);
            if (what == 1) return reduced.size();
            if (what == 3) return (int) reduced.stream().filter(x -> x.sign == 1).count();
            return Arrays.stream(layers(reduced)).max().orElse(-1) + 1;
        }

        int layer(int which, int layer, int place) {
            if (which < 0 || which > 1 || layer < 0 || place < 0 || place > 2 * pairs - 2) return err(BEYOND);
            List<Crossing> reduced = reduce(events(laceRow(which)));
            int[] layers = layers(reduced);
            for (int i = 0; i < layers.length; i++)
                if (layers[i] == layer && reduced.get(i).place == place) return reduced.get(i).sign;
            return 0;
        }

        int repeat() {
            int deep = stitches(1);
            for (int r = 1; r <= deep; r++) {
                boolean all = true;
                for (int row = r; row < deep; row++) all &= Arrays.equals(pricking[row], pricking[row - r]);
                if (all) return r;
            }
            return err(NONE);
        }

        int motif(int sheet, int w, int what) {
            if (sheet < 0 || sheet > 3 || w < 1 || w > 7 || what < 0 || what > 1) return err(BEYOND);
            long[] m = sheets[sheet];
            if (m == null) return err(LOST);
            if (m.length == 0 || m.length % w != 0) return err(STATE);
            int h = m.length / w, found = 0;
            for (int r = 0; r + h <= 12; r++) {
                for (int g = 0; g + w <= pairs - 1; g++) {
                    boolean all = true;
                    for (int i = 0; i < m.length; i++) {
                        int held = pricking[r + i / w][g + i % w];
                        boolean one = m[i] == -2 || m[i] == -1 && held == -1 || m[i] >= 0 && m[i] <= 5 && held == m[i];
                        all &= one;
                    }
                    if (all && what == 1) return 10 * r + g;
                    if (all) found++;
                }
            }
            return what == 0 ? found : err(NONE);
        }

        int sheet(int sheet, int sort, int n) {
            if (sheet < 0 || sheet > 3 || sort < -1 || sort > 3) return err(BEYOND);
            if (sort >= 0 && n < 0) return err(STATE);
            if (sort >= 0 && n > 60) return err(BEYOND);
            sorts[sheet] = sort;
            sheets[sheet] = sort < 0 ? null : new long[n];
            return 1;
        }

        int put(int sheet, int i, long v) {
            if (sheet < 0 || sheet > 3) return err(BEYOND);
            if (sheets[sheet] == null || i < 0 || i >= sheets[sheet].length) return err(LOST);
            long kept = v;
            if (sorts[sheet] == 0) kept = v == 0 ? 0 : 1;
            if (sorts[sheet] == 1) kept = v << 48 >> 48;
            if (sorts[sheet] == 2) kept = v << 32 >> 32;
            sheets[sheet][i] = kept;
            return 1;
        }

        long number(int sheet, int i) {
            if (sheet < 0 || sheet > 3) return errL(BEYOND);
            if (sheets[sheet] == null || i < 0 || i >= sheets[sheet].length) return errL(LOST);
            return sheets[sheet][i];
        }

        int image() {
            image = new Model();
            image.take(this);
            return work.size();
        }

        int restore() {
            if (image == null) return err(NONE);
            take(image);
            return work.size();
        }

        int alike() {
            if (image == null) return err(NONE);
            return heap(work).equals(image.heap(image.work)) ? 1 : 0;
        }

        int count(int what) {
            if (what == 0) return pairs;
            if (what == 1) return tape.length();
            int woundSum = 0;
            for (int t = 0; t < 2 * pairs; t++) woundSum += wound[t];
            if (what == 2) return woundSum - Arrays.stream(used(work)).sum();
            if (what == 3) return woundSum;
            List<Crossing> lace = events(work);
            if (what == 4) return lace.size();
            int home = 0;
            for (int t = 0; t < 2 * pairs; t++) if (places[t] == t) home++;
            return what == 5 ? home : err(BEYOND);
        }

        int told(int k) {
            return k < 1 || k > 7 ? err(BEYOND) : errors[k];
        }
    }

    private static final int[] ODD = {-1, 256, 1000, -1000, Integer.MIN_VALUE, Integer.MAX_VALUE};

    private final Random random;
    private final LacePillow x = new LacePillow();
    private final Model m = new Model();
    private final int seed;
    private final boolean dense;
    private int calls = 0;
    private int wrong = 0;
    private final List<String> trail = new ArrayList<>();

    private ModelTest(int seed) {
        this.seed = seed;
        this.random = new Random(seed);
        this.dense = seed % 4 == 0;
    }

    /** Mostly 0 to n, at times just outside or far away. */
    private int upTo(int n) {
        int draw = random.nextInt(60);
        if (draw == 0) return ODD[random.nextInt(ODD.length)];
        if (draw == 1) return n + 1;
        if (draw == 2) return -1;
        return n < 0 ? 0 : random.nextInt(n + 1);
    }

    private int size() {
        return m.all().size();
    }

    private void same(String call, long got, long want) {
        calls++;
        trail.add(call + " -> " + got);
        if (got != want) {
            wrong++;
            System.out.println("seed " + seed + ", call " + calls + ": " + call + " answered " + got + ", due is " + want);
        }
    }

    private void feedText(String text) {
        for (char b : text.toCharArray()) same("feed " + (int) b, x.feed(b), m.feed(b));
    }

    private String somePricking() {
        int rows = 1 + random.nextInt(dense || random.nextInt(4) == 0 ? 12 : 5);
        if (random.nextInt(12) == 0) rows = 13;
        int thick = dense ? 4 : 1 + random.nextInt(4);
        StringBuilder text = new StringBuilder();
        List<String> made = new ArrayList<>();
        for (int r = 0; r < rows; r++) {
            StringBuilder row = new StringBuilder();
            for (int g = 0; g < m.pairs - 1; g++) {
                boolean beside = g > 0 && row.charAt(g - 1) != '.';
                row.append(!beside && random.nextInt(4) < thick ? (char) ('a' + random.nextInt(6)) : '.');
            }
            if (!made.isEmpty() && random.nextBoolean()) row = new StringBuilder(made.get(random.nextInt(made.size())));
            made.add(row.toString());
            if (r > 0) text.append('/');
            text.append(row);
        }
        if (random.nextInt(6) == 0) text.setCharAt(random.nextInt(text.length()), "/.abfg`T\u00ff".charAt(random.nextInt(9)));
        if (random.nextInt(12) == 0) text.setLength(random.nextInt(text.length()));
        if (random.nextInt(20) == 0) text.append("/");
        return text.length() > 120 ? text.substring(0, 120) : text.toString();
    }

    private String someWord() {
        StringBuilder word = new StringBuilder();
        int n = random.nextInt(12) == 0 ? random.nextInt(11) : 1 + random.nextInt(8);
        String from = random.nextInt(12) == 0 ? "cCtTx" : "cCtT";
        for (int i = 0; i < n; i++) word.append(from.charAt(random.nextInt(from.length())));
        return word.toString();
    }

    private void fillSheet(int sheet, int sort, long[] numbers) {
        same("sheet " + sheet + " " + sort + " " + numbers.length, x.sheet(sheet, sort, numbers.length), m.sheet(sheet, sort, numbers.length));
        for (int i = 0; i < numbers.length; i++)
            same("put " + sheet + " " + i + " " + numbers[i], x.put(sheet, i, numbers[i]), m.put(sheet, i, numbers[i]));
    }

    /** An order of all stitches, at times with a fault. */
    private long[] someOrder() {
        int n = size();
        long[] out = new long[Math.min(n, 60)];
        boolean[][] c = m.closure();
        boolean[] done = new boolean[n];
        for (int i = 0; i < out.length; i++) {
            List<Integer> can = new ArrayList<>();
            for (int s = 0; s < n; s++) {
                boolean free = !done[s];
                for (int a = 0; a < n; a++) free &= !c[a][s] || done[a];
                if (free) can.add(s);
            }
            int pick = can.get(random.nextInt(can.size()));
            done[pick] = true;
            out[i] = pick;
        }
        if (out.length > 0 && random.nextInt(6) == 0) out[random.nextInt(out.length)] = random.nextInt(n + 2) - 1;
        return random.nextInt(8) == 0 ? Arrays.copyOf(out, random.nextInt(out.length + 3)) : out;
    }

    private long[] someMotif(int w) {
        int h = 1 + random.nextInt(3);
        long[] out = new long[w * h];
        int row = random.nextInt(12), gap = random.nextInt(7);
        for (int i = 0; i < out.length; i++) {
            out[i] = m.pricking[(row + i / w) % 12][(gap + i % w) % 7];
            int draw = random.nextInt(8);
            if (draw == 0) out[i] = -2;
            if (draw == 1 && random.nextInt(4) == 0) out[i] = random.nextInt(10) - 3;
        }
        return out;
    }

    private void step() {
        int op = random.nextInt(52);
        if (dense && op < 8 && random.nextInt(8) > 0) return;
        int n = size();
        int threads = 2 * m.pairs - 1;
        int a, b, c;
        switch (op) {
            case 0 -> { if (random.nextInt(3) == 0) { a = 2 + upTo(6); same("pairs " + a, x.pairs(a), m.pairs(a)); } }
            case 1, 2 -> { a = upTo(11); b = upTo(m.pairs - 2); c = upTo(6) - 1; same("lay " + a + " " + b + " " + c, x.lay(a, b, c), m.lay(a, b, c)); }
            case 3 -> { a = upTo(11); b = upTo(m.pairs - 2); same("look " + a + " " + b, x.look(a, b), m.look(a, b)); }
            case 4 -> { a = upTo(255); same("feed " + a, x.feed(a), m.feed(a)); }
            case 5 -> { feedText(somePricking()); same("read", x.read(), m.read()); }
            case 6 -> same("read", x.read(), m.read());
            case 7 -> { a = upTo(5); feedText(someWord()); same("spell " + a, x.spell(a), m.spell(a)); }
            case 8 -> { a = upTo(5); b = upTo(7); same("word " + a + " " + b, x.word(a, b), m.word(a, b)); }
            case 9 -> { a = upTo(5); b = upTo(8); same("letter " + a + " " + b, x.letter(a, b), m.letter(a, b)); }
            case 10, 11 -> { a = upTo(6); same("stitches " + a, x.stitches(a), m.stitches(a)); }
            case 12, 13 -> { a = upTo(n - 1); b = upTo(7); same("stitch " + a + " " + b, x.stitch(a, b), m.stitch(a, b)); }
            case 14 -> { a = upTo(n - 1); b = upTo(n - 1); same("ahead " + a + " " + b, x.ahead(a, b), m.ahead(a, b)); }
            case 15 -> same("orders", x.orders(), m.orders());
            case 16, 17 -> {
                long all = n > 20 ? 5 : m.ways(0, m.closure(), new HashMap<>());
                long r = random.nextInt(10) == 0 ? all - random.nextInt(2) : Math.floorMod(random.nextLong(), all);
                if (random.nextInt(20) == 0) r = random.nextBoolean() ? -1 : Long.MIN_VALUE;
                a = upTo(n - 1);
                same("order " + r + " " + a, x.order(r, a), m.order(r, a));
            }
            case 18, 19 -> { a = upTo(3); if (random.nextInt(4) > 0) fillSheet(a, random.nextInt(8) == 0 ? 0 : 1 + random.nextInt(3), someOrder()); same("rank " + a, x.rank(a), m.rank(a)); }
            case 20, 21, 22, 23, 24 -> { a = random.nextInt(3) == 0 || n == 0 ? upTo(n - 1) : someFree(); same("work " + a, x.work(a), m.work(a)); }
            case 25 -> { a = upTo(3); if (random.nextInt(4) > 0) fillSheet(a, 1 + random.nextInt(3), someOrder()); same("works " + a, x.works(a), m.works(a)); }
            case 26 -> same("back", x.back(), m.back());
            case 27 -> { a = upTo(m.work.size()); same("worked " + a, x.worked(a), m.worked(a)); }
            case 28 -> { a = upTo(threads); same("at " + a, x.at(a), m.at(a)); }
            case 29 -> { a = upTo(threads); b = random.nextInt(4) == 0 ? random.nextInt(20) : upTo(random.nextInt(2) == 0 ? 9999 : 60); same("wind " + a + " " + b, x.wind(a, b), m.wind(a, b)); }
            case 30, 31, 32 -> { a = upTo(threads); b = upTo(7); same("thread " + a + " " + b, x.thread(a, b), m.thread(a, b)); }
            case 33 -> { a = upTo(threads); b = upTo(n); same("place " + a + " " + b, x.place(a, b), m.place(a, b)); }
            case 34 -> same("rounds", x.rounds(), m.rounds());
            case 35 -> { a = upTo(threads); b = upTo(threads); same("link " + a + " " + b, x.link(a, b), m.link(a, b)); }
            case 36 -> { a = upTo(threads); b = upTo(threads); same("meet " + a + " " + b, x.meet(a, b), m.meet(a, b)); }
            case 37 -> { a = upTo(1); same("lacks " + a, x.lacks(a), m.lacks(a)); }
            case 38, 39 -> { a = upTo(1); b = upTo(3); same("lace " + a + " " + b, x.lace(a, b), m.lace(a, b)); }
            case 40, 41 -> { a = upTo(1); b = upTo(random.nextInt(3) == 0 ? 100 : dense ? 30 : 8); c = upTo(2 * m.pairs - 2); same("layer " + a + " " + b + " " + c, x.layer(a, b, c), m.layer(a, b, c)); }
            case 42 -> same("repeat", x.repeat(), m.repeat());
            case 43, 44 -> { a = upTo(3); b = 1 + random.nextInt(3); if (random.nextInt(5) > 0) fillSheet(a, 1 + random.nextInt(3), someMotif(b)); else b = 1 + upTo(6); c = upTo(1); same("motif " + a + " " + b + " " + c, x.motif(a, b, c), m.motif(a, b, c)); }
            case 45 -> { a = upTo(3); b = upTo(4) - 1; c = upTo(60); same("sheet " + a + " " + b + " " + c, x.sheet(a, b, c), m.sheet(a, b, c)); }
            case 46 -> { a = upTo(3); b = upTo(10); long v = random.nextBoolean() ? random.nextLong() : -9000000000000000001L; same("put " + a + " " + b + " " + v, x.put(a, b, v), m.put(a, b, v)); same("number " + a + " " + b, x.number(a, b), m.number(a, b)); }
            case 47 -> { a = upTo(3); b = upTo(10); same("number " + a + " " + b, x.number(a, b), m.number(a, b)); }
            case 48 -> same("image", x.image(), m.image());
            case 49 -> { if (random.nextInt(2) == 0) same("restore", x.restore(), m.restore()); else same("alike", x.alike(), m.alike()); }
            case 50 -> { a = upTo(5); same("count " + a, x.count(a), m.count(a)); }
            default -> { a = 1 + upTo(6); same("told " + a, x.told(a), m.told(a)); }
        }
    }

    private int someFree() {
        List<Integer> free = new ArrayList<>();
        for (int s = 0; s < size(); s++) if (m.free(s)) free.add(s);
        return free.isEmpty() ? 0 : free.get(random.nextInt(free.size()));
    }

    private int run() {
        if (dense || random.nextInt(2) == 0) {
            int n = dense ? 6 + random.nextInt(3) : 2 + random.nextInt(7);
            same("pairs " + n, x.pairs(n), m.pairs(n));
        }
        if (dense) {
            feedText(somePricking());
            same("read", x.read(), m.read());
        }
        for (int i = 0; i < 400 && calls < 420 && wrong == 0; i++) step();
        if (wrong > 0) for (String call : trail) System.out.println("    " + call);
        return wrong;
    }

    public static void main(String[] args) {
        int from = args.length > 0 ? Integer.parseInt(args[0]) : 1;
        int runs = args.length > 1 ? Integer.parseInt(args[1]) : 200;
        int wrong = 0;
        for (int seed = from; seed < from + runs && wrong == 0; seed++) wrong += new ModelTest(seed).run();
        System.out.println(wrong == 0 ? "ModelTest: all answers are as due" : "ModelTest: " + wrong + " answers are not as due");
        if (wrong != 0) System.exit(1);
    }
}
