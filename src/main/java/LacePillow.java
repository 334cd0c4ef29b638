import java.util.Arrays;

/**
 * A lace pillow: the document ../shared/DOC.md says what each call answers and changes.
 *
 * <p>All rows are made by the constructor and used again, so that no call makes an object.
 */
public final class LacePillow {
    private static final int LOW = -1000000000;
    private static final long LONG_LOW = -9000000000000000000L;
    private static final int BEYOND = 1;
    private static final int NONE = 2;
    private static final int STATE = 3;
    private static final int FULL = 4;
    private static final int LACK = 6;
    private static final int LOST = 7;

    private static final int ROWS = 12;
    private static final int MOST_PAIRS = 8;
    private static final int MOST_GAPS = MOST_PAIRS - 1;
    private static final int MOST_THREADS = 2 * MOST_PAIRS;
    private static final int KINDS = 6;
    private static final int MOST_LETTERS = 8;
    private static final int MOST_STITCHES = 48;
    private static final int MOST_BYTES = 120;
    private static final int SHEETS = 4;
    private static final int MOST_NUMBERS = 60;
    private static final int MOST_WOUND = 9999;
    private static final int MOST_ORDERED = 20;
    private static final int EMPTY = -1;
    private static final int MISSING = -1;
    private static final int FAULTLESS = -1;

    private final Plan plan = new Plan();
    private final Plan kept = new Plan();
    private final Heap keptHeap = new Heap();
    private boolean imaged = false;
    private final Ground ground = new Ground();
    private final Ways ways = new Ways();
    private final Weave done = new Weave();
    private final Weave thought = new Weave();
    private int thoughtStitches = -1;
    private long workedBits = 0L;
    private final Tape tape = new Tape();
    private final Sheet[] sheets = new Sheet[SHEETS];
    private final int[] errors = new int[LOST + 1];

    public LacePillow() {
        for (int i = 0; i < SHEETS; i++) {
            sheets[i] = new Sheet();
        }
    }

    // ---- the pricking, words

    public int pairs(int n) {
        if (n < 2 || n > MOST_PAIRS) {
            return fail(BEYOND);
        }
        int former = plan.pairs;
        plan.pairs = n;
        Arrays.fill(plan.cells, EMPTY);
        beginAnew();
        return former;
    }

    public int lay(int row, int gap, int kind) {
        if (!isCell(row, gap) || kind < EMPTY || kind >= KINDS) {
            return fail(BEYOND);
        }
        if (kind != EMPTY && (holds(row, gap - 1) || holds(row, gap + 1))) {
            return fail(STATE);
        }
        int former = plan.cells[row * MOST_GAPS + gap];
        plan.cells[row * MOST_GAPS + gap] = kind;
        beginAnew();
        return former;
    }

    public int look(int row, int gap) {
        if (!isCell(row, gap)) {
            return fail(BEYOND);
        }
        return plan.cells[row * MOST_GAPS + gap];
    }

    public int feed(int b) {
        if (b < 0 || b > 255) {
            return fail(BEYOND);
        }
        if (tape.size >= MOST_BYTES) {
            return fail(FULL);
        }
        tape.bytes[tape.size] = b;
        tape.size++;
        return tape.size;
    }

    public int read() {
        int fault = tape.prickingFault(plan.pairs - 1);
        if (fault == FAULTLESS) {
            tape.prickInto(plan);
            beginAnew();
        }
        tape.size = 0;
        return fault == FAULTLESS ? ground.size : -10 - fault;
    }

    public int spell(int kind) {
        if (!isKind(kind)) {
            return fail(BEYOND);
        }
        int fault = tape.wordFault();
        if (fault == FAULTLESS) {
            tape.spellInto(plan, kind);
            beginAnew();
        }
        tape.size = 0;
        return fault == FAULTLESS ? plan.lengths[kind] : -10 - fault;
    }

    public int word(int kind, int what) {
        if (!isKind(kind) || what < 0 || what > 7) {
            return fail(BEYOND);
        }
        if (what == 0) {
            return plan.lengths[kind];
        }
        thinkWord(kind);
        if (what == 1) {
            return thought.crossings;
        }
        if (what == 2) {
            return thought.heap.size;
        }
        if (what == 3) {
            return (int) thought.commonTurns();
        }
        return thought.places[what - 4];
    }

    public int letter(int kind, int i) {
        if (!isKind(kind) || i < 0 || i >= plan.lengths[kind]) {
            return fail(BEYOND);
        }
        return plan.letters[kind * MOST_LETTERS + i];
    }

    // ---- stitches, orders

    public int stitches(int what) {
        switch (what) {
            case 0:
                return ground.size;
            case 1:
                return ground.deep;
            case 2:
                return ground.longestChain();
            case 3:
                return ground.widest();
            case 4:
                return ground.countFree(workedBits);
            case 5:
                return plan.worked;
            case 6:
                return noneIfBelow0(ground.leastFree(workedBits));
            default:
                return fail(BEYOND);
        }
    }

    public int stitch(int s, int what) {
        if (!isStitch(s)) {
            return fail(BEYOND);
        }
        switch (what) {
            case 0:
                return ground.rows[s];
            case 1:
                return ground.gaps[s];
            case 2:
                return ground.kinds[s];
            case 3:
                return ground.levels[s];
            case 4:
                return Long.bitCount(ground.before[s]);
            case 5:
                return ground.countBehind(s);
            case 6:
                return (workedBits >> s & 1L) == 1L ? 1 : 0;
            case 7:
                return ground.isFree(s, workedBits) ? 1 : 0;
            default:
                return fail(BEYOND);
        }
    }

    public int ahead(int a, int b) {
        if (!isStitch(a) || !isStitch(b)) {
            return fail(BEYOND);
        }
        return ground.leads(a, b) ? 1 : 0;
    }

    public long orders() {
        if (ground.size > MOST_ORDERED) {
            return failLong(FULL);
        }
        ways.reckon(ground);
        return ways.counts[0];
    }

    public int order(long r, int i) {
        if (!isStitch(i)) {
            return fail(BEYOND);
        }
        if (ground.size > MOST_ORDERED) {
            return fail(FULL);
        }
        ways.reckon(ground);
        if (r < 0L || r >= ways.counts[0]) {
            return fail(NONE);
        }
        return ways.stitchOf(ground, r, i);
    }

    public long rank(int sheet) {
        if (!isSheet(sheet)) {
            return failLong(BEYOND);
        }
        if (ground.size > MOST_ORDERED) {
            return failLong(FULL);
        }
        if (sheets[sheet].sort == MISSING) {
            return failLong(LOST);
        }
        ways.reckon(ground);
        long number = ways.numberOf(ground, sheets[sheet]);
        return number < 0L ? failLong(STATE) : number;
    }

    // ---- work

    public int work(int s) {
        int refusal = tryStitch(s);
        if (refusal != 0) {
            return fail(refusal);
        }
        return plan.crossingsOf(ground.kinds[s]);
    }

    public int works(int sheet) {
        if (!isSheet(sheet)) {
            return fail(BEYOND);
        }
        Sheet told = sheets[sheet];
        if (told.sort == MISSING) {
            return fail(LOST);
        }
        for (int i = 0; i < told.size; i++) {
            if (tryStitch(told.numbers[i]) != 0) {
                return i;
            }
        }
        return told.size;
    }

    public int back() {
        if (plan.worked == 0) {
            return fail(NONE);
        }
        plan.worked--;
        replay();
        return plan.work[plan.worked];
    }

    public int worked(int i) {
        if (i < 0 || i >= plan.worked) {
            return fail(BEYOND);
        }
        return plan.work[i];
    }

    public int at(int place) {
        if (!isThread(place)) {
            return fail(BEYOND);
        }
        return done.threads[place];
    }

    public int wind(int thread, int v) {
        if (!isThread(thread) || v < 0 || v > MOST_WOUND) {
            return fail(BEYOND);
        }
        if (done.used[thread] > v) {
            return fail(STATE);
        }
        int former = plan.wound[thread];
        plan.wound[thread] = v;
        return former;
    }

    public int thread(int thread, int what) {
        if (!isThread(thread) || what < 0 || what > 7) {
            return fail(BEYOND);
        }
        if (what == 0) {
            return plan.wound[thread];
        }
        if (what == 1) {
            return plan.wound[thread] - done.used[thread];
        }
        if (what == 2) {
            return done.places[thread];
        }
        thinkStitches(ground.size);
        switch (what) {
            case 3:
                return thought.turnsOf(thread);
            case 4:
                return thought.used[thread];
            case 5:
                return thought.overs[thread];
            case 6:
                return thought.unders[thread];
            default:
                return thought.falses[thread];
        }
    }

    public int place(int thread, int s) {
        if (!isThread(thread) || s < 0 || s > ground.size) {
            return fail(BEYOND);
        }
        thinkStitches(s);
        return thought.places[thread];
    }

    public long rounds() {
        thinkStitches(ground.size);
        return thought.commonTurns();
    }

    public int link(int one, int other) {
        if (!isThread(one) || !isThread(other) || one == other) {
            return fail(BEYOND);
        }
        thinkStitches(ground.size);
        return thought.passes[one * MOST_THREADS + other] - thought.passes[other * MOST_THREADS + one];
    }

    public int meet(int one, int other) {
        if (!isThread(one) || !isThread(other) || one == other) {
            return fail(BEYOND);
        }
        for (int s = 0; s < ground.size; s++) {
            thinkStitches(s + 1);
            if (thought.haveCrossed(one, other)) {
                return s;
            }
        }
        return fail(NONE);
    }

    public int lacks(int what) {
        if (what < 0 || what > 1) {
            return fail(BEYOND);
        }
        for (int s = 0; s < ground.size; s++) {
            thinkStitches(s + 1);
            int lacking = thought.leastLacking(plan.wound);
            if (lacking >= 0) {
                return what == 0 ? s : lacking;
            }
        }
        return fail(NONE);
    }

    // ---- lace, grounds

    public int lace(int which, int what) {
        if (which < 0 || which > 1 || what < 0 || what > 3) {
            return fail(BEYOND);
        }
        Weave weave = weaveOf(which);
        switch (what) {
            case 0:
                return weave.crossings;
            case 1:
                return weave.heap.size;
            case 2:
                return weave.heap.countLayers();
            default:
                return weave.heap.countSign(1);
        }
    }

    public int layer(int which, int layer, int place) {
        if (which < 0 || which > 1 || layer < 0 || place < 0 || place > 2 * plan.pairs - 2) {
            return fail(BEYOND);
        }
        return weaveOf(which).heap.signAt(layer, place);
    }

    public int repeat() {
        for (int r = 1; r <= ground.deep; r++) {
            if (plan.repeatsBy(r, ground.deep)) {
                return r;
            }
        }
        return fail(NONE);
    }

    public int motif(int sheet, int w, int what) {
        if (!isSheet(sheet) || w < 1 || w > MOST_GAPS || what < 0 || what > 1) {
            return fail(BEYOND);
        }
        Sheet told = sheets[sheet];
        if (told.sort == MISSING) {
            return fail(LOST);
        }
        if (told.size == 0 || told.size % w != 0) {
            return fail(STATE);
        }
        int found = 0;
        for (int row = 0; row < ROWS; row++) {
            for (int gap = 0; gap < plan.pairs - 1; gap++) {
                if (plan.fits(told, w, row, gap)) {
                    if (what == 1) {
                        return 10 * row + gap;
                    }
                    found++;
                }
            }
        }
        return what == 1 ? fail(NONE) : found;
    }

    // ---- sheets, images, what is told

    public int sheet(int sheet, int sort, int n) {
        if (!isSheet(sheet) || sort < MISSING || sort > 3) {
            return fail(BEYOND);
        }
        if (sort == MISSING) {
            sheets[sheet].sort = MISSING;
            return 1;
        }
        if (n < 0) {
            return fail(STATE);
        }
        if (n > MOST_NUMBERS) {
            return fail(BEYOND);
        }
        sheets[sheet].begin(sort, n);
        return 1;
    }

    public int put(int sheet, int i, long v) {
        if (!isSheet(sheet)) {
            return fail(BEYOND);
        }
        if (!sheets[sheet].has(i)) {
            return fail(LOST);
        }
        sheets[sheet].numbers[i] = sheets[sheet].cut(v);
        return 1;
    }

    public long number(int sheet, int i) {
        if (!isSheet(sheet)) {
            return failLong(BEYOND);
        }
        if (!sheets[sheet].has(i)) {
            return failLong(LOST);
        }
        return sheets[sheet].numbers[i];
    }

    public int image() {
        kept.copyFrom(plan);
        keptHeap.copyFrom(done.heap);
        imaged = true;
        return kept.worked;
    }

    public int restore() {
        if (!imaged) {
            return fail(NONE);
        }
        plan.copyFrom(kept);
        regard();
        replay();
        return plan.worked;
    }

    public int alike() {
        if (!imaged) {
            return fail(NONE);
        }
        return done.heap.isAs(keptHeap) ? 1 : 0;
    }

    public int count(int what) {
        int threads = 2 * plan.pairs;
        switch (what) {
            case 0:
                return plan.pairs;
            case 1:
                return tape.size;
            case 2:
                return sumOf(plan.wound, threads) - sumOf(done.used, threads);
            case 3:
                return sumOf(plan.wound, threads);
            case 4:
                return done.crossings;
            case 5:
                return done.countAtHome(threads);
            default:
                return fail(BEYOND);
        }
    }

    public int told(int k) {
        if (k < 1 || k > LOST) {
            return fail(BEYOND);
        }
        return errors[k];
    }

    // ---- what the calls share

    private int fail(int k) {
        errors[k]++;
        return LOW - k;
    }

    private long failLong(int k) {
        errors[k]++;
        return LONG_LOW - k;
    }

    private int noneIfBelow0(int answer) {
        return answer < 0 ? fail(NONE) : answer;
    }

    private boolean isCell(int row, int gap) {
        return row >= 0 && row < ROWS && gap >= 0 && gap < plan.pairs - 1;
    }

    private boolean holds(int row, int gap) {
        return isCell(row, gap) && plan.cells[row * MOST_GAPS + gap] != EMPTY;
    }

    private boolean isThread(int thread) {
        return thread >= 0 && thread < 2 * plan.pairs;
    }

    private boolean isStitch(long s) {
        return s >= 0L && s < ground.size;
    }

    private static boolean isKind(int kind) {
        return kind >= 0 && kind < KINDS;
    }

    private static boolean isSheet(int sheet) {
        return sheet >= 0 && sheet < SHEETS;
    }

    private static int sumOf(int[] numbers, int n) {
        int sum = 0;
        for (int i = 0; i < n && i < numbers.length; i++) {
            sum += numbers[i];
        }
        return sum;
    }

    private void beginAnew() {
        plan.worked = 0;
        done.clear();
        workedBits = 0L;
        regard();
    }

    /** Looks at the plan anew, whatever was known of the one ahead. */
    private void regard() {
        ground.gather(plan);
        ways.known = false;
        thoughtStitches = -1;
    }

    private void replay() {
        done.clear();
        workedBits = 0L;
        for (int i = 0; i < plan.worked; i++) {
            int s = plan.work[i];
            done.make(plan, ground.kinds[s], ground.gaps[s]);
            workedBits |= 1L << s;
        }
    }

    /** Works a stitch and answers 0, or the number of the error for which it is refused. */
    private int tryStitch(long number) {
        if (!isStitch(number)) {
            return BEYOND;
        }
        int s = (int) number;
        if (!ground.isFree(s, workedBits)) {
            return STATE;
        }
        done.make(plan, ground.kinds[s], ground.gaps[s]);
        if (done.leastLacking(plan.wound) >= 0) {
            replay();
            return LACK;
        }
        workedBits |= 1L << s;
        plan.work[plan.worked] = s;
        plan.worked++;
        return 0;
    }

    /** Works the first n of all stitches in thought, going on from where the thought stands. */
    private void thinkStitches(int n) {
        if (thoughtStitches < 0 || thoughtStitches > n) {
            thought.clear();
            thoughtStitches = 0;
        }
        for (int s = thoughtStitches; s < n; s++) {
            thought.make(plan, ground.kinds[s], ground.gaps[s]);
        }
        thoughtStitches = n;
    }

    /** A word alone is as a stitch at gap 0. */
    private void thinkWord(int kind) {
        thought.clear();
        thought.make(plan, kind, 0);
        thoughtStitches = -1;
    }

    private Weave weaveOf(int which) {
        if (which == 0) {
            return done;
        }
        thinkStitches(ground.size);
        return thought;
    }

    /** All that an image keeps. */
    private static final class Plan {
        int pairs = 4;
        final int[] cells = new int[ROWS * MOST_GAPS];
        final int[] letters = new int[KINDS * MOST_LETTERS];
        final int[] lengths = new int[KINDS];
        final int[] wound = new int[MOST_THREADS];
        final int[] work = new int[MOST_STITCHES];
        int worked = 0;

        Plan() {
            Arrays.fill(cells, EMPTY);
            Arrays.fill(wound, 200);
            for (int kind = 0; kind < KINDS; kind++) {
                String first = firstWord(kind);
                lengths[kind] = first.length();
                for (int i = 0; i < first.length(); i++) {
                    letters[kind * MOST_LETTERS + i] = first.charAt(i);
                }
            }
        }

        private static String firstWord(int kind) {
            switch (kind) {
                case 0:
                    return "ctc";
                case 1:
                    return "ct";
                case 2:
                    return "ctct";
                case 3:
                    return "t";
                case 4:
                    return "tct";
                default:
                    return "cc";
            }
        }

        void copyFrom(Plan other) {
            pairs = other.pairs;
            System.arraycopy(other.cells, 0, cells, 0, ROWS * MOST_GAPS);
            System.arraycopy(other.letters, 0, letters, 0, KINDS * MOST_LETTERS);
            System.arraycopy(other.lengths, 0, lengths, 0, KINDS);
            System.arraycopy(other.wound, 0, wound, 0, MOST_THREADS);
            System.arraycopy(other.work, 0, work, 0, MOST_STITCHES);
            worked = other.worked;
        }

        int crossingsOf(int kind) {
            int crossings = 0;
            for (int i = 0; i < lengths[kind]; i++) {
                int letter = letters[kind * MOST_LETTERS + i];
                crossings += letter == 'c' || letter == 'C' ? 1 : 2;
            }
            return crossings;
        }

        boolean repeatsBy(int r, int deep) {
            for (int row = r; row < deep; row++) {
                for (int gap = 0; gap < MOST_GAPS; gap++) {
                    if (cells[row * MOST_GAPS + gap] != cells[(row - r) * MOST_GAPS + gap]) {
                        return false;
                    }
                }
            }
            return true;
        }

        boolean fits(Sheet motif, int w, int row, int gap) {
            if (gap + w > pairs - 1) {
                return false;
            }
            int atRow = row;
            int atGap = 0;
            for (int i = 0; i < motif.size; i++) {
                if (atRow >= ROWS || !fitsCell(motif.numbers[i], cells[atRow * MOST_GAPS + gap + atGap])) {
                    return false;
                }
                atGap++;
                if (atGap == w) {
                    atGap = 0;
                    atRow++;
                }
            }
            return true;
        }

        /** EMPTY is -1, as a motif tells it, so that one comparison does for none and for a kind. */
        private static boolean fitsCell(long wanted, int held) {
            return wanted == -2L || wanted == held;
        }
    }

    /** The stitches of a plan, by their numbers, and which is ahead of which. */
    private static final class Ground {
        int size = 0;
        int deep = 0;
        final int[] rows = new int[MOST_STITCHES];
        final int[] gaps = new int[MOST_STITCHES];
        final int[] kinds = new int[MOST_STITCHES];
        final int[] levels = new int[MOST_STITCHES];
        final long[] before = new long[MOST_STITCHES];
        private final int[] wides = new int[MOST_STITCHES];

        void gather(Plan plan) {
            size = 0;
            deep = 0;
            for (int row = 0; row < ROWS; row++) {
                for (int gap = 0; gap < plan.pairs - 1; gap++) {
                    int kind = plan.cells[row * MOST_GAPS + gap];
                    if (kind != EMPTY && size < MOST_STITCHES) {
                        enter(row, gap, kind);
                    }
                }
            }
        }

        private void enter(int row, int gap, int kind) {
            int s = size;
            rows[s] = row;
            gaps[s] = gap;
            kinds[s] = kind;
            levels[s] = 0;
            before[s] = 0L;
            for (int a = 0; a < s; a++) {
                if (rows[a] < row && Math.abs(gaps[a] - gap) <= 1) {
                    before[s] |= before[a] | 1L << a;
                    levels[s] = Math.max(levels[s], levels[a] + 1);
                }
            }
            size++;
            deep = row + 1;
        }

        boolean leads(int a, int b) {
            return (before[b] >> a & 1L) == 1L;
        }

        boolean isFree(int s, long doneBits) {
            return (doneBits >> s & 1L) == 0L && (before[s] & ~doneBits) == 0L;
        }

        int countFree(long doneBits) {
            int free = 0;
            for (int s = 0; s < size; s++) {
                if (isFree(s, doneBits)) {
                    free++;
                }
            }
            return free;
        }

        int leastFree(long doneBits) {
            for (int s = 0; s < size; s++) {
                if (isFree(s, doneBits)) {
                    return s;
                }
            }
            return -1;
        }

        int countBehind(int a) {
            int behind = 0;
            for (int s = 0; s < size; s++) {
                if (leads(a, s)) {
                    behind++;
                }
            }
            return behind;
        }

        int longestChain() {
            int longest = 0;
            for (int s = 0; s < size; s++) {
                longest = Math.max(longest, levels[s] + 1);
            }
            return longest;
        }

        /**
         * Stitches none of which is ahead of another have gaps at least 2 apart. It is enough to
         * compare neighbours: a chain from one to another passes the gap of each between them, and
         * what it passes there is comparable with that one, which so is with one of the two ends.
         */
        int widest() {
            int widest = 0;
            for (int gap = 0; gap < MOST_GAPS; gap++) {
                for (int s = 0; s < size; s++) {
                    if (gaps[s] == gap) {
                        wides[s] = 1 + widestLeftOf(s);
                        widest = Math.max(widest, wides[s]);
                    }
                }
            }
            return widest;
        }

        private int widestLeftOf(int s) {
            int widest = 0;
            for (int t = 0; t < size; t++) {
                if (gaps[t] < gaps[s] && !leads(s, t) && !leads(t, s)) {
                    widest = Math.max(widest, wides[t]);
                }
            }
            return widest;
        }
    }

    /**
     * In how many ways the stitches can be worked to the end. Those of the gaps 2 l and 2 l + 1 are
     * a LINE, each ahead of the next: what has been worked is told by how many of each line have.
     * 20 stitches in 4 lines have at most 6 * 6 * 6 * 6 such states.
     */
    private static final class Ways {
        private static final int LINES = 4;
        private static final int STATES = 1296;

        boolean known = false;
        final long[] counts = new long[STATES];
        private final int[] lengths = new int[LINES];
        private final int[] strides = new int[LINES];
        private final int[] stitches = new int[LINES * ROWS];
        private final long[] bits = new long[LINES * (ROWS + 1)];

        void reckon(Ground ground) {
            if (known) {
                return;
            }
            sortIntoLines(ground);
            for (int a = lengths[0]; a >= 0; a--) {
                for (int b = lengths[1]; b >= 0; b--) {
                    for (int c = lengths[2]; c >= 0; c--) {
                        for (int d = lengths[3]; d >= 0; d--) {
                            reckonState(ground, a, b, c, d);
                        }
                    }
                }
            }
            known = true;
        }

        private void sortIntoLines(Ground ground) {
            Arrays.fill(lengths, 0);
            Arrays.fill(bits, 0L);
            for (int s = 0; s < ground.size; s++) {
                int line = ground.gaps[s] / 2;
                int n = lengths[line];
                if (n < ROWS) {
                    stitches[line * ROWS + n] = s;
                    bits[line * (ROWS + 1) + n + 1] = bits[line * (ROWS + 1) + n] | 1L << s;
                    lengths[line] = n + 1;
                }
            }
            int stride = 1;
            for (int line = 0; line < LINES; line++) {
                strides[line] = stride;
                stride *= lengths[line] + 1;
            }
        }

        private void reckonState(Ground ground, int a, int b, int c, int d) {
            int state = a * strides[0] + b * strides[1] + c * strides[2] + d * strides[3];
            if (state >= STATES) {
                return;
            }
            long done = bitsOf(0, a) | bitsOf(1, b) | bitsOf(2, c) | bitsOf(3, d);
            if (Long.bitCount(done) == ground.size) {
                counts[state] = 1L;
                return;
            }
            counts[state] = onward(ground, 0, a, done, state) + onward(ground, 1, b, done, state)
                    + onward(ground, 2, c, done, state) + onward(ground, 3, d, done, state);
        }

        private long bitsOf(int line, int n) {
            return bits[line * (ROWS + 1) + n];
        }

        /** The ways that go on with the next stitch of a line, n of which have been worked. */
        private long onward(Ground ground, int line, int n, long done, int state) {
            if (n >= lengths[line] || !ground.isFree(stitches[line * ROWS + n], done)) {
                return 0L;
            }
            return countOf(state + strides[line]);
        }

        private long countOf(int state) {
            return state < STATES ? counts[state] : 0L;
        }

        private int strideOf(Ground ground, int s) {
            return strides[ground.gaps[s] / 2];
        }

        /** The i-th stitch of order r, which there is. */
        int stitchOf(Ground ground, long r, int i) {
            long rest = r;
            long done = 0L;
            int state = 0;
            int latest = 0;
            for (int step = 0; step <= i; step++) {
                for (int s = 0; s < ground.size; s++) {
                    if (ground.isFree(s, done)) {
                        latest = s;
                        long count = countOf(state + strideOf(ground, s));
                        if (rest < count) {
                            break;
                        }
                        rest -= count;
                    }
                }
                done |= 1L << latest;
                state += strideOf(ground, latest);
            }
            return latest;
        }

        /** The number of the order that a sheet tells, -1 if it tells none. */
        long numberOf(Ground ground, Sheet sheet) {
            if (sheet.size != ground.size) {
                return -1L;
            }
            long number = 0L;
            long done = 0L;
            int state = 0;
            for (int i = 0; i < sheet.size; i++) {
                long told = sheet.numbers[i];
                if (told < 0L || told >= ground.size || !ground.isFree((int) told, done)) {
                    return -1L;
                }
                int latest = (int) told;
                for (int s = 0; s < latest; s++) {
                    if (ground.isFree(s, done)) {
                        number += countOf(state + strideOf(ground, s));
                    }
                }
                done |= 1L << latest;
                state += strideOf(ground, latest);
            }
            return number;
        }
    }

    /** Threads on their places, and what each went through to come there. */
    private static final class Weave {
        private static final int OVER = 1;
        private static final int UNDER = 2;

        final int[] threads = new int[MOST_THREADS];
        final int[] places = new int[MOST_THREADS];
        final int[] used = new int[MOST_THREADS];
        final int[] overs = new int[MOST_THREADS];
        final int[] unders = new int[MOST_THREADS];
        final int[] falses = new int[MOST_THREADS];
        private final int[] sides = new int[MOST_THREADS];
        final int[] passes = new int[MOST_THREADS * MOST_THREADS];
        final Heap heap = new Heap();
        int crossings = 0;

        Weave() {
            sendHome();
            Arrays.fill(falses, -1);
        }

        private void sendHome() {
            for (int i = 0; i < MOST_THREADS; i++) {
                threads[i] = i;
                places[i] = i;
            }
        }

        void clear() {
            sendHome();
            Arrays.fill(used, 0);
            Arrays.fill(overs, 0);
            Arrays.fill(unders, 0);
            Arrays.fill(falses, -1);
            Arrays.fill(sides, 0);
            Arrays.fill(passes, 0);
            heap.clear();
            crossings = 0;
        }

        void make(Plan plan, int kind, int gap) {
            for (int place = 2 * gap; place < 2 * gap + 4; place++) {
                used[threads[place]]++;
            }
            for (int i = 0; i < plan.lengths[kind]; i++) {
                int letter = plan.letters[kind * MOST_LETTERS + i];
                int sign = letter == 'c' || letter == 'T' ? 1 : 2;
                if (letter == 'c' || letter == 'C') {
                    cross(2 * gap + 1, sign);
                } else {
                    cross(2 * gap, sign);
                    cross(2 * gap + 2, sign);
                }
            }
        }

        private void cross(int place, int sign) {
            int left = threads[place];
            int right = threads[place + 1];
            threads[place] = right;
            threads[place + 1] = left;
            places[right] = place;
            places[left] = place + 1;
            pass(sign == 1 ? left : right, sign == 1 ? right : left);
            heap.add(place, sign);
            crossings++;
        }

        private void pass(int over, int under) {
            noteSide(over, OVER);
            noteSide(under, UNDER);
            overs[over]++;
            unders[under]++;
            used[over] += 2;
            used[under]++;
            passes[over * MOST_THREADS + under]++;
        }

        private void noteSide(int thread, int side) {
            if (sides[thread] == side && falses[thread] < 0) {
                falses[thread] = overs[thread] + unders[thread];
            }
            sides[thread] = side;
        }

        boolean haveCrossed(int one, int other) {
            return passes[one * MOST_THREADS + other] + passes[other * MOST_THREADS + one] > 0;
        }

        /** The least thread that used more than is wound of it, -1 if none did. */
        int leastLacking(int[] wound) {
            for (int thread = 0; thread < MOST_THREADS && thread < wound.length; thread++) {
                if (used[thread] > wound[thread]) {
                    return thread;
                }
            }
            return -1;
        }

        int countAtHome(int n) {
            int home = 0;
            for (int i = 0; i < n && i < MOST_THREADS; i++) {
                if (places[i] == i) {
                    home++;
                }
            }
            return home;
        }

        int turnsOf(int thread) {
            int place = thread;
            for (int turns = 1; turns <= MOST_THREADS; turns++) {
                place = places[place];
                if (place == thread) {
                    return turns;
                }
            }
            return MOST_THREADS;
        }

        /** Threads beyond the pairs never move: their turns, 1, leave the number as it is. */
        long commonTurns() {
            long common = 1L;
            for (int thread = 0; thread < MOST_THREADS; thread++) {
                common = leastCommonMultiple(common, turnsOf(thread));
            }
            return common;
        }

        private static long leastCommonMultiple(long a, int b) {
            for (int k = 1; k < b; k++) {
                if (a * k % b == 0L) {
                    return a * k;
                }
            }
            return a * b;
        }
    }

    /**
     * Crossings in layers, reduced as they come: one that lies uppermost and is met by its
     * contrary at the same place is taken away, and what is left is reduced again.
     *
     * <p>A layer is one more than another by crossings of two letters, of stitches in rows that
     * never fall: 12 rows of 8 letters have at most 96 layers.
     */
    private static final class Heap {
        private static final int WIDTH = MOST_THREADS - 1;
        private static final int LAYERS = ROWS * MOST_LETTERS;

        int size = 0;
        private final int[] signs = new int[LAYERS * WIDTH];
        /** The uppermost layer at each place, -1 if there is none, with one place more at each side. */
        private final int[] tops = new int[WIDTH + 2];

        Heap() {
            Arrays.fill(tops, -1);
        }

        void clear() {
            size = 0;
            Arrays.fill(signs, 0);
            Arrays.fill(tops, -1);
        }

        void copyFrom(Heap other) {
            size = other.size;
            System.arraycopy(other.signs, 0, signs, 0, LAYERS * WIDTH);
            System.arraycopy(other.tops, 0, tops, 0, WIDTH + 2);
        }

        void add(int place, int sign) {
            int top = tops[place + 1];
            int beside = Math.max(tops[place], tops[place + 2]);
            if (top > beside && signs[top * WIDTH + place] != sign) {
                takeTop(place, top);
                return;
            }
            int layer = Math.max(top, beside) + 1;
            if (layer < LAYERS) {
                signs[layer * WIDTH + place] = sign;
                tops[place + 1] = layer;
                size++;
            }
        }

        private void takeTop(int place, int top) {
            signs[top * WIDTH + place] = 0;
            size--;
            int layer = top - 1;
            while (layer >= 0 && signs[layer * WIDTH + place] == 0) {
                layer--;
            }
            tops[place + 1] = layer;
        }

        int signAt(int layer, int place) {
            return layer < LAYERS ? signs[layer * WIDTH + place] : 0;
        }

        int countLayers() {
            int layers = 0;
            for (int place = 0; place < WIDTH; place++) {
                layers = Math.max(layers, tops[place + 1] + 1);
            }
            return layers;
        }

        int countSign(int sign) {
            int found = 0;
            for (int i = 0; i < LAYERS * WIDTH; i++) {
                if (signs[i] == sign) {
                    found++;
                }
            }
            return found;
        }

        boolean isAs(Heap other) {
            for (int i = 0; i < LAYERS * WIDTH; i++) {
                if (signs[i] != other.signs[i]) {
                    return false;
                }
            }
            return true;
        }
    }

    /** The bytes that are fed, and whether they are the text of something. */
    private static final class Tape {
        final int[] bytes = new int[MOST_BYTES];
        int size = 0;

        int prickingFault(int gaps) {
            int row = 0;
            int gap = 0;
            boolean beside = false;
            for (int i = 0; i < size; i++) {
                int b = bytes[i];
                if (gap == gaps) {
                    if (b != '/' || row == ROWS - 1) {
                        return i;
                    }
                    row++;
                    gap = 0;
                    beside = false;
                } else {
                    boolean holds = b >= 'a' && b <= 'f';
                    if (b != '.' && !holds || holds && beside) {
                        return i;
                    }
                    gap++;
                    beside = holds;
                }
            }
            return gap == gaps ? FAULTLESS : size;
        }

        int wordFault() {
            for (int i = 0; i < size; i++) {
                int b = bytes[i];
                if (i >= MOST_LETTERS || b != 'c' && b != 'C' && b != 't' && b != 'T') {
                    return i;
                }
            }
            return size == 0 ? 0 : FAULTLESS;
        }

        /** Only of a tape without a fault. */
        void prickInto(Plan plan) {
            Arrays.fill(plan.cells, EMPTY);
            int row = 0;
            int gap = 0;
            for (int i = 0; i < size; i++) {
                if (bytes[i] == '/') {
                    row++;
                    gap = 0;
                } else {
                    if (bytes[i] != '.' && row < ROWS && gap < MOST_GAPS) {
                        plan.cells[row * MOST_GAPS + gap] = bytes[i] - 'a';
                    }
                    gap++;
                }
            }
        }

        /** Only of a tape without a fault. */
        void spellInto(Plan plan, int kind) {
            for (int i = 0; i < size && i < MOST_LETTERS; i++) {
                plan.letters[kind * MOST_LETTERS + i] = bytes[i];
            }
            plan.lengths[kind] = Math.min(size, MOST_LETTERS);
        }
    }

    /** A row of numbers, or none. */
    private static final class Sheet {
        int sort = MISSING;
        int size = 0;
        final long[] numbers = new long[MOST_NUMBERS];

        void begin(int newSort, int newSize) {
            sort = newSort;
            size = newSize;
            Arrays.fill(numbers, 0L);
        }

        boolean has(int i) {
            return sort != MISSING && i >= 0 && i < size;
        }

        long cut(long v) {
            switch (sort) {
                case 0:
                    return v != 0L ? 1L : 0L;
                case 1:
                    return (short) v;
                case 2:
                    return (int) v;
                default:
                    return v;
            }
        }
    }
}
