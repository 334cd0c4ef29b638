/** For each promise of the document ordinary inputs, its edges and wrong inputs, reckoned by hand. */
public final class PromisesTest {
    private static final int BEYOND = -1000000001, NONE = -1000000002, STATE = -1000000003,
            FULL = -1000000004, LACK = -1000000006, LOST = -1000000007;
    private static final long BEYOND_L = -9000000000000000001L, STATE_L = -9000000000000000003L,
            FULL_L = -9000000000000000004L, LOST_L = -9000000000000000007L;
    private static final int MIN = Integer.MIN_VALUE, MAX = Integer.MAX_VALUE;

    private static int wrong = 0;

    private static void due(String call, long got, long want) {
        if (got != want) {
            wrong++;
            System.out.println(call + " answered " + got + ", due is " + want);
        }
    }

    private static void feed(LacePillow x, String text) {
        for (char b : text.toCharArray()) x.feed(b);
    }

    private static LacePillow pricked(int pairs, String text) {
        LacePillow x = new LacePillow();
        if (pairs != 4) x.pairs(pairs);
        feed(x, text);
        if (x.read() < 0) throw new IllegalArgumentException(text);
        return x;
    }

    private static LacePillow spelled(int kind, String word) {
        LacePillow x = new LacePillow();
        feed(x, word);
        if (x.spell(kind) < 0) throw new IllegalArgumentException(word);
        return x;
    }

    private static void tell(LacePillow x, int sheet, int sort, long... numbers) {
        x.sheet(sheet, sort, numbers.length);
        for (int i = 0; i < numbers.length; i++) x.put(sheet, i, numbers[i]);
    }

    private static void newObject() {
        LacePillow x = new LacePillow();
        due("1 pairs", x.count(0), 4);
        due("1 tape", x.count(1), 0);
        due("1 left", x.count(2), 1600);
        due("1 wound", x.count(3), 1600);
        due("1 crossings", x.count(4), 0);
        due("1 at home", x.count(5), 8);
        for (int row = 0; row < 12; row++) for (int gap = 0; gap < 3; gap++) due("1 look", x.look(row, gap), -1);
        String[] words = {"ctc", "ct", "ctct", "t", "tct", "cc"};
        for (int k = 0; k < 6; k++) {
            due("1 word", x.word(k, 0), words[k].length());
            for (int i = 0; i < words[k].length(); i++) due("1 letter", x.letter(k, i), words[k].charAt(i));
        }
        for (int s = 0; s < 4; s++) due("1 number", x.number(s, 0), LOST_L);
        for (int k = 1; k <= 6; k++) due("1 told " + k, x.told(k), 0);
        due("1 told 7", x.told(7), 4);
        due("1 worked", x.stitches(5), 0);
        due("1 restore", x.restore(), NONE);
    }

    private static void pairs() {
        LacePillow x = pricked(4, "a.b");
        x.work(0);
        x.wind(7, 50);
        feed(x, "zz");
        due("2 too few", x.pairs(1), BEYOND);
        due("2 too many", x.pairs(9), BEYOND);
        due("2 far", x.pairs(MIN), BEYOND);
        due("2 nothing changed", x.stitches(5), 1);
        due("2 so already", x.pairs(4), 4);
        due("2 begun anew", x.stitches(5), 0);
        due("2 holds nothing", x.stitches(0), 0);
        due("2 down", x.pairs(2), 4);
        due("2 gap gone", x.look(0, 1), BEYOND);
        due("2 gap there", x.look(0, 0), -1);
        due("2 places", x.at(4), BEYOND);
        due("2 tape stays", x.count(1), 2);
        due("2 wound of those there", x.count(3), 800);
        due("2 up", x.pairs(8), 2);
        due("2 wound stays", x.thread(7, 0), 50);
        due("2 wound at first", x.thread(15, 0), 200);
        due("2 last gap", x.lay(11, 6, 5), -1);
    }

    private static void lay() {
        LacePillow x = new LacePillow();
        due("3 row low", x.lay(-1, 0, 0), BEYOND);
        due("3 row high", x.lay(12, 0, 0), BEYOND);
        due("3 gap low", x.lay(0, -1, 0), BEYOND);
        due("3 gap high", x.lay(0, 3, 0), BEYOND);
        due("3 kind low", x.lay(0, 0, -2), BEYOND);
        due("3 kind high", x.lay(0, 0, 6), BEYOND);
        due("3 far", x.lay(MAX, MIN, MAX), BEYOND);
        due("3 first", x.lay(0, 1, 5), -1);
        due("3 right of it", x.lay(0, 2, 0), STATE);
        due("3 left of it", x.lay(0, 0, 0), STATE);
        due("3 none beside it", x.lay(0, 0, -1), -1);
        due("3 beside it, beyond first", x.lay(0, 0, 6), BEYOND);
        due("3 other row", x.lay(1, 2, 4), -1);
        due("3 work", x.work(0), 2);
        due("3 refused", x.lay(1, 1, 0), STATE);
        due("3 work stays", x.stitches(5), 1);
        due("3 so already", x.lay(1, 2, 4), 4);
        due("3 begun anew", x.stitches(5), 0);
        due("3 another", x.lay(0, 1, 2), 5);
        due("3 taken", x.lay(0, 1, -1), 2);
        due("3 free now", x.lay(0, 0, 0), -1);
        due("3 held", x.look(0, 0), 0);
    }

    private static void look() {
        LacePillow x = pricked(3, ".f/a.");
        due("4 f", x.look(0, 1), 5);
        due("4 none", x.look(0, 0), -1);
        due("4 a", x.look(1, 0), 0);
        due("4 last row", x.look(11, 1), -1);
        due("4 row low", x.look(-1, 0), BEYOND);
        due("4 row high", x.look(12, 0), BEYOND);
        due("4 gap low", x.look(0, -1), BEYOND);
        due("4 gap high", x.look(0, 2), BEYOND);
        due("4 far", x.look(MIN, MAX), BEYOND);
    }

    private static void feedBytes() {
        LacePillow x = new LacePillow();
        due("5 low", x.feed(-1), BEYOND);
        due("5 high", x.feed(256), BEYOND);
        due("5 least", x.feed(0), 1);
        due("5 greatest", x.feed(255), 2);
        for (int i = 3; i <= 120; i++) due("5 feed", x.feed(46), i);
        due("5 full", x.feed(46), FULL);
        due("5 beyond first", x.feed(256), BEYOND);
        due("5 tape", x.count(1), 120);
        due("5 emptied", x.read(), -10);
        due("5 again", x.feed(1), 1);
    }

    private static void readAs(int pairs, String text, int want) {
        LacePillow x = new LacePillow();
        x.pairs(pairs);
        x.lay(11, 0, 3);
        x.work(0);
        feed(x, text);
        due("6 read " + pairs + " " + text, x.read(), want);
        due("6 tape is empty", x.count(1), 0);
        due("6 what was held", x.look(11, 0), want < 0 || text.length() > 20 * pairs ? 3 : -1);
        due("6 work", x.stitches(5), want < 0 ? 1 : 0);
        due("6 no error", x.told(1), 0);
    }

    private static void read() {
        readAs(4, "", -10);
        readAs(4, "a.", -12);
        readAs(4, "a.b", 2);
        readAs(4, "...", 0);
        readAs(4, ".f./a.a/.../b..", 4);
        readAs(4, "a.b/", -14);
        readAs(4, "a.b.", -13);
        readAs(4, "a.ba", -13);
        readAs(4, "ab.", -11);
        readAs(4, "a.a/.cc", -16);
        readAs(4, "..a/a..", 2);
        readAs(4, "g..", -10);
        readAs(4, "`..", -10);
        readAs(4, "A..", -10);
        readAs(4, "../", -12);
        readAs(4, "/", -10);
        readAs(2, "a", 1);
        readAs(2, "a/a/a/a/a/a/a/a/a/a/a/.", 11);
        readAs(2, "a/a/a/a/a/a/a/a/a/a/a/./", -33);
        readAs(2, "a/a/a/a/a/a/a/a/a/a/a/./a", -33);
        readAs(8, "a.b.c.d/.e.f.a./", -26);
        LacePillow x = new LacePillow();
        x.feed(97);
        x.feed(0);
        due("6 byte 0", x.read(), -11);
        x = pricked(4, "a../.b./..c");
        due("6 rows", x.look(0, 0) * 100 + x.look(1, 1) * 10 + x.look(2, 2), 12);
        feed(x, "...");
        due("6 holds just that", x.read(), 0);
        due("6 nothing left", x.look(1, 1), -1);
    }

    private static void spell() {
        LacePillow x = pricked(4, "a..");
        x.work(0);
        due("7 none fed", x.spell(0), -10);
        feed(x, "ctx");
        due("7 kind low", x.spell(-1), BEYOND);
        due("7 kind high", x.spell(6), BEYOND);
        due("7 tape stays", x.count(1), 3);
        due("7 fault", x.spell(0), -12);
        due("7 tape is empty", x.count(1), 0);
        due("7 work stays", x.stitches(5), 1);
        due("7 word stays", x.word(0, 0), 3);
        feed(x, "cCtTcCtTc");
        due("7 too long", x.spell(0), -18);
        feed(x, "cCtTcCtT");
        due("7 longest", x.spell(5), 8);
        due("7 begun anew", x.stitches(5), 0);
        due("7 last letter", x.letter(5, 7), 'T');
        feed(x, "t");
        due("7 shortest", x.spell(5), 1);
        due("7 letter", x.letter(5, 0), 't');
        due("7 shorter now", x.letter(5, 1), BEYOND);
        x.work(0);
        feed(x, "ctc");
        due("7 so already", x.spell(0), 3);
        due("7 begun anew, too", x.stitches(5), 0);
    }

    private static void word() {
        int[][] dues = {
            {3, 4, 4, 2, 2, 3, 0, 1},
            {2, 3, 3, 4, 1, 3, 0, 2},
            {4, 6, 6, 2, 3, 2, 1, 0},
            {1, 2, 2, 2, 1, 0, 3, 2},
            {3, 5, 5, 2, 3, 1, 2, 0},
            {2, 2, 2, 1, 0, 1, 2, 3}};
        LacePillow x = new LacePillow();
        for (int k = 0; k < 6; k++)
            for (int what = 0; what < 8; what++) due("8 word " + k + " " + what, x.word(k, what), dues[k][what]);
        due("8 kind low", x.word(-1, 0), BEYOND);
        due("8 kind high", x.word(6, 0), BEYOND);
        due("8 what low", x.word(0, -1), BEYOND);
        due("8 what high", x.word(0, 8), BEYOND);
        due("8 cC", spelled(1, "cC").word(1, 2), 0);
        due("8 cTCt keeps all", spelled(1, "cTCt").word(1, 2), 6);
        due("8 cTtC", spelled(1, "cTtC").word(1, 2), 0);
        due("8 ccC", spelled(1, "ccC").word(1, 2), 1);
        due("8 tTt", spelled(1, "tTt").word(1, 2), 2);
        due("8 tc", spelled(1, "tc").word(1, 3), 4);
        x = pricked(4, "a..");
        due("8 in between", x.thread(0, 5) * 100 + x.word(5, 1) * 10 + x.thread(0, 5), 121);
    }

    private static void letter() {
        LacePillow x = new LacePillow();
        due("9 c", x.letter(0, 0), 99);
        due("9 t", x.letter(0, 1), 116);
        due("9 i high", x.letter(0, 3), BEYOND);
        due("9 i low", x.letter(0, -1), BEYOND);
        due("9 kind low", x.letter(-1, 0), BEYOND);
        due("9 kind high", x.letter(6, 0), BEYOND);
        due("9 far", x.letter(0, MAX), BEYOND);
        due("9 C", spelled(3, "C").letter(3, 0), 67);
        due("9 T", spelled(3, "cT").letter(3, 1), 84);
    }

    private static void stitches() {
        LacePillow x = new LacePillow();
        for (int what = 0; what < 6; what++) due("10 none " + what, x.stitches(what), 0);
        due("10 none free", x.stitches(6), NONE);
        due("10 what low", x.stitches(-1), BEYOND);
        due("10 what high", x.stitches(7), BEYOND);
        x = pricked(8, "a.a.a.a/......./.a.....");
        due("10 how many", x.stitches(0), 5);
        due("10 deep", x.stitches(1), 3);
        due("10 chain", x.stitches(2), 2);
        due("10 wide", x.stitches(3), 4);
        due("10 free", x.stitches(4), 4);
        due("10 least free", x.stitches(6), 0);
        x.work(0);
        due("10 free less", x.stitches(4), 3);
        due("10 worked", x.stitches(5), 1);
        due("10 next", x.stitches(6), 1);
        x.work(1);
        due("10 set free", x.stitches(4), 3);
        due("10 wide by rows apart", pricked(8, "a....../..a..../....a../......a").stitches(3), 4);
        due("10 a chain through the midst", pricked(5, "a.../.a../..a./...a").stitches(3), 1);
        due("10 its length", pricked(5, "a.../.a../..a./...a").stitches(2), 4);
        due("10 12 rows", pricked(2, "a/a/a/a/a/a/a/a/a/a/a/a").stitches(2), 12);
    }

    private static void stitch() {
        LacePillow x = pricked(4, ".f./.../a.b/.c.");
        int[][] dues = {
            {0, 1, 5, 0, 0, 3, 0, 1},
            {2, 0, 0, 1, 1, 1, 0, 0},
            {2, 2, 1, 1, 1, 1, 0, 0},
            {3, 1, 2, 2, 3, 0, 0, 0}};
        for (int s = 0; s < 4; s++)
            for (int what = 0; what < 8; what++) due("11 stitch " + s + " " + what, x.stitch(s, what), dues[s][what]);
        x.work(0);
        due("11 worked", x.stitch(0, 6), 1);
        due("11 not free any more", x.stitch(0, 7), 0);
        due("11 free then", x.stitch(2, 7), 1);
        due("11 waits for both", x.stitch(3, 7), 0);
        due("11 s low", x.stitch(-1, 0), BEYOND);
        due("11 s high", x.stitch(4, 0), BEYOND);
        due("11 what low", x.stitch(0, -1), BEYOND);
        due("11 what high", x.stitch(0, 8), BEYOND);
        due("11 none", new LacePillow().stitch(0, 0), BEYOND);
    }

    private static void ahead() {
        LacePillow x = pricked(8, "a....../.a...../..a..../a......");
        due("12 next", x.ahead(0, 1), 1);
        due("12 through", x.ahead(0, 2), 1);
        due("12 other way", x.ahead(2, 0), 0);
        due("12 itself", x.ahead(1, 1), 0);
        due("12 same gap", x.ahead(0, 3), 1);
        due("12 two gaps off", x.ahead(2, 3), 0);
        due("12 a low", x.ahead(-1, 0), BEYOND);
        due("12 a high", x.ahead(4, 0), BEYOND);
        due("12 b low", x.ahead(0, -1), BEYOND);
        due("12 b high", x.ahead(0, 4), BEYOND);
        due("12 two gaps off, alone", pricked(4, "a../..a").ahead(0, 1), 0);
    }

    private static final String TWENTY = "a.a.a.a/a.a.a.a/a.a.a.a/a.a.a.a/a.a.a.a";

    private static void orders() {
        due("13 none", new LacePillow().orders(), 1);
        due("13 one", pricked(4, "a..").orders(), 1);
        due("13 two", pricked(4, "a.a").orders(), 2);
        due("13 chain", pricked(2, "a/b/c").orders(), 1);
        due("13 two chains", pricked(4, "a.a/a.a").orders(), 6);
        LacePillow x = pricked(8, TWENTY);
        due("13 twenty", x.orders(), 11732745024L);
        x.lay(5, 0, 0);
        due("13 more", x.orders(), FULL_L);
        x.lay(0, 0, -1);
        due("13 another", x.orders(), 11732745024L);
        x.lay(5, 0, -1);
        due("13 nineteen", x.orders(), 2933186256L);
    }

    private static void order() {
        LacePillow x = pricked(4, "a.a/a.a");
        int[][] rows = {{0, 1, 2, 3}, {0, 1, 3, 2}, {0, 2, 1, 3}, {1, 0, 2, 3}, {1, 0, 3, 2}, {1, 3, 0, 2}};
        for (int r = 0; r < 6; r++)
            for (int i = 0; i < 4; i++) due("14 order " + r + " " + i, x.order(r, i), rows[r][i]);
        due("14 r high", x.order(6, 0), NONE);
        due("14 r low", x.order(-1, 0), NONE);
        due("14 r far", x.order(Long.MAX_VALUE, 3), NONE);
        due("14 r low, by far", x.order(Long.MIN_VALUE, 3), NONE);
        due("14 r beyond 32 bits", x.order(1L << 32, 0), NONE);
        due("14 i low", x.order(0, -1), BEYOND);
        due("14 i high", x.order(0, 4), BEYOND);
        due("14 i first", x.order(6, 4), BEYOND);
        x.work(1);
        due("14 of all, whatever has been worked", x.order(0, 0), 0);
        x = pricked(8, TWENTY);
        int[] last = {3, 7, 11, 15, 19, 2, 6, 10, 14, 18, 1, 5, 9, 13, 17, 0, 4, 8, 12, 16};
        for (int i = 0; i < 20; i++) {
            due("14 first " + i, x.order(0, i), i);
            due("14 last " + i, x.order(11732745023L, i), last[i]);
        }
        due("14 none", x.order(11732745024L, 0), NONE);
        x.lay(5, 0, 0);
        due("14 full", x.order(0, 20), FULL);
        due("14 full, beyond first", x.order(0, 21), BEYOND);
    }

    private static void rank() {
        LacePillow x = pricked(4, "a.a/a.a");
        due("15 sheet low", x.rank(-1), BEYOND_L);
        due("15 sheet high", x.rank(4), BEYOND_L);
        due("15 missing", x.rank(0), LOST_L);
        long[][] rows = {{0, 1, 2, 3}, {0, 1, 3, 2}, {0, 2, 1, 3}, {1, 0, 2, 3}, {1, 0, 3, 2}, {1, 3, 0, 2}};
        for (int r = 0; r < 6; r++) {
            tell(x, 1, 1 + r % 3, rows[r]);
            due("15 rank " + r, x.rank(1), r);
        }
        long[][] faults = {{0, 2, 1, 1}, {2, 0, 1, 3}, {0, 1, 2}, {0, 1, 2, 3, 3}, {0, 1, 2, -1}, {0, 1, 2, 4},
            {0, 1, 2, 3 + (1L << 32)}, {}, {0, 1, 2, Long.MIN_VALUE}, {0, 1, 2, 67}};
        for (long[] row : faults) {
            tell(x, 1, 3, row);
            due("15 tells none", x.rank(1), STATE_L);
        }
        due("15 told 3", x.told(3), faults.length);
        due("15 told 7", x.told(7), 1);
        x = pricked(8, TWENTY);
        tell(x, 3, 2, 3, 7, 11, 15, 19, 2, 6, 10, 14, 18, 1, 5, 9, 13, 17, 0, 4, 8, 12, 16);
        due("15 last", x.rank(3), 11732745023L);
        x.lay(5, 0, 0);
        due("15 full", x.rank(3), FULL_L);
        due("15 full ahead of lost", x.rank(0), FULL_L);
        due("15 beyond ahead of full", x.rank(4), BEYOND_L);
        x = pricked(4, "a.a");
        tell(x, 0, 0, 0, 9);
        due("15 truths", x.rank(0), 0);
        tell(x, 0, 0, 9, 0);
        due("15 truths, the other", x.rank(0), 1);
    }

    private static void work() {
        LacePillow x = pricked(4, "a.f/.b.");
        due("16 s low", x.work(-1), BEYOND);
        due("16 s high", x.work(3), BEYOND);
        due("16 not free", x.work(2), STATE);
        due("16 cc", x.work(1), 2);
        due("16 again", x.work(1), STATE);
        x.wind(0, 3);
        due("16 lacks 1", x.work(0), LACK);
        due("16 nothing changed", x.at(1), 1);
        due("16 nothing used", x.thread(0, 1), 3);
        due("16 not worked", x.stitch(0, 6), 0);
        due("16 only one", x.stitches(5), 1);
        x.wind(0, 4);
        due("16 just enough", x.work(0), 4);
        due("16 nothing left", x.thread(0, 1), 0);
        x.wind(0, 5);
        due("16 free then", x.stitch(2, 7), 1);
        due("16 0 would have used 6", x.work(2), LACK);
        x.wind(0, 6);
        x.wind(4, 4);
        due("16 4 would have used 5", x.work(2), LACK);
        due("16 told 6", x.told(6), 3);
        x.wind(4, 5);
        due("16 ct", x.work(2), 3);
        due("16 all used", x.thread(0, 1) + x.thread(4, 1), 0);
        due("16 none", new LacePillow().work(0), BEYOND);
    }

    private static void works() {
        LacePillow x = pricked(4, "a.f/.b.");
        due("17 sheet low", x.works(-1), BEYOND);
        due("17 sheet high", x.works(4), BEYOND);
        due("17 missing", x.works(2), LOST);
        tell(x, 2, 3, 1, 0, 0, 2);
        due("17 up to one refused", x.works(2), 2);
        due("17 no error", x.told(3), 0);
        due("17 row", x.worked(0) * 10 + x.worked(1), 10);
        tell(x, 2, 3, 2, 77);
        due("17 goes on", x.works(2), 1);
        due("17 no error of what is beyond", x.told(1), 2);
        due("17 nothing more", x.works(2), 0);
        x.pairs(4);
        x.lay(0, 0, 0);
        tell(x, 2, 3, 1L << 32);
        due("17 beyond 32 bits", x.works(2), 0);
        tell(x, 2, 0);
        due("17 none told", x.works(2), 0);
        x.wind(3, 3);
        tell(x, 2, 1, 0);
        due("17 lack", x.works(2), 0);
        due("17 no lack told", x.told(6), 0);
        due("17 nothing used", x.count(2), 1403);
    }

    private static void back() {
        LacePillow x = pricked(4, "a.f/.b.");
        due("18 none", x.back(), NONE);
        x.work(1);
        x.work(0);
        due("18 latest", x.back(), 0);
        due("18 free again", x.stitch(0, 7), 1);
        due("18 threads are back", x.at(0) * 10 + x.at(2), 2);
        due("18 left", x.count(2), 1600 - 4 - 6);
        due("18 crossings", x.count(4), 2);
        due("18 lace", x.lace(0, 1), 2);
        due("18 first", x.back(), 1);
        due("18 none left", x.back(), NONE);
        due("18 again", x.work(0), 4);
        due("18 the new one", x.worked(0), 0);
    }

    private static void worked() {
        LacePillow x = pricked(4, "a.f/.b.");
        due("19 none", x.worked(0), BEYOND);
        x.work(1);
        x.work(0);
        due("19 first", x.worked(0), 1);
        due("19 second", x.worked(1), 0);
        due("19 high", x.worked(2), BEYOND);
        due("19 low", x.worked(-1), BEYOND);
        x.back();
        due("19 taken back", x.worked(1), BEYOND);
    }

    private static void at() {
        LacePillow x = pricked(4, "a.b");
        for (int p = 0; p < 8; p++) due("20 own", x.at(p), p);
        x.work(0);
        x.work(1);
        int[] dues = {2, 3, 0, 1, 6, 4, 7, 5};
        for (int p = 0; p < 8; p++) due("20 at " + p, x.at(p), dues[p]);
        due("20 low", x.at(-1), BEYOND);
        due("20 high", x.at(8), BEYOND);
        x = pricked(8, "a...a.b");
        x.work(0);
        x.work(2);
        int[] whole = {2, 3, 0, 1, 4, 5, 6, 7, 8, 9, 10, 11, 14, 12, 15, 13};
        for (int p = 0; p < 16; p++) due("20 whole " + p, x.at(p), whole[p]);
        due("20 beyond", x.at(16), BEYOND);
    }

    private static void wind() {
        LacePillow x = pricked(4, "a..");
        due("21 first", x.wind(0, 9999), 200);
        due("21 next", x.wind(0, 0), 9999);
        due("21 high", x.wind(0, 10000), BEYOND);
        due("21 low", x.wind(0, -1), BEYOND);
        due("21 thread low", x.wind(-1, 5), BEYOND);
        due("21 thread high", x.wind(8, 5), BEYOND);
        due("21 stays", x.wind(0, 200), 0);
        x.work(0);
        due("21 used 4", x.wind(0, 3), STATE);
        due("21 used 4, beyond first", x.wind(0, -1), BEYOND);
        due("21 just that", x.wind(0, 4), 200);
        due("21 work stays", x.stitches(5), 1);
        due("21 left", x.thread(0, 1), 0);
        due("21 unused", x.wind(7, 0), 200);
    }

    private static void thread() {
        LacePillow x = pricked(4, "a.f");
        int[][] dues = {
            {200, 200, 0, 2, 4, 1, 1, -1}, {200, 200, 1, 2, 4, 1, 1, -1},
            {200, 200, 2, 2, 4, 1, 1, -1}, {200, 200, 3, 2, 4, 1, 1, -1},
            {200, 200, 4, 1, 1, 0, 0, -1}, {200, 200, 5, 1, 4, 1, 1, -1},
            {200, 200, 6, 1, 4, 1, 1, -1}, {200, 200, 7, 1, 1, 0, 0, -1}};
        for (int t = 0; t < 8; t++)
            for (int what = 0; what < 8; what++) due("22 thread " + t + " " + what, x.thread(t, what), dues[t][what]);
        x.work(0);
        due("22 left", x.thread(0, 1), 196);
        due("22 place", x.thread(0, 2), 2);
        due("22 of all as ever", x.thread(0, 4), 4);
        x.wind(0, 0);
        x.wind(1, 4);
        due("22 left of 4", x.thread(1, 1), 0);
        due("22 thread low", x.thread(-1, 0), BEYOND);
        due("22 thread high", x.thread(8, 0), BEYOND);
        due("22 what low", x.thread(0, -1), BEYOND);
        due("22 what high", x.thread(0, 8), BEYOND);
        x = spelled(0, "cC");
        x.lay(0, 0, 0);
        due("22 over twice", x.thread(1, 7), 1);
        due("22 under twice", x.thread(2, 7), 1);
        due("22 overs", x.thread(1, 5), 2);
        due("22 unders", x.thread(1, 6), 0);
        due("22 needs of over", x.thread(1, 4), 5);
        due("22 needs of under", x.thread(2, 4), 3);
        x.lay(1, 0, 5);
        due("22 the first false one stays", x.thread(1, 7), 1);
        due("22 under, under, under, over", x.thread(2, 6) * 10 + x.thread(2, 5), 31);
        feed(x, "ccC");
        x.spell(0);
        x.lay(1, 0, -1);
        due("22 over, under, under", x.thread(1, 7), 2);
        due("22 ROUNDS of 4", pricked(4, "b..").thread(3, 3), 4);
    }

    private static void place() {
        LacePillow x = pricked(4, "a../.a.");
        int[][] dues = {{0, 2, 4}, {1, 3, 5}, {2, 0, 0}, {3, 1, 1}, {4, 4, 2}, {5, 5, 3}, {6, 6, 6}, {7, 7, 7}};
        for (int t = 0; t < 8; t++) for (int s = 0; s < 3; s++) due("23 place " + t + " " + s, x.place(t, s), dues[t][s]);
        for (int s = 2; s >= 0; s--) due("23 backwards", x.place(0, s), 2 * s);
        due("23 thread low", x.place(-1, 0), BEYOND);
        due("23 thread high", x.place(8, 0), BEYOND);
        due("23 s low", x.place(0, -1), BEYOND);
        due("23 s high", x.place(0, 3), BEYOND);
        due("23 not of the work", x.at(0), 0);
        x.lay(0, 0, 3);
        due("23 another pricking", x.place(0, 1), 1);
    }

    private static void rounds() {
        due("24 none", new LacePillow().rounds(), 1);
        due("24 ctc", pricked(4, "a..").rounds(), 2);
        due("24 ct", pricked(4, "b..").rounds(), 4);
        due("24 cc", pricked(4, "f..").rounds(), 1);
        due("24 3 pairs in a ring", pricked(3, "a./.a").rounds(), 3);
        due("24 3, 4 together", pricked(6, "a..b./.a...").rounds(), 12);
    }

    private static void link() {
        LacePillow x = pricked(4, "a..");
        due("25 over", x.link(1, 2), 1);
        due("25 under", x.link(2, 1), -1);
        due("25 right over left", x.link(2, 0), 1);
        due("25 3 over 1", x.link(3, 1), 1);
        due("25 0 over 3", x.link(0, 3), 1);
        due("25 never", x.link(0, 1), 0);
        due("25 one low", x.link(-1, 0), BEYOND);
        due("25 one high", x.link(8, 0), BEYOND);
        due("25 other low", x.link(0, -1), BEYOND);
        due("25 other high", x.link(0, 8), BEYOND);
        due("25 the same", x.link(3, 3), BEYOND);
        x = spelled(5, "cC");
        x.lay(0, 0, 5);
        due("25 twice", x.link(1, 2), 2);
        x.lay(0, 0, 0);
        x.lay(0, 2, 5);
        due("25 as wide as the pairs", x.link(5, 6), 2);
        due("25 cc is none", pricked(4, "f..").link(1, 2), 0);
        LacePillow t = spelled(3, "T");
        t.lay(0, 0, 3);
        due("25 T left over", t.link(0, 1), 1);
        due("25 T at the third", t.link(2, 3), 1);
    }

    private static void meet() {
        LacePillow x = pricked(4, "a.d/.a./d..");
        due("26 first", x.meet(1, 2), 0);
        due("26 either way", x.meet(2, 1), 0);
        due("26 second", x.meet(6, 7), 1);
        due("26 third", x.meet(0, 5), 2);
        due("26 in the last one", x.meet(2, 3), 3);
        due("26 they don't", x.meet(0, 1), NONE);
        due("26 one low", x.meet(-1, 0), BEYOND);
        due("26 one high", x.meet(8, 0), BEYOND);
        due("26 other low", x.meet(0, -1), BEYOND);
        due("26 other high", x.meet(0, 8), BEYOND);
        due("26 the same", x.meet(0, 0), BEYOND);
        x.work(1);
        due("26 of all, whatever has been worked", x.meet(1, 2), 0);
    }

    private static void lacks() {
        LacePillow x = pricked(4, "a../f..");
        due("27 enough", x.lacks(0), NONE);
        due("27 enough, too", x.lacks(1), NONE);
        due("27 low", x.lacks(-1), BEYOND);
        due("27 high", x.lacks(2), BEYOND);
        x.wind(1, 4);
        due("27 in the second", x.lacks(0), 1);
        due("27 its thread", x.lacks(1), 1);
        x.wind(3, 3);
        due("27 in the first", x.lacks(0), 0);
        due("27 of that one", x.lacks(1), 3);
        x.wind(2, 0);
        due("27 the least", x.lacks(1), 2);
        x.wind(1, 5);
        x.wind(2, 5);
        x.wind(3, 8);
        due("27 just enough", x.lacks(0), NONE);
        x.wind(0, 4);
        x.wind(3, 4);
        due("27 the least in the second", x.lacks(0) * 10 + x.lacks(1), 10);
        x.wind(7, 0);
        due("27 unused", x.lacks(1), 0);
    }

    private static void lace() {
        LacePillow x = pricked(4, "a.b");
        due("28 all", x.lace(1, 0), 7);
        due("28 reduced", x.lace(1, 1), 7);
        due("28 layers", x.lace(1, 2), 3);
        due("28 sign 1", x.lace(1, 3), 3);
        for (int what = 0; what < 4; what++) due("28 work " + what, x.lace(0, what), 0);
        x.work(1);
        due("28 worked", x.lace(0, 0), 3);
        due("28 its layers", x.lace(0, 2), 2);
        due("28 its sign 1", x.lace(0, 3), 1);
        due("28 which low", x.lace(-1, 0), BEYOND);
        due("28 which high", x.lace(2, 0), BEYOND);
        due("28 what low", x.lace(0, -1), BEYOND);
        due("28 what high", x.lace(0, 4), BEYOND);
        x = spelled(1, "CTC");
        x.lay(0, 0, 0);
        x.lay(1, 0, 1);
        due("28 undone", x.lace(1, 0) * 10 + x.lace(1, 1), 80);
        due("28 no layers", x.lace(1, 2), 0);
        feed(x, "ccccccct");
        x.spell(0);
        for (int row = 0; row < 12; row++) x.lay(row, 0, 0);
        due("28 most layers", x.lace(1, 2), 96);
        due("28 the last layer", x.layer(1, 95, 0), 2);
        feed(x, "C");
        x.spell(1);
        feed(x, "ct");
        x.spell(0);
        x.lay(11, 0, -1);
        x.lay(11, 1, 1);
        due("28 C beside", x.lace(1, 1), 34);
        due("28 C on the ground", x.lace(1, 2), 23);
        x = spelled(0, "T");
        x.pairs(8);
        x.lay(0, 0, 1);
        x.lay(1, 1, 0);
        due("28 uppermost at the first place alone", x.lace(1, 2), 2);
        x.pairs(8);
        x.lay(0, 6, 1);
        x.lay(1, 5, 0);
        due("28 uppermost at the last place alone", x.lace(1, 2), 2);
    }

    private static void layer() {
        LacePillow x = pricked(4, "a.b");
        int[][] dues = {{0, 1, 0, 0, 0, 1, 0}, {2, 0, 2, 0, 2, 0, 2}, {0, 1, 0, 0, 0, 0, 0}, {0, 0, 0, 0, 0, 0, 0}};
        for (int l = 0; l < 4; l++)
            for (int p = 0; p < 7; p++) due("29 layer " + l + " " + p, x.layer(1, l, p), dues[l][p]);
        due("29 work", x.layer(0, 0, 1), 0);
        x.work(1);
        due("29 worked", x.layer(0, 0, 5), 1);
        due("29 far up", x.layer(1, MAX, 0), 0);
        due("29 96", x.layer(1, 96, 0), 0);
        due("29 layer low", x.layer(1, -1, 0), BEYOND);
        due("29 which low", x.layer(-1, 0, 0), BEYOND);
        due("29 which high", x.layer(2, 0, 0), BEYOND);
        due("29 place low", x.layer(0, 0, -1), BEYOND);
        due("29 place high", x.layer(0, 0, 7), BEYOND);
        LacePillow y = spelled(1, "Ct");
        y.lay(0, 0, 5);
        y.lay(1, 0, 1);
        int[][] sunk = {{0, 1, 0}, {2, 0, 2}};
        for (int l = 0; l < 2; l++) for (int p = 0; p < 3; p++) due("29 sunk " + l + p, y.layer(1, l, p), sunk[l][p]);
        due("29 last place", pricked(8, "......d").layer(1, 0, 14), 2);
        due("29 beyond it", pricked(8, "......d").layer(1, 0, 15), BEYOND);
    }

    private static void repeat() {
        due("30 none", new LacePillow().repeat(), NONE);
        due("30 one row", pricked(4, "a..").repeat(), 1);
        due("30 like rows", pricked(4, "a.b/a.b/a.b").repeat(), 1);
        due("30 two", pricked(4, "a.b/.a./a.b").repeat(), 2);
        due("30 with an empty one", pricked(4, ".../a../.../a..").repeat(), 2);
        due("30 empty ahead", pricked(4, ".../.../.../a..").repeat(), 4);
        due("30 empty behind is not counted", pricked(4, "a../.../...").repeat(), 1);
        due("30 another kind", pricked(4, "a../b../a../c..").repeat(), 4);
        due("30 cut short", pricked(4, "a../b../c../a..").repeat(), 3);
    }

    private static void motif() {
        LacePillow x = pricked(4, "a.b/.c./a.b");
        due("31 sheet low", x.motif(-1, 1, 0), BEYOND);
        due("31 sheet high", x.motif(4, 1, 0), BEYOND);
        due("31 w low", x.motif(0, 0, 0), BEYOND);
        due("31 w high", x.motif(0, 8, 0), BEYOND);
        due("31 what low", x.motif(0, 1, -1), BEYOND);
        due("31 what high", x.motif(0, 1, 2), BEYOND);
        due("31 missing", x.motif(0, 1, 0), LOST);
        tell(x, 0, 2);
        due("31 no numbers", x.motif(0, 1, 0), STATE);
        tell(x, 0, 2, 0, -1);
        due("31 w doesn't divide", x.motif(0, 3, 0), STATE);
        due("31 a.", x.motif(0, 2, 0) * 100 + x.motif(0, 2, 1), 200);
        due("31 a over none", x.motif(0, 1, 0) * 100 + x.motif(0, 1, 1), 200);
        tell(x, 0, 1, -1, 1);
        due("31 .b", x.motif(0, 2, 0) * 100 + x.motif(0, 2, 1), 201);
        tell(x, 0, 3, 2);
        due("31 c", x.motif(0, 1, 1), 11);
        tell(x, 0, 3, 2 + (1L << 32));
        due("31 beyond 32 bits", x.motif(0, 1, 0), 0);
        tell(x, 0, 3, 5);
        due("31 not found", x.motif(0, 1, 1), NONE);
        tell(x, 0, 3, -2);
        due("31 any", x.motif(0, 1, 0), 36);
        tell(x, 0, 3, -1);
        due("31 none, in all rows", x.motif(0, 1, 0), 31);
        tell(x, 0, 3, -3);
        due("31 nothing", x.motif(0, 1, 0), 0);
        tell(x, 0, 3, 6);
        due("31 nothing, too", x.motif(0, 1, 0), 0);
        tell(x, 0, 3, new long[4]);
        due("31 wider than the gaps", x.motif(0, 4, 0), 0);
        long[] any = new long[36];
        java.util.Arrays.fill(any, -2);
        tell(x, 0, 2, any);
        due("31 as high as the rows", x.motif(0, 3, 0), 1);
        due("31 higher", x.motif(0, 2, 0), 0);
        due("31 higher by far", x.motif(0, 1, 1), NONE);
        tell(x, 0, 2, -2, -2, 0, -2, 1, -2);
        due("31 last row is there", x.motif(0, 2, 0), 0);
        tell(x, 0, 2, -1, 2, -1, 0, -1, 1);
        due("31 two rows", x.motif(0, 3, 1), 10);
    }

    private static void sheet() {
        LacePillow x = new LacePillow();
        due("32 sheet low", x.sheet(-1, 0, 0), BEYOND);
        due("32 sheet high", x.sheet(4, 0, 0), BEYOND);
        due("32 sort low", x.sheet(0, -2, 0), BEYOND);
        due("32 sort high", x.sheet(0, 4, -1), BEYOND);
        due("32 n low", x.sheet(0, 0, -1), STATE);
        due("32 n high", x.sheet(0, 0, 61), BEYOND);
        due("32 still missing", x.number(0, 0), LOST_L);
        due("32 most", x.sheet(0, 3, 60), 1);
        x.put(0, 59, 7);
        due("32 the last", x.number(0, 59), 7);
        due("32 refused", x.sheet(0, 3, 61), BEYOND);
        due("32 stays", x.number(0, 59), 7);
        due("32 anew", x.sheet(0, 3, 60), 1);
        due("32 all 0", x.number(0, 59), 0);
        due("32 none of them", x.sheet(0, 3, 0), 1);
        due("32 no such number", x.number(0, 0), LOST_L);
        due("32 missing again", x.sheet(0, -1, 99), 1);
        due("32 missing, n below 0", x.sheet(3, -1, MIN), 1);
        due("32 lost", x.works(0), LOST);
    }

    private static void put() {
        LacePillow x = new LacePillow();
        due("33 sheet low", x.put(-1, 0, 0), BEYOND);
        due("33 sheet high", x.put(4, 0, 0), BEYOND);
        due("33 missing", x.put(0, 0, 0), LOST);
        long[] values = {0, 1, -1, 65535, 32768, -32769, 1L << 32, (1L << 31), -9000000000000000001L};
        long[][] dues = {
            {0, 1, 1, 1, 1, 1, 1, 1, 1},
            {0, 1, -1, -1, -32768, 32767, 0, 0, (short) -9000000000000000001L},
            {0, 1, -1, 65535, 32768, -32769, 0, -2147483648L, (int) -9000000000000000001L},
            values};
        for (int sort = 0; sort < 4; sort++) {
            x.sheet(sort, sort, 9);
            for (int i = 0; i < 9; i++) {
                due("33 put", x.put(sort, i, values[i]), 1);
                due("33 sort " + sort + " of " + values[i], x.number(sort, i), dues[sort][i]);
            }
        }
        due("33 i low", x.put(0, -1, 5), LOST);
        due("33 i high", x.put(0, 9, 5), LOST);
    }

    private static void number() {
        LacePillow x = new LacePillow();
        due("34 sheet low", x.number(-1, 0), BEYOND_L);
        due("34 sheet high", x.number(4, 0), BEYOND_L);
        due("34 missing", x.number(1, 0), LOST_L);
        tell(x, 1, 3, BEYOND_L, 5);
        due("34 as an error is", x.number(1, 0), BEYOND_L);
        due("34 it is none", x.told(1), 2);
        due("34 next", x.number(1, 1), 5);
        due("34 i low", x.number(1, -1), LOST_L);
        due("34 i high", x.number(1, 2), LOST_L);
        due("34 told", x.told(7), 3);
    }

    private static void image() {
        LacePillow x = pricked(4, "a.f");
        due("35 none worked", x.image(), 0);
        x.work(1);
        due("35 one", x.image(), 1);
        x.back();
        due("35 the later one", x.restore(), 1);
        due("35 no pricking", new LacePillow().image(), 0);
    }

    private static void restore() {
        LacePillow x = pricked(5, "a.f.");
        due("36 none", x.restore(), NONE);
        x.wind(9, 44);
        x.work(1);
        x.work(0);
        x.image();
        feed(x, "TTT");
        tell(x, 0, 1, 8, 9);
        feed(x, "c");
        x.spell(2);
        feed(x, "T");
        x.spell(0);
        x.pairs(8);
        x.lay(0, 5, 5);
        x.wind(9, 1);
        x.wind(0, 0);
        x.work(0);
        feed(x, "zz");
        due("36 restored", x.restore(), 2);
        due("36 pairs", x.count(0), 5);
        due("36 pricking", x.look(0, 0) * 10 + x.look(0, 2), 5);
        due("36 words", x.word(0, 0) * 10 + x.word(2, 0), 34);
        due("36 wound", x.thread(9, 0) * 1000 + x.thread(0, 0), 44200);
        due("36 work", x.worked(0) * 10 + x.worked(1), 10);
        due("36 threads", x.at(0) * 10 + x.at(2), 20);
        due("36 left", x.thread(0, 1), 196);
        due("36 lace", x.lace(0, 0), 6);
        due("36 all", x.lace(1, 0), 6);
        due("36 orders", x.orders(), 2);
        due("36 tape is none of it", x.count(1), 2);
        due("36 sheets are none of it", x.number(0, 1), 9);
        due("36 back", x.back(), 0);
        due("36 it stays", x.restore(), 2);
        due("36 told is none of it", x.told(2), 1);
    }

    private static void alike() {
        LacePillow x = pricked(4, "a.a/.b.");
        due("37 none", x.alike(), NONE);
        x.work(0);
        x.work(1);
        x.image();
        due("37 itself", x.alike(), 1);
        x.back();
        due("37 less", x.alike(), 0);
        x.back();
        x.work(1);
        due("37 the other", x.alike(), 0);
        x.work(0);
        due("37 the other order", x.alike(), 1);
        x.work(2);
        due("37 more", x.alike(), 0);
        x.pairs(8);
        due("37 nothing is not it", x.alike(), 0);
        x.image();
        x.pairs(2);
        due("37 nothing is as nothing", x.alike(), 1);
        feed(x, "cC");
        x.spell(0);
        x.lay(3, 0, 0);
        x.work(0);
        due("37 undone is as nothing", x.alike(), 1);
        feed(x, "C");
        x.spell(0);
        x.work(0);
        x.image();
        feed(x, "c");
        x.spell(0);
        x.work(0);
        due("37 another sign", x.alike(), 0);
    }

    private static void count() {
        LacePillow x = pricked(3, "a.");
        feed(x, "xyz");
        x.wind(5, 0);
        x.work(0);
        due("38 pairs", x.count(0), 3);
        due("38 tape", x.count(1), 3);
        due("38 left", x.count(2), 1000 - 16);
        due("38 wound", x.count(3), 1000);
        due("38 crossings", x.count(4), 4);
        due("38 at home", x.count(5), 2);
        due("38 low", x.count(-1), BEYOND);
        due("38 high", x.count(6), BEYOND);
    }

    private static void told() {
        LacePillow x = new LacePillow();
        due("39 low", x.told(0), BEYOND);
        due("39 high", x.told(8), BEYOND);
        due("39 far", x.told(MIN), BEYOND);
        due("39 counted", x.told(1), 3);
        x.rank(4);
        due("39 of longs", x.told(1), 4);
        x.back();
        due("39 none", x.told(2), 1);
        x.sheet(0, 0, -1);
        due("39 state", x.told(3), 1);
        for (int i = 0; i < 121; i++) x.feed(0);
        due("39 full", x.told(4), 1);
        due("39 kind", x.told(5), 0);
        x.lay(0, 0, 0);
        x.wind(0, 0);
        x.work(0);
        due("39 lack", x.told(6), 1);
        x.number(0, 0);
        x.put(0, 0, 0);
        due("39 lost", x.told(7), 2);
        x.read();
        due("39 a fault is none", x.told(1) + x.told(2) + x.told(3), 6);
    }

    public static void main(String[] args) {
        newObject();
        pairs();
        lay();
        look();
        feedBytes();
        read();
        spell();
        word();
        letter();
        stitches();
        stitch();
        ahead();
        orders();
        order();
        rank();
        work();
        works();
        back();
        worked();
        at();
        wind();
        thread();
        place();
        rounds();
        link();
        meet();
        lacks();
        lace();
        layer();
        repeat();
        motif();
        sheet();
        put();
        number();
        image();
        restore();
        alike();
        count();
        told();
        System.out.println(wrong == 0 ? "PromisesTest: all answers are as due" : "PromisesTest: " + wrong + " answers are not as due");
        if (wrong != 0) System.exit(1);
    }
}
