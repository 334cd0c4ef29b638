import java.io.IOException;
import java.lang.reflect.InvocationTargetException;
import java.lang.reflect.Method;
import java.nio.file.Files;
import java.nio.file.Path;
import java.util.ArrayList;
import java.util.Arrays;
import java.util.HashMap;
import java.util.HashSet;
import java.util.List;
import java.util.Map;
import java.util.Set;

/**
 * Each sentence of the document that names a boundary case, with a run of calls of its own, reckoned
 * by hand (but for the prickings whose ROUNDS are 16 and 140: they were searched for with the class,
 * and reckoned again apart from it). A run has a call in each line, with the answer that is due behind '='; without one it must
 * not be refused. Besides calls there are: 'new' (another object), 'text t' (each byte of t is fed),
 * 'bytes n b' (b is fed n times), 'rows n t' (t is fed n times, with / between), 'tell sheet sort
 * numbers', 'fill sheet sort n v d' (n numbers v, v + d, ..).
 *
 * <p>Behind each refused call, and each call that only asks, all that can be asked must be as on an
 * object that has not had that call, but for what told() tells of the ERROR. All objects have at most
 * 512 calls.
 */
public final class BoundsTest {
    private static final int MOST_CALLS = 512;
    private static final List<String> ERRORS = List.of("", "BEYOND", "NONE", "STATE", "FULL", "KIND", "LACK", "LOST");
    private static final Set<String> ASKING = Set.of("look", "word", "letter", "stitches", "stitch", "ahead",
            "orders", "order", "rank", "worked", "at", "thread", "place", "rounds", "link", "meet", "lacks", "lace",
            "layer", "repeat", "motif", "number", "alike", "count", "told");
    private static final Map<String, Method> CALLS = new HashMap<>();

    private static String[] document;
    private static int wrong = 0;
    /** Of each call the answers that have been due: the names of ERRORS, or "". */
    private static final Set<String> seen = new HashSet<>();
    private static final Set<Integer> promises = new HashSet<>();

    // ---- objects and calls

    /** A call with its arguments. */
    private record Call(String name, long[] arguments) {
        String text() {
            StringBuilder text = new StringBuilder(name);
            for (long a : arguments) text.append(' ').append(a);
            return text.toString();
        }
    }

    /** An object with all calls that it has had. */
    private static final class Run {
        final LacePillow x = new LacePillow();
        final List<Call> calls = new ArrayList<>();

        long call(Call c) {
            calls.add(c);
            if (calls.size() > MOST_CALLS) throw new IllegalStateException("too many calls: " + c.text());
            Method m = CALLS.get(c.name);
            if (m == null || m.getParameterCount() != c.arguments.length) throw new IllegalStateException("no such call: " + c.text());
            Object[] given = new Object[c.arguments.length];
            for (int i = 0; i < given.length; i++) {
                boolean isLong = m.getParameterTypes()[i] == long.class;
                given[i] = isLong ? (Object) c.arguments[i] : (Object) Math.toIntExact(c.arguments[i]);
            }
            try {
                return ((Number) m.invoke(x, given)).longValue();
            } catch (InvocationTargetException | IllegalAccessException e) {
                throw new IllegalStateException(c.text() + " threw " + e.getCause(), e);
            }
        }

        long call(String name, long... arguments) {
            return call(new Call(name, arguments));
        }

        static Run of(List<Call> calls) {
            Run run = new Run();
            for (Call c : calls) run.call(c);
            return run;
        }
    }

    private static long error(String call, int k) {
        return (CALLS.get(call).getReturnType() == long.class ? -9000000000000000000L : -1000000000L) - k;
    }

    // ---- all that can be asked

    private static final int PARTS = 6;

    /** What told() tells of the ERRORS, then one part of all else that can be asked. */
    private static long[] ask(List<Call> calls, int part) {
        Run run = Run.of(calls);
        List<Long> answers = new ArrayList<>();
        for (int k = 1; k <= 7; k++) answers.add(run.call("told", k));
        switch (part) {
            case 0 -> askPlan(run, answers);
            case 1 -> askThreads(run, answers);
            case 2 -> askSheets(run, answers);
            case 3 -> askLace(run, answers);
            case 4 -> {
                answers.add(run.call("alike"));
                answers.add(run.call("restore"));
                askPlan(run, answers);
            }
            default -> askTape(run, answers);
        }
        long[] out = new long[answers.size()];
        for (int i = 0; i < out.length; i++) out[i] = answers.get(i);
        return out;
    }

    private static void askPlan(Run run, List<Long> answers) {
        int pairs = (int) run.call("count", 0);
        int worked = (int) run.call("stitches", 5);
        answers.add((long) pairs);
        answers.add((long) worked);
        for (int row = 0; row < 12; row++) for (int gap = 0; gap < pairs - 1; gap++) answers.add(run.call("look", row, gap));
        for (int i = 0; i < worked; i++) answers.add(run.call("worked", i));
        for (int t = 0; t < 2 * pairs; t++) answers.add(run.call("thread", t, 0));
        for (int kind = 0; kind < 6; kind++) {
            long letters = run.call("word", kind, 0);
            for (int i = 0; i < letters; i++) answers.add(run.call("letter", kind, i));
        }
    }

    private static void askThreads(Run run, List<Long> answers) {
        int threads = 2 * (int) run.call("count", 0);
        for (int t = 0; t < threads; t++) for (int what = 1; what < 8; what++) answers.add(run.call("thread", t, what));
        for (int p = 0; p < threads; p++) answers.add(run.call("at", p));
        for (int t = 1; t < threads; t++) answers.add(run.call("link", 0, t));
        for (int t = 1; t < threads; t++) answers.add(run.call("meet", t - 1, t));
    }

    private static void askSheets(Run run, List<Long> answers) {
        for (int sheet = 0; sheet < 4; sheet++) {
            for (int i = 0; i < 60; i++) {
                long v = run.call("number", sheet, i);
                answers.add(v);
                if (v == error("number", 7)) break;
            }
        }
    }

    private static void askLace(Run run, List<Long> answers) {
        for (int what = 0; what <= 6; what++) answers.add(run.call("stitches", what));
        for (int what = 0; what <= 5; what++) answers.add(run.call("count", what));
        answers.add(run.call("rounds"));
        answers.add(run.call("orders"));
        answers.add(run.call("order", 0, 1));
        answers.add(run.call("repeat"));
        for (int what = 0; what <= 1; what++) answers.add(run.call("lacks", what));
        long places = 2 * run.call("count", 0) - 1;
        for (int which = 0; which <= 1; which++) {
            for (int what = 0; what <= 3; what++) answers.add(run.call("lace", which, what));
            for (int layer = 0; layer < 4; layer++)
                for (int p = 0; p < places; p++) answers.add(run.call("layer", which, layer, p));
        }
    }

    /** The tape's bytes show in where its FAULT is, and in the pricking or the word that it is. */
    private static void askTape(Run run, List<Long> answers) {
        answers.add(run.call("count", 1));
        List<Call> calls = new ArrayList<>(run.calls);
        Run other = Run.of(calls);
        answers.add(run.call("read"));
        for (int row = 0; row < 12; row++) answers.add(run.call("look", row, 0));
        answers.add(other.call("spell", 0));
        for (int i = 0; i < 8; i++) answers.add(other.call("letter", 0, i));
    }

    /** The call at the end of the row must leave all as it is, but that ERROR k (if any) is told once more. */
    private static void leavesAll(String where, List<Call> calls, int k) {
        List<Call> without = calls.subList(0, calls.size() - 1);
        for (int part = 0; part < PARTS; part++) {
            long[] want = ask(without, part);
            if (k > 0) want[k - 1]++;
            if (!Arrays.equals(ask(calls, part), want)) fault(where + " changed something (part " + part + ")");
        }
    }

    /** A text with a FAULT empties the tape; nothing else may change. */
    private static void leavesAllButTape(String where, List<Call> calls) {
        List<Call> without = calls.subList(0, calls.size() - 1);
        for (int part = 0; part < PARTS - 1; part++) {
            if (part == 3) continue;
            if (!Arrays.equals(ask(calls, part), ask(without, part))) fault(where + " changed something (part " + part + ")");
        }
        if (Run.of(calls).call("count", 1) != 0) fault(where + " left bytes on the tape");
    }

    // ---- the language of the runs

    private static void fault(String text) {
        wrong++;
        System.out.println(text);
    }

    private static long value(String token) {
        return switch (token) {
            case "MIN" -> Integer.MIN_VALUE;
            case "MAX" -> Integer.MAX_VALUE;
            case "LEAST" -> Long.MIN_VALUE;
            case "GREATEST" -> Long.MAX_VALUE;
            default -> Long.parseLong(token);
        };
    }

    private static long[] values(String[] tokens, int from, int to) {
        long[] out = new long[to - from];
        for (int i = from; i < to; i++) out[i - from] = value(tokens[i]);
        return out;
    }

    private static void feed(Run run, String text) {
        for (char b : text.toCharArray()) run.call("feed", b);
    }

    private static void tell(Run run, long sheet, long sort, long[] numbers) {
        run.call("sheet", sheet, sort, numbers.length);
        for (int i = 0; i < numbers.length; i++) run.call("put", sheet, i, numbers[i]);
    }

    /** Whether the line was one of the words that stand for several calls. */
    private static boolean several(Run run, String[] t) {
        switch (t[0]) {
            case "text" -> feed(run, t[1]);
            case "bytes" -> {
                for (int i = 0; i < value(t[1]); i++) run.call("feed", value(t[2]));
            }
            case "rows" -> feed(run, (t[2] + "/").repeat((int) value(t[1]) - 1) + t[2]);
            case "tell" -> tell(run, value(t[1]), value(t[2]), values(t, 3, t.length));
            case "fill" -> {
                long[] numbers = new long[(int) value(t[3])];
                for (int i = 0; i < numbers.length; i++) numbers[i] = value(t[4]) + i * value(t[5]);
                tell(run, value(t[1]), value(t[2]), numbers);
            }
            default -> {
                return false;
            }
        }
        return true;
    }

    private static void line(String where, Run run, String[] t) {
        if (several(run, t)) return;
        boolean due = t.length > 2 && t[t.length - 2].equals("=");
        Call call = new Call(t[0], values(t, 1, due ? t.length - 2 : t.length));
        long got = run.call(call);
        boolean refusable = got < error(t[0], 0) && got >= error(t[0], 7);
        if (!due) {
            if (refusable) fault(where + " was refused: " + got);
            return;
        }
        int k = ERRORS.indexOf(t[t.length - 1]);
        long want = k > 0 ? error(t[0], k) : value(t[t.length - 1]);
        if (k <= 0 && want < error(t[0], 0) && want >= error(t[0], 7) && !t[0].equals("number")) k = (int) (error(t[0], 0) - want);
        seen.add(t[0] + " " + (k > 0 ? ERRORS.get(k) : ""));
        if (got != want) fault(where + " answered " + got);
        boolean text = t[0].equals("read") || t[0].equals("spell");
        if (k > 0 || ASKING.contains(t[0])) leavesAll(where, run.calls, Math.max(k, 0));
        else if (text && want < 0) leavesAllButTape(where, run.calls);
    }

    /** A run for a sentence of a promise (0: of the Terms), which must stand in the document there. */
    private static void says(int promise, String sentence, String lines) {
        promises.add(promise);
        if (!document[promise].contains(sentence)) fault("the document does not say in " + promise + ": " + sentence);
        Run run = new Run();
        for (String line : lines.split("\n")) {
            String[] tokens = line.trim().split("\\s+");
            String where = promise + " '" + sentence + "': " + String.join(" ", tokens);
            if (tokens[0].equals("new")) run = new Run();
            else line(where, run, tokens);
        }
    }

    private static void readDocument() throws IOException {
        document = new String[40];
        String text = Files.readString(Path.of("../shared/DOC.md")).replaceAll("\\s+", " ");
        int terms = text.indexOf("## Terms");
        int end = text.indexOf("## Not promised");
        String[] parts = text.substring(terms, end).split("## Promise ");
        for (int i = 0; i < 40; i++) document[i] = parts[i];
    }

    /** Each call that the document has was asked for each ERROR that its promise names, and for an answer. */
    private static void allAsked() {
        for (int promise = 1; promise < 40; promise++) {
            if (!promises.contains(promise)) fault("no sentence of promise " + promise);
            String text = document[promise];
            String name = text.substring(text.indexOf(": ") + 2).split(" ")[0];
            if (promise == 1) continue;
            if (!seen.contains(name + " ")) fault("no answer of " + name);
            for (int k = 1; k <= 7; k++) {
                boolean named = text.matches(".*\\b" + ERRORS.get(k) + "\\b.*") && k != 5;
                if (named && !seen.contains(name + " " + ERRORS.get(k))) fault(name + " was never refused by " + ERRORS.get(k));
            }
        }
    }

    // ---- Terms

    private static void errors() {
        says(0, "LOW is -1000000000; LOW - 1 BEYOND, LOW - 2 NONE, LOW - 3 STATE, LOW - 4 FULL, LOW - 5 KIND, LOW - 6 LACK, LOW - 7 LOST", """
            look 12 0 = -1000000001
            back = -1000000002
            sheet 0 0 -1 = -1000000003
            lay 0 0 0
            wind 0 0
            work 0 = -1000000006
            put 0 0 0 = -1000000007
            bytes 120 0
            feed 0 = -1000000004
            """);
        says(0, "of longs they are -9000000000000000000 less 1 to 7", """
            rank 4 = -9000000000000000001
            rank 3 = -9000000000000000007
            sheet 3 3 1
            rank 3 = -9000000000000000003
            pairs 8
            rows 5 a.a.a.a
            read
            lay 5 0 0
            rank 3 = -9000000000000000004
            orders = -9000000000000000004
            number 3 1 = LOST
            told 1 = 1
            told 3 = 1
            told 4 = 2
            told 7 = 2
            """);
        says(0, "Each act tells its ERRORS in the order in which they are asked", """
            pairs 8
            rows 5 a.a.a.a
            read = 20
            lay 5 0 0
            lay 5 1 6 = BEYOND
            order -1 21 = BEYOND
            order -1 0 = FULL
            rank 4 = BEYOND
            rank 0 = FULL
            wind 0 4
            work 0 = 4
            wind 0 -1 = BEYOND
            work 8 = STATE
            work 0 = STATE
            work 4 = LACK
            motif 0 8 0 = BEYOND
            motif 0 1 2 = BEYOND
            motif 0 1 1 = LOST
            tell 0 3 9 9
            motif 0 3 1 = STATE
            motif 0 1 1 = NONE
            sheet 4 0 -1 = BEYOND
            sheet 0 4 -1 = BEYOND
            sheet 0 0 -1 = STATE
            put 4 -1 0 = BEYOND
            number 4 -1 = BEYOND
            bytes 120 0
            feed 256 = BEYOND
            feed 0 = FULL
            """);
        says(0, "one that answers an ERROR changes nothing but what told() tells", """
            text a.b/.c.
            read = 3
            wind 7 30
            work 1 = 3
            image = 1
            work 0 = 4
            tell 0 2 5 -7
            text ctx
            wind 0 4
            pairs 9 = BEYOND
            lay 0 1 0 = STATE
            feed 256 = BEYOND
            spell 6 = BEYOND
            letter 0 3 = BEYOND
            order 9 0 = NONE
            rank 0 = STATE
            work 1 = STATE
            work 2 = LACK
            works 1 = LOST
            wind 7 2 = STATE
            sheet 0 3 61 = BEYOND
            sheet 0 3 -1 = STATE
            put 0 2 1 = LOST
            motif 0 3 0 = STATE
            stitches 5 = 2
            told 1 = 5
            """);
    }

    private static void pairsAndPlaces() {
        says(0, "PAIRS n (2 to 8; 4 at first)", """
            count 0 = 4
            pairs 2 = 4
            count 0 = 2
            pairs 1 = BEYOND
            count 0 = 2
            pairs 8 = 2
            count 0 = 8
            pairs 9 = BEYOND
            count 0 = 8
            """);
        says(0, "PLACES 0 to 2 n - 1 from the left on", """
            at 0 = 0
            at 7 = 7
            at 8 = BEYOND
            at -1 = BEYOND
            pairs 2
            at 0 = 0
            at 3 = 3
            at 4 = BEYOND
            pairs 8
            at 15 = 15
            at 16 = BEYOND
            """);
        says(0, "THREADS 0 to 2 n - 1, each begins at the PLACE of its number", """
            pairs 2
            thread 0 2 = 0
            thread 3 2 = 3
            thread 4 2 = BEYOND
            place 3 0 = 3
            place 4 0 = BEYOND
            pairs 8
            thread 15 2 = 15
            thread 16 2 = BEYOND
            place 15 0 = 15
            place 16 0 = BEYOND
            """);
        says(0, "GAP g (0 to n - 2)", """
            pairs 2
            look 0 0 = -1
            look 0 1 = BEYOND
            look 0 -1 = BEYOND
            pairs 8
            look 0 6 = -1
            look 0 7 = BEYOND
            """);
        says(0, "PLACES 2 g to 2 g + 3, its first to its fourth", """
            pairs 8
            lay 0 0 3
            lay 0 6 3
            work 0
            at 0 = 1
            at 1 = 0
            at 2 = 3
            at 3 = 2
            at 4 = 4
            at 12 = 12
            work 1
            at 11 = 11
            at 12 = 13
            at 13 = 12
            at 14 = 15
            at 15 = 14
            """);
    }

    private static void letters() {
        says(0, "what lies at PLACES i and i + 1 changes places; of SIGN 1: what came from the left goes over (the other one under), of SIGN 2: what came from the right", """
            pairs 8
            text T
            spell 0
            lay 0 0 0
            lay 0 6 0
            place 0 1 = 1
            place 1 1 = 0
            place 14 1 = 14
            place 14 2 = 15
            place 15 2 = 14
            link 0 1 = 1
            link 14 15 = 1
            thread 0 5 = 1
            thread 15 6 = 1
            text t
            spell 0
            place 0 1 = 1
            place 15 2 = 14
            link 0 1 = -1
            link 14 15 = -1
            thread 0 6 = 1
            thread 15 5 = 1
            """);
        says(0, "KINDS 0 to 5", """
            lay 0 0 -2 = BEYOND
            lay 0 0 0 = -1
            lay 0 0 5 = 0
            lay 0 0 6 = BEYOND
            word -1 0 = BEYOND
            word 6 0 = BEYOND
            letter -1 0 = BEYOND
            letter 6 0 = BEYOND
            text c
            spell -1 = BEYOND
            spell 6 = BEYOND
            spell 5 = 1
            stitch 0 2 = 5
            """);
        says(0, "A STITCH is worked by the LETTERS of its KIND's WORD at its GAP, one behind the other", """
            text tc
            spell 0
            lay 0 0 1
            place 0 1 = 1
            place 1 1 = 3
            place 2 1 = 0
            place 3 1 = 2
            lay 0 0 0
            place 0 1 = 2
            place 1 1 = 0
            place 2 1 = 3
            place 3 1 = 1
            text C
            spell 0
            place 0 1 = 0
            place 1 1 = 2
            lace 1 0 = 1
            text ctctctct
            spell 0
            place 0 1 = 0
            place 1 1 = 1
            lace 1 0 = 12
            work 0 = 12
            at 3 = 3
            """);
        says(0, "c a CROSSING of SIGN 1 at its second PLACE, C of SIGN 2 there", """
            text c
            spell 0
            lay 0 2 0
            layer 1 0 5 = 1
            layer 1 0 4 = 0
            layer 1 0 6 = 0
            link 5 6 = 1
            text C
            spell 0
            layer 1 0 5 = 2
            link 5 6 = -1
            place 5 1 = 6
            place 6 1 = 5
            """);
        says(0, "t a CROSSING of SIGN 2 at its first, then one at its third PLACE; T likewise of SIGN 1", """
            pairs 8
            lay 0 6 3
            layer 1 0 12 = 2
            layer 1 0 13 = 0
            layer 1 0 14 = 2
            link 12 13 = -1
            link 14 15 = -1
            link 13 14 = 0
            text T
            spell 3
            layer 1 0 12 = 1
            layer 1 0 14 = 1
            link 12 13 = 1
            link 14 15 = 1
            """);
        says(0, "each with a WORD of 1 to 8 LETTERS; at first ctc, ct, ctct, t, tct, cc", """
            word 0 0 = 3
            word 1 0 = 2
            word 2 0 = 4
            word 3 0 = 1
            word 4 0 = 3
            word 5 0 = 2
            letter 0 2 = 99
            letter 1 1 = 116
            letter 2 3 = 116
            letter 3 0 = 116
            letter 4 1 = 99
            letter 5 1 = 99
            letter 5 2 = BEYOND
            spell 0 = -10
            text c
            spell 0 = 1
            text cCtTcCtT
            spell 0 = 8
            text cCtTcCtTc
            spell 0 = -18
            word 0 0 = 8
            """);
    }

    private static void prickingTerms() {
        says(0, "ROWS 0 to 11, in each of which a GAP holds a KIND, or none (at first)", """
            look 0 0 = -1
            look 11 2 = -1
            lay 0 0 0 = -1
            lay 11 2 5 = -1
            lay -1 0 0 = BEYOND
            lay 12 2 5 = BEYOND
            look 0 0 = 0
            look 11 2 = 5
            stitches 0 = 2
            """);
        says(0, "of two GAPS g, g + 1 of one ROW no more than one holds one", """
            pairs 8
            lay 3 0 0 = -1
            lay 3 1 0 = STATE
            lay 3 2 0 = -1
            lay 3 4 0 = -1
            lay 3 5 0 = STATE
            lay 3 6 0 = -1
            lay 4 1 0 = -1
            lay 4 5 0 = -1
            stitches 0 = 6
            text ab.....
            read = -11
            text .....ab
            read = -16
            """);
        says(0, "all that are held, numbered 0, 1, .. by ROWS, then by GAPS", """
            stitches 0 = 0
            stitch 0 0 = BEYOND
            pairs 8
            rows 12 a.a.a.a
            read = 48
            stitches 0 = 48
            stitch 0 0 = 0
            stitch 0 1 = 0
            stitch 3 1 = 6
            stitch 4 0 = 1
            stitch 4 1 = 0
            stitch 47 0 = 11
            stitch 47 1 = 6
            stitch 48 0 = BEYOND
            """);
        says(0, "if its ROW is less and its GAP the same, or 1 less or more", """
            pairs 8
            lay 0 3 0
            lay 11 1 0
            lay 11 3 0
            lay 11 5 0
            ahead 0 1 = 0
            ahead 0 2 = 1
            ahead 0 3 = 0
            ahead 2 0 = 0
            ahead 1 2 = 0
            ahead 0 0 = 0
            new
            pairs 8
            lay 0 3 0
            lay 11 2 0
            lay 11 4 0
            ahead 0 1 = 1
            ahead 0 2 = 1
            ahead 1 2 = 0
            """);
        says(0, "and if it is AHEAD of one that is AHEAD of that", """
            pairs 8
            text a....../.a...../..a..../...a.../....a../.....a./......a
            read = 7
            ahead 0 2 = 1
            ahead 0 6 = 1
            ahead 6 0 = 0
            lay 3 3 -1
            ahead 0 2 = 1
            ahead 0 3 = 0
            ahead 0 5 = 0
            ahead 3 5 = 1
            """);
        says(0, "DEEP: how many ROWS there are from ROW 0 to the last one that holds something (0: none does)", """
            stitches 1 = 0
            lay 0 0 0
            stitches 1 = 1
            lay 11 0 0
            stitches 1 = 12
            lay 0 0 -1
            stitches 1 = 12
            lay 10 0 0
            lay 11 0 -1
            stitches 1 = 11
            lay 10 0 -1
            stitches 1 = 0
            text .../.../...
            read = 0
            stitches 1 = 0
            """);
    }

    private static void workTerms() {
        says(0, "Of each THREAD there is WOUND so much (0 to 9999; 200 at first)", """
            thread 0 0 = 200
            thread 7 0 = 200
            wind 0 0 = 200
            wind 7 9999 = 200
            wind 0 -1 = BEYOND
            wind 7 10000 = BEYOND
            thread 0 0 = 0
            thread 7 0 = 9999
            pairs 8
            thread 8 0 = 200
            thread 15 0 = 200
            """);
        says(0, "By a STITCH each of the four THREADS that lie at its GAP uses 1; by a CROSSING the one that goes over 2, the other one 1", """
            text c
            spell 0
            lay 0 1 0
            thread 1 4 = 0
            thread 2 4 = 1
            thread 3 4 = 3
            thread 4 4 = 2
            thread 5 4 = 1
            thread 6 4 = 0
            work 0 = 1
            thread 1 1 = 200
            thread 2 1 = 199
            thread 3 1 = 197
            thread 4 1 = 198
            thread 5 1 = 199
            thread 6 1 = 200
            """);
        says(0, "STITCHES that have been worked, one behind the other (none at first)", """
            stitches 5 = 0
            worked 0 = BEYOND
            back = NONE
            lace 0 0 = 0
            """);
        says(0, "A STITCH is FREE, if it hasn't been worked and all that are AHEAD of it have", """
            text a.a/.a.
            read = 3
            stitches 4 = 2
            stitch 0 7 = 1
            stitch 2 7 = 0
            work 1 = 4
            stitch 1 7 = 0
            stitch 2 7 = 0
            work 2 = STATE
            work 0 = 4
            stitch 2 7 = 1
            stitches 4 = 1
            work 2 = 4
            stitches 4 = 0
            stitches 6 = NONE
            """);
        says(0, "THE WORK is begun anew, when PAIRS, THE PRICKING or a WORD are told (though they are so already)", """
            lay 0 0 0
            work 0 = 4
            pairs 4 = 4
            stitches 5 = 0
            lay 0 0 0 = -1
            work 0 = 4
            lay 0 0 0 = 0
            stitches 5 = 0
            work 0 = 4
            lay 11 2 -1 = -1
            stitches 5 = 0
            work 0 = 4
            text a..
            read = 1
            stitches 5 = 0
            work 0 = 4
            text ctc
            spell 0 = 3
            stitches 5 = 0
            work 0 = 4
            text cc
            spell 5 = 2
            stitches 5 = 0
            thread 0 1 = 200
            at 0 = 0
            lace 0 1 = 0
            new
            lay 0 0 0
            work 0 = 4
            text ab
            read = -11
            text x
            spell 0 = -10
            wind 7 0 = 200
            image = 1
            sheet 0 0 0 = 1
            feed 99 = 1
            stitches 5 = 1
            """);
        says(0, "LEFT of a THREAD: WOUND less all that it used in THE WORK", """
            lay 0 0 0
            wind 0 4
            thread 0 1 = 4
            work 0 = 4
            thread 0 1 = 0
            wind 0 9999 = 4
            thread 0 1 = 9995
            back = 0
            thread 0 1 = 9999
            """);
    }

    private static void allTerms() {
        says(0, "worked in thought from the beginning on, whatever is WOUND", """
            text a.b/.c.
            read = 3
            wind 0 0
            wind 1 0
            wind 2 0
            wind 3 0
            wind 4 0
            wind 5 0
            wind 6 0
            wind 7 0
            place 0 3 = 5
            thread 0 4 = 9
            thread 0 5 = 2
            thread 0 6 = 3
            thread 0 7 = -1
            lace 1 0 = 13
            meet 0 6 = 2
            work 0 = LACK
            count 3 = 0
            """);
        says(0, "till it is at its own PLACE again (1 at least)", """
            thread 0 3 = 1
            lay 0 0 5
            thread 1 3 = 1
            lay 0 0 3
            thread 1 3 = 2
            thread 4 3 = 1
            pairs 8
            text b.d.c.b/.c.c.b./f.a..d.
            read
            thread 0 3 = 16
            thread 15 3 = 16
            """);
        says(0, "NEEDS: what it uses; OVERS, UNDERS: in how many CROSSINGS it goes over, under", """
            pairs 2
            thread 1 4 = 0
            thread 1 5 = 0
            thread 1 6 = 0
            text cCcCcCcC
            spell 0
            rows 12 a
            read = 12
            thread 1 4 = 204
            thread 1 5 = 96
            thread 1 6 = 0
            thread 2 4 = 108
            thread 2 5 = 0
            thread 2 6 = 96
            thread 0 4 = 12
            thread 3 4 = 12
            """);
        says(0, "in which it goes over, as in the one ahead, or under, as in that; -1: none", """
            thread 0 7 = -1
            text c
            spell 0
            lay 0 0 0
            thread 1 7 = -1
            text cc
            spell 0
            thread 1 7 = -1
            text cC
            spell 0
            thread 1 7 = 1
            thread 2 7 = 1
            text cccccccC
            spell 0
            thread 1 7 = 7
            thread 2 7 = 7
            thread 0 7 = -1
            new
            pairs 2
            text cccccccc
            spell 0
            text cccccccC
            spell 1
            text a/a/a/a/a/a/a/a/a/a/a/b
            read = 12
            thread 1 7 = 95
            thread 2 7 = 95
            thread 1 5 = 49
            thread 1 6 = 47
            thread 1 4 = 157
            lay 11 0 0
            thread 1 7 = -1
            """);
        says(0, "LINK of two: how often the one goes over the other less how often under", """
            pairs 2
            link 0 3 = 0
            text cCcCcCcC
            spell 0
            rows 12 a
            read = 12
            link 1 2 = 96
            link 2 1 = -96
            link 0 3 = 0
            """);
        says(0, "LACKS: the first STITCH with which a THREAD (of several the least) would have used more than is WOUND of it", """
            text a.a
            read = 2
            lacks 0 = NONE
            wind 6 0
            wind 5 0
            lacks 0 = 1
            lacks 1 = 5
            wind 3 3
            lacks 0 = 0
            lacks 1 = 3
            wind 2 3
            lacks 1 = 2
            wind 2 4
            lacks 1 = 3
            wind 3 4
            lacks 0 = 1
            wind 5 4
            wind 6 4
            lacks 0 = NONE
            """);
        says(0, "ORDERS: all rows of all STITCHES in which each comes behind those AHEAD of it, numbered from 0 on, as rows of numbers are ordered (that with the lesser first number first, and so on)", """
            text a.a/a..
            read = 3
            orders = 3
            order 0 0 = 0
            order 0 1 = 1
            order 0 2 = 2
            order 1 0 = 0
            order 1 1 = 2
            order 1 2 = 1
            order 2 0 = 1
            order 2 1 = 0
            order 2 2 = 2
            order 3 0 = NONE
            order -1 0 = NONE
            tell 0 2 0 2 1
            rank 0 = 1
            tell 0 2 2 0 1
            rank 0 = STATE
            """);
        says(0, "With more than 20 STITCHES they are not asked for (FULL)", """
            pairs 8
            rows 5 a.a.a.a
            read = 20
            orders = 11732745024
            order 0 19 = 19
            fill 0 1 20 0 1
            rank 0 = 0
            lay 11 0 0
            orders = FULL
            order 0 19 = FULL
            rank 0 = FULL
            lay 11 0 -1
            orders = 11732745024
            """);
        says(0, "LEVEL of a STITCH: 0, or 1 more than the greatest of those AHEAD of it", """
            text a.a/.../a../.a.
            read = 4
            stitch 0 3 = 0
            stitch 1 3 = 0
            stitch 2 3 = 1
            stitch 3 3 = 2
            pairs 2
            rows 12 a
            read = 12
            stitch 11 3 = 11
            pairs 4
            text a.a
            read = 2
            stitch 1 3 = 0
            stitches 2 = 1
            """);
        says(0, "CHAIN: the most STITCHES of which each is AHEAD of the next", """
            stitches 2 = 0
            lay 11 0 0
            stitches 2 = 1
            lay 11 2 0
            stitches 2 = 1
            lay 0 1 0
            stitches 2 = 2
            pairs 2
            rows 12 a
            read = 12
            stitches 2 = 12
            """);
        says(0, "WIDE: the most of which none is AHEAD of another", """
            stitches 3 = 0
            lay 0 0 0
            stitches 3 = 1
            lay 11 2 0
            stitches 3 = 2
            lay 5 1 0
            stitches 3 = 1
            pairs 8
            text a....../..a..../....a../......a
            read = 4
            stitches 3 = 4
            text ......a/....a../..a..../a......
            read = 4
            stitches 3 = 4
            pairs 2
            rows 12 a
            read = 12
            stitches 3 = 1
            """);
    }

    private static void laceTerms() {
        says(0, "LACE: a row of CROSSINGS, of THE WORK (which 0) or of ALL (which 1), in the order worked", """
            text a../.d.
            read = 2
            lace 0 0 = 0
            lace 1 0 = 6
            work 0 = 4
            lace 0 0 = 4
            lace 0 2 = 3
            work 1 = 2
            lace 0 0 = 6
            layer 0 2 1 = 1
            layer 0 2 2 = 0
            layer 0 3 2 = 2
            layer 0 0 4 = 2
            layer 1 3 2 = 2
            lace -1 0 = BEYOND
            lace 2 0 = BEYOND
            back = 1
            lace 0 0 = 4
            lace 1 0 = 6
            """);
        says(0, "two CROSSINGS at one PLACE i of unlike SIGNS, between which none is at i - 1, i, i + 1, are taken out", """
            text c
            spell 0
            text C
            spell 1
            text a../.a./b..
            read = 3
            lace 1 0 = 3
            lace 1 1 = 1
            layer 1 0 3 = 1
            layer 1 0 1 = 0
            text a../.d./b..
            read = 3
            lace 1 0 = 4
            lace 1 1 = 4
            text .a./d../.b.
            read = 3
            lace 1 1 = 4
            text a../a../b..
            read = 3
            lace 1 1 = 1
            text a../a..
            read = 2
            lace 1 1 = 2
            new
            pairs 8
            text tT
            spell 0
            lay 0 0 0
            lay 0 6 0
            lace 1 0 = 8
            lace 1 1 = 0
            text tcT
            spell 0
            lace 1 1 = 10
            """);
        says(0, "again and again, till there are none such (it comes to the same)", """
            text cTcTtCtC
            spell 0
            word 0 1 = 12
            word 0 2 = 0
            text ccccCCCC
            spell 0
            word 0 2 = 0
            text ccCc
            spell 0
            lay 0 0 0
            lace 1 1 = 2
            lace 1 2 = 2
            text cTcT
            spell 0
            text tCtC
            spell 1
            text a.a/a.a/b.b/b.b
            read = 8
            lace 1 0 = 48
            lace 1 1 = 0
            lace 1 2 = 0
            lay 3 2 -1
            lace 1 0 = 42
            lace 1 1 = 6
            """);
        says(0, "LAYER of one of the REDUCED: 0, or 1 more than the greatest of those ahead of it at i - 1, i, i + 1", """
            text c
            spell 0
            lay 0 0 0
            lay 1 1 0
            layer 1 0 1 = 1
            layer 1 0 3 = 1
            lace 1 2 = 1
            lay 2 0 3
            layer 1 1 0 = 2
            layer 1 1 2 = 2
            lace 1 2 = 2
            lay 3 2 3
            layer 1 1 4 = 2
            layer 1 0 6 = 2
            lace 1 2 = 2
            text C
            spell 1
            lay 3 2 -1
            lay 2 0 1
            layer 1 0 1 = 0
            layer 1 0 3 = 1
            lace 1 2 = 1
            """);
    }

    // ---- the pricking, words

    private static void newObject() {
        says(1, "All as at first", """
            count 0 = 4
            count 1 = 0
            count 2 = 1600
            count 3 = 1600
            count 4 = 0
            count 5 = 8
            look 0 0 = -1
            look 11 2 = -1
            stitches 0 = 0
            stitches 5 = 0
            orders = 1
            rounds = 1
            word 0 0 = 3
            number 0 0 = LOST
            number 3 0 = LOST
            restore = NONE
            alike = NONE
            back = NONE
            repeat = NONE
            lacks 0 = NONE
            read = -10
            told 1 = 0
            told 2 = 5
            told 3 = 0
            told 4 = 0
            told 5 = 0
            told 6 = 0
            told 7 = 2
            """);
    }

    private static void pairs() {
        says(2, "n (2 to 8) PAIRS", """
            pairs 2 = 4
            pairs 8 = 2
            pairs 1 = BEYOND
            pairs 9 = BEYOND
            pairs 0 = BEYOND
            pairs -1 = BEYOND
            pairs MIN = BEYOND
            pairs MAX = BEYOND
            count 0 = 8
            told 1 = 6
            """);
        says(2, "THE PRICKING holds nothing then", """
            pairs 8
            rows 12 a.a.a.a
            read = 48
            pairs 8 = 8
            stitches 0 = 0
            stitches 1 = 0
            look 0 0 = -1
            look 11 6 = -1
            new
            lay 0 2 5
            pairs 3 = 4
            pairs 4 = 3
            look 0 2 = -1
            lay 0 1 0 = -1
            """);
        says(2, "how many there were", """
            pairs 5 = 4
            pairs 5 = 5
            pairs 1 = BEYOND
            pairs 9 = BEYOND
            pairs 3 = 5
            """);
        says(2, "BEYOND", """
            text a.b
            read = 2
            work 1 = 3
            image = 1
            text zz
            tell 0 2 5 -7
            wind 7 9
            pairs 1 = BEYOND
            pairs 9 = BEYOND
            look 0 2 = 1
            stitches 5 = 1
            count 1 = 2
            """);
    }

    private static void lay() {
        says(3, "A GAP of a ROW holds a KIND (-1: none): what it held", """
            lay 0 0 0 = -1
            lay 0 0 5 = 0
            look 0 0 = 5
            lay 0 0 -1 = 5
            look 0 0 = -1
            lay 0 0 -1 = -1
            lay 11 2 5 = -1
            lay 11 2 0 = 5
            look 11 2 = 0
            stitches 0 = 1
            """);
        says(3, "BEYOND: no such ROW, GAP, KIND", """
            lay -1 0 0 = BEYOND
            lay 12 0 0 = BEYOND
            lay MIN 0 0 = BEYOND
            lay MAX 0 0 = BEYOND
            lay 0 -1 0 = BEYOND
            lay 0 3 0 = BEYOND
            lay 0 MIN 0 = BEYOND
            lay 0 MAX 0 = BEYOND
            lay 0 0 -2 = BEYOND
            lay 0 0 6 = BEYOND
            lay 0 0 MIN = BEYOND
            lay 0 0 MAX = BEYOND
            lay 12 0 -1 = BEYOND
            lay 0 3 -1 = BEYOND
            stitches 0 = 0
            pairs 2
            lay 0 1 0 = BEYOND
            lay 0 0 0 = -1
            pairs 8
            lay 11 7 0 = BEYOND
            lay 11 6 0 = -1
            """);
        says(3, "STATE: one beside it holds one (if it is told a KIND)", """
            lay 5 1 0 = -1
            work 0 = 4
            lay 5 0 0 = STATE
            lay 5 2 5 = STATE
            stitches 5 = 1
            lay 5 0 6 = BEYOND
            lay 5 2 -2 = BEYOND
            lay 5 0 -1 = -1
            lay 5 2 -1 = -1
            lay 4 0 0 = -1
            lay 6 2 0 = -1
            lay 5 1 5 = 0
            lay 5 1 -1 = 5
            lay 5 0 0 = -1
            lay 5 2 0 = -1
            lay 5 1 0 = STATE
            told 3 = 3
            new
            pairs 8
            lay 0 6 0 = -1
            lay 1 0 0 = -1
            lay 0 5 0 = STATE
            lay 1 1 0 = STATE
            lay 0 4 0 = -1
            """);
    }

    private static void look() {
        says(4, "What a GAP of a ROW holds (-1: none)", """
            look 0 0 = -1
            lay 0 0 0
            lay 11 2 5
            look 0 0 = 0
            look 11 2 = 5
            look 11 1 = -1
            """);
        says(4, "BEYOND", """
            look -1 0 = BEYOND
            look 12 0 = BEYOND
            look MIN 0 = BEYOND
            look MAX 0 = BEYOND
            look 0 -1 = BEYOND
            look 0 3 = BEYOND
            look 0 MIN = BEYOND
            look 0 MAX = BEYOND
            pairs 2
            look 11 0 = -1
            look 11 1 = BEYOND
            pairs 8
            look 11 6 = -1
            look 11 7 = BEYOND
            told 1 = 10
            """);
    }

    private static void feedBytes() {
        says(5, "A byte (0 to 255) comes to THE TAPE: how many it has", """
            feed 0 = 1
            feed 255 = 2
            count 1 = 2
            """);
        says(5, "BEYOND", """
            feed -1 = BEYOND
            feed 256 = BEYOND
            feed MIN = BEYOND
            feed MAX = BEYOND
            count 1 = 0
            feed 99 = 1
            """);
        says(5, "FULL", """
            bytes 119 97
            feed 97 = 120
            feed 97 = FULL
            feed 0 = FULL
            feed -1 = BEYOND
            feed 256 = BEYOND
            told 4 = 2
            read = -11
            feed 1 = 1
            """);
        says(0, "THE TAPE has at most 120 bytes", """
            bytes 118 99
            feed 99 = 119
            feed 99 = 120
            feed 99 = FULL
            spell 6 = BEYOND
            count 1 = 120
            spell 0 = -18
            count 1 = 0
            """);
    }

    private static void read() {
        says(0, "TEXT of a PRICKING: 1 to 12 ROWS, from ROW 0 on, with / between", """
            pairs 2
            read = -10
            text a
            read = 1
            stitches 1 = 1
            rows 12 b
            read = 12
            look 11 0 = 1
            rows 13 a
            read = -33
            rows 12 a
            text /
            read = -33
            text /a
            read = -10
            text a//a
            read = -12
            new
            pairs 8
            rows 12 a.a.a.a
            read = 48
            rows 13 a.a.a.a
            read = -105
            """);
        says(0, "each of n - 1 bytes, one for each GAP", """
            text a.
            read = -12
            text a./
            read = -12
            text a.b.
            read = -13
            text a.ba
            read = -13
            text a.b
            read = 2
            pairs 2
            text .
            read = 0
            text ..
            read = -11
            pairs 8
            text ......
            read = -16
            text .......
            read = 0
            text ........
            read = -17
            """);
        says(0, ". none, a to f a KIND 0 to 5", """
            pairs 2
            text a
            read = 1
            look 0 0 = 0
            text f
            read = 1
            look 0 0 = 5
            text .
            read = 0
            look 0 0 = -1
            bytes 1 96
            read = -10
            bytes 1 103
            read = -10
            bytes 1 45
            read = -10
            bytes 1 47
            read = -10
            bytes 1 0
            read = -10
            bytes 1 255
            read = -10
            text A
            read = -10
            bytes 1 97
            bytes 1 46
            read = -11
            bytes 1 97
            bytes 1 48
            read = -11
            """);
        says(0, "FAULT: the place (from 0) of the first byte with which no such TEXT goes on", """
            text ab.
            read = -11
            text .ab
            read = -12
            text a.b/.cc
            read = -16
            text aa/zz
            read = -11
            text xyz
            read = -10
            text ..a/a..
            read = 2
            bytes 120 46
            read = -13
            """);
        says(0, "how many there are, if it ends too early", """
            read = -10
            text .
            read = -11
            text a.b/
            read = -14
            text a.b/.
            read = -15
            pairs 8
            rows 11 a.a.a.a
            text /a.a.a.
            read = -104
            """);
        says(6, "THE TAPE, which is empty then, is the TEXT of THE PRICKING, which holds just that then", """
            lay 11 2 5
            lay 0 1 4
            text a..
            read = 1
            count 1 = 0
            look 0 0 = 0
            look 0 1 = -1
            look 11 2 = -1
            read = -10
            """);
        says(6, "how many STITCHES", """
            text ...
            read = 0
            text a..
            read = 1
            pairs 8
            rows 12 .a.b.c.
            read = 36
            """);
        says(6, "If it is none: -10 less the place of its FAULT (no ERROR; nothing else changes)", """
            text a.b
            read = 2
            work 1 = 3
            image = 1
            tell 0 2 5 -7
            text a.bx
            read = -13
            count 1 = 0
            read = -10
            stitches 5 = 1
            look 0 2 = 1
            told 1 = 0
            told 2 = 0
            told 3 = 0
            told 5 = 0
            """);
    }

    private static void spell() {
        says(0, "TEXT of a WORD: its LETTERS alone; FAULT likewise", """
            spell 0 = -10
            bytes 1 98
            spell 0 = -10
            bytes 1 100
            spell 0 = -10
            bytes 1 66
            spell 0 = -10
            bytes 1 68
            spell 0 = -10
            bytes 1 115
            spell 0 = -10
            bytes 1 117
            spell 0 = -10
            bytes 1 83
            spell 0 = -10
            bytes 1 85
            spell 0 = -10
            bytes 1 0
            spell 0 = -10
            bytes 1 255
            spell 0 = -10
            text cCtTx
            spell 0 = -14
            text cCtTcCtx
            spell 0 = -17
            text cCtTcCtTx
            spell 0 = -18
            word 0 0 = 3
            text cCtT
            spell 0 = 4
            """);
        says(7, "THE TAPE, which is empty then, is the TEXT of the WORD of a KIND: how many LETTERS", """
            text C
            spell 0 = 1
            count 1 = 0
            letter 0 0 = 67
            letter 0 1 = BEYOND
            text cCtTcCtT
            spell 5 = 8
            count 1 = 0
            letter 5 0 = 99
            letter 5 7 = 84
            letter 4 2 = 116
            text T
            spell 5 = 1
            letter 5 0 = 84
            letter 5 1 = BEYOND
            """);
        says(7, "BEYOND (THE TAPE stays)", """
            spell -1 = BEYOND
            spell 6 = BEYOND
            text x
            spell 6 = BEYOND
            spell MIN = BEYOND
            spell MAX = BEYOND
            count 1 = 1
            spell 5 = -10
            text c
            spell -1 = BEYOND
            spell 0 = 1
            """);
        says(7, "If it is none: -10 less the place of its FAULT (no ERROR; nothing else changes)", """
            lay 0 0 0
            work 0 = 4
            image = 1
            text ctcx
            spell 0 = -13
            count 1 = 0
            spell 0 = -10
            text ccccccccc
            spell 0 = -18
            bytes 120 116
            spell 0 = -18
            word 0 0 = 3
            stitches 5 = 1
            told 1 = 0
            told 2 = 0
            told 3 = 0
            told 5 = 0
            """);
    }

    private static void word() {
        says(8, "what 0 how many LETTERS, 1 how many CROSSINGS, 2 how many of these are REDUCED", """
            text c
            spell 0
            word 0 0 = 1
            word 0 1 = 1
            word 0 2 = 1
            text tttttttt
            spell 5
            word 5 0 = 8
            word 5 1 = 16
            word 5 2 = 16
            text cCcCcCcC
            spell 5
            word 5 1 = 8
            word 5 2 = 0
            text tTtTtTtT
            spell 5
            word 5 1 = 16
            word 5 2 = 0
            text ctC
            spell 5
            word 5 2 = 4
            """);
        says(8, "3 how often it must be worked till all four THREADS are as ahead of it", """
            word 5 3 = 1
            word 3 3 = 2
            word 1 3 = 4
            text cC
            spell 0
            word 0 3 = 1
            """);
        says(8, "4 to 7 where (0 to 3, of the four) what lay at the first to fourth lies behind it", """
            word 5 4 = 0
            word 5 5 = 1
            word 5 6 = 2
            word 5 7 = 3
            word 2 4 = 3
            word 2 7 = 0
            word 1 4 = 1
            word 1 5 = 3
            word 1 6 = 0
            word 1 7 = 2
            pairs 2
            word 1 7 = 2
            lay 0 0 5
            rounds = 1
            word 1 3 = 4
            rounds = 1
            thread 3 5 = 0
            """);
        says(8, "BEYOND", """
            word -1 0 = BEYOND
            word 6 0 = BEYOND
            word MIN 0 = BEYOND
            word MAX 0 = BEYOND
            word 0 -1 = BEYOND
            word 0 8 = BEYOND
            word 0 MIN = BEYOND
            word 0 MAX = BEYOND
            word 0 7 = 1
            word 5 0 = 2
            told 1 = 8
            """);
    }

    private static void letter() {
        says(9, "LETTER i of the WORD of a KIND", """
            letter 0 0 = 99
            letter 0 2 = 99
            letter 5 1 = 99
            text TcCtcCtC
            spell 5
            letter 5 0 = 84
            letter 5 7 = 67
            """);
        says(9, "BEYOND", """
            letter -1 0 = BEYOND
            letter 6 0 = BEYOND
            letter MIN 0 = BEYOND
            letter MAX 0 = BEYOND
            letter 0 -1 = BEYOND
            letter 0 3 = BEYOND
            letter 0 MIN = BEYOND
            letter 0 MAX = BEYOND
            letter 3 0 = 116
            letter 3 1 = BEYOND
            text cCtTcCtT
            spell 3
            letter 3 7 = 84
            letter 3 8 = BEYOND
            text c
            spell 3
            letter 3 1 = BEYOND
            """);
    }

    // ---- stitches, orders

    private static void stitches() {
        says(10, "what 0 how many STITCHES, 1 DEEP, 2 CHAIN, 3 WIDE, 4 how many are FREE now, 5 how many have been worked, 6 the least that is FREE", """
            stitches 0 = 0
            stitches 1 = 0
            stitches 2 = 0
            stitches 3 = 0
            stitches 4 = 0
            stitches 5 = 0
            pairs 8
            rows 12 a.a.a.a
            read = 48
            stitches 0 = 48
            stitches 1 = 12
            stitches 2 = 12
            stitches 3 = 4
            stitches 4 = 4
            stitches 5 = 0
            stitches 6 = 0
            fill 0 1 48 0 1
            works 0 = 48
            stitches 4 = 0
            stitches 5 = 48
            back = 47
            stitches 4 = 1
            stitches 5 = 47
            stitches 6 = 47
            """);
        says(10, "BEYOND", """
            stitches -1 = BEYOND
            stitches 7 = BEYOND
            stitches MIN = BEYOND
            stitches MAX = BEYOND
            lay 0 0 0
            stitches 6 = 0
            stitches 7 = BEYOND
            """);
        says(10, "NONE (what 6): none is", """
            stitches 6 = NONE
            lay 0 0 0
            stitches 6 = 0
            work 0 = 4
            stitches 6 = NONE
            back = 0
            stitches 6 = 0
            told 2 = 2
            """);
    }

    private static void stitch() {
        says(11, "what 0 ROW, 1 GAP, 2 KIND, 3 LEVEL, 4 how many are AHEAD of it, 5 of how many it is AHEAD, 6 1 if it has been worked, 7 1 if it is FREE", """
            pairs 8
            rows 11 a.a.a.a
            text /f.f.f.f
            read = 48
            stitch 0 0 = 0
            stitch 0 1 = 0
            stitch 0 2 = 0
            stitch 0 3 = 0
            stitch 0 4 = 0
            stitch 0 5 = 11
            stitch 0 6 = 0
            stitch 0 7 = 1
            stitch 47 0 = 11
            stitch 47 1 = 6
            stitch 47 2 = 5
            stitch 47 3 = 11
            stitch 47 4 = 11
            stitch 47 5 = 0
            stitch 47 6 = 0
            stitch 47 7 = 0
            fill 0 1 48 0 1
            works 0 = 48
            stitch 47 6 = 1
            stitch 47 7 = 0
            back = 47
            stitch 47 6 = 0
            stitch 47 7 = 1
            """);
        says(11, "4 how many are AHEAD of it, 5 of how many it is AHEAD", """
            pairs 8
            text a.a.a.a/.a.a.a./a.a.a.a/.a.a.a./a.a.a.a
            read = 18
            stitch 0 5 = 8
            stitch 17 4 = 8
            stitch 8 4 = 5
            stitch 8 5 = 5
            """);
        says(11, "BEYOND", """
            stitch 0 0 = BEYOND
            text a.b
            read = 2
            stitch -1 0 = BEYOND
            stitch 2 0 = BEYOND
            stitch MIN 0 = BEYOND
            stitch MAX 0 = BEYOND
            stitch 1 -1 = BEYOND
            stitch 1 8 = BEYOND
            stitch 1 MIN = BEYOND
            stitch 1 MAX = BEYOND
            stitch 0 0 = 0
            stitch 1 7 = 1
            """);
    }

    private static void ahead() {
        says(12, "Whether STITCH a is AHEAD of b: 1, 0", """
            pairs 8
            rows 12 a.a.a.a
            read = 48
            ahead 0 47 = 0
            ahead 3 47 = 1
            ahead 47 3 = 0
            ahead 43 47 = 1
            ahead 47 47 = 0
            ahead 0 0 = 0
            ahead 0 1 = 0
            """);
        says(12, "BEYOND", """
            ahead 0 0 = BEYOND
            text a../a..
            read = 2
            ahead -1 0 = BEYOND
            ahead 2 0 = BEYOND
            ahead MIN 0 = BEYOND
            ahead MAX 0 = BEYOND
            ahead 0 -1 = BEYOND
            ahead 0 2 = BEYOND
            ahead 0 MIN = BEYOND
            ahead 0 MAX = BEYOND
            ahead 0 1 = 1
            """);
    }

    private static void orders() {
        says(13, "How many ORDERS", """
            orders = 1
            lay 0 0 0
            orders = 1
            lay 11 2 0
            orders = 2
            lay 5 1 0
            orders = 1
            pairs 8
            rows 5 a.a.a.a
            read = 20
            orders = 11732745024
            lay 0 0 -1
            orders = 2933186256
            text a.a.a.a/a.a.a../a.a..../a......
            read = 10
            orders = 12600
            text a.a.a.a/..a.a.a/....a.a/......a
            read = 10
            orders = 12600
            text a.a.a.a/a.a...a/..a...a/..a....
            read = 10
            orders = 12600
            pairs 2
            rows 12 a
            read = 12
            orders = 1
            """);
        says(13, "FULL", """
            pairs 8
            rows 5 a.a.a.a
            read = 20
            lay 5 6 0
            orders = FULL
            rows 12 a.a.a.a
            read = 48
            orders = FULL
            told 4 = 2
            """);
        says(14, "The i-th STITCH (from 0) of ORDER r", """
            text a.a
            read = 2
            order 0 0 = 0
            order 0 1 = 1
            order 1 0 = 1
            order 1 1 = 0
            pairs 8
            rows 5 a.a.a.a
            read = 20
            order 0 0 = 0
            order 0 19 = 19
            order 11732745023 0 = 3
            order 11732745023 5 = 2
            order 11732745023 19 = 16
            order 11732745022 13 = 13
            order 11732745022 14 = 0
            order 11732745022 15 = 17
            order 11732745022 19 = 16
            """);
        says(14, "BEYOND: i", """
            order 0 0 = BEYOND
            text a.a
            read = 2
            order 0 -1 = BEYOND
            order 0 2 = BEYOND
            order 0 MIN = BEYOND
            order 0 MAX = BEYOND
            order 2 2 = BEYOND
            order -1 -1 = BEYOND
            """);
        says(14, "FULL", """
            pairs 8
            rows 5 a.a.a.a
            read = 20
            lay 5 0 0
            order 0 0 = FULL
            order 0 20 = FULL
            order 0 21 = BEYOND
            order 0 -1 = BEYOND
            order -1 0 = FULL
            order GREATEST 0 = FULL
            """);
        says(14, "NONE: there is no such ORDER", """
            text a.a
            read = 2
            order 2 0 = NONE
            order -1 0 = NONE
            order LEAST 1 = NONE
            order GREATEST 1 = NONE
            order 4294967296 0 = NONE
            order 1 0 = 1
            pairs 8
            rows 5 a.a.a.a
            read = 20
            order 11732745024 0 = NONE
            order 11732745023 0 = 3
            """);
    }

    private static void rank() {
        says(15, "The number of the ORDER that a SHEET tells", """
            sheet 0 3 0
            rank 0 = 0
            lay 0 0 0
            sheet 3 0 1
            rank 3 = 0
            pairs 8
            rows 5 a.a.a.a
            read = 20
            fill 0 1 20 0 1
            rank 0 = 0
            tell 3 3 3 7 11 15 19 2 6 10 14 18 1 5 9 13 17 0 4 8 12 16
            rank 3 = 11732745023
            """);
        says(15, "BEYOND: no such SHEET", """
            rank -1 = BEYOND
            rank 4 = BEYOND
            rank MIN = BEYOND
            rank MAX = BEYOND
            pairs 8
            rows 12 a.a.a.a
            read = 48
            rank 4 = BEYOND
            rank -1 = BEYOND
            """);
        says(15, "FULL", """
            pairs 8
            rows 5 a.a.a.a
            read = 20
            lay 5 0 0
            rank 0 = FULL
            fill 1 1 21 0 1
            rank 1 = FULL
            sheet 2 0 0
            rank 2 = FULL
            lay 5 0 -1
            rank 0 = LOST
            """);
        says(15, "LOST: it is missing", """
            rank 0 = LOST
            rank 3 = LOST
            sheet 3 0 0
            rank 3 = 0
            sheet 3 -1 0
            rank 3 = LOST
            """);
        says(15, "STATE: it tells none", """
            sheet 0 3 1
            rank 0 = STATE
            text a.a
            read = 2
            rank 0 = STATE
            sheet 0 3 0
            rank 0 = STATE
            tell 0 3 0 1 1
            rank 0 = STATE
            tell 0 3 0 0
            rank 0 = STATE
            tell 0 3 1 1
            rank 0 = STATE
            tell 0 3 0 2
            rank 0 = STATE
            tell 0 3 -1 1
            rank 0 = STATE
            tell 0 3 0 4294967297
            rank 0 = STATE
            tell 0 3 0 LEAST
            rank 0 = STATE
            tell 0 3 GREATEST 0
            rank 0 = STATE
            tell 0 3 1 0
            rank 0 = 1
            text a../a..
            read = 2
            rank 0 = STATE
            tell 0 3 0 1
            rank 0 = 0
            """);
    }

    // ---- work

    private static void work() {
        says(16, "A STITCH is worked: how many CROSSINGS it made", """
            pairs 8
            text c
            spell 0
            text tttttttt
            spell 1
            text a.b
            spell 5 = -10
            text a.b.a.b
            read = 4
            work 0 = 1
            work 3 = 16
            stitches 5 = 2
            """);
        says(16, "BEYOND", """
            work 0 = BEYOND
            text a.b
            read = 2
            work -1 = BEYOND
            work 2 = BEYOND
            work MIN = BEYOND
            work MAX = BEYOND
            work 0 = 4
            work 1 = 3
            """);
        says(16, "STATE: it isn't FREE", """
            text a../a..
            read = 2
            wind 0 0
            work 1 = STATE
            work 0 = LACK
            wind 0 4
            work 0 = 4
            work 0 = STATE
            work 1 = LACK
            work 2 = BEYOND
            told 3 = 2
            """);
        says(16, "LACK: less is LEFT of a THREAD than it would use", """
            text c
            spell 0
            lay 0 0 0
            wind 4 0
            wind 0 0
            work 0 = LACK
            wind 0 1
            wind 1 2
            work 0 = LACK
            wind 1 3
            wind 2 1
            work 0 = LACK
            wind 2 2
            wind 3 0
            work 0 = LACK
            wind 3 1
            work 0 = 1
            count 2 = 600
            told 6 = 4
            new
            pairs 2
            text cCcCcCcC
            spell 0
            rows 12 a
            read = 12
            fill 0 1 11 0 1
            works 0 = 11
            thread 1 1 = 13
            work 11 = LACK
            wind 1 203
            work 11 = LACK
            wind 1 204
            work 11 = 8
            thread 1 1 = 0
            """);
    }

    private static void works() {
        says(17, "STITCHES that a SHEET tells are worked, up to the first that work() would refuse (no ERROR then): how many", """
            sheet 0 3 0
            works 0 = 0
            sheet 0 3 60
            works 0 = 0
            text a.a/.a.
            read = 3
            works 0 = 1
            works 0 = 0
            tell 1 3 1 2 3
            works 1 = 2
            back = 2
            back = 1
            back = 0
            tell 1 3 2 0
            works 1 = 0
            tell 1 3 0 -1 1
            works 1 = 1
            tell 1 3 1 4294967298
            works 1 = 1
            tell 1 3 LEAST
            works 1 = 0
            tell 1 3 GREATEST
            works 1 = 0
            stitches 5 = 2
            wind 0 4
            tell 1 3 2
            works 1 = 0
            stitches 5 = 2
            told 1 = 0
            told 3 = 0
            told 6 = 0
            new
            text a.a
            read = 2
            fill 0 3 3 0 0
            sheet 0 3 0
            works 0 = 0
            stitches 5 = 0
            tell 0 3 1
            works 0 = 1
            stitches 5 = 1
            new
            pairs 8
            rows 12 a.a.a.a
            read = 48
            fill 3 2 60 0 1
            works 3 = 48
            told 1 = 0
            """);
        says(17, "BEYOND", """
            works -1 = BEYOND
            works 4 = BEYOND
            works MIN = BEYOND
            works MAX = BEYOND
            """);
        says(17, "LOST: it is missing", """
            works 0 = LOST
            works 3 = LOST
            sheet 3 0 1
            works 3 = 0
            sheet 3 -1 1
            works 3 = LOST
            """);
    }

    private static void back() {
        says(18, "The STITCH worked latest is taken back: which", """
            text a.a/.a.
            read = 3
            work 1 = 4
            work 0 = 4
            work 2 = 4
            back = 2
            stitch 2 7 = 1
            back = 0
            stitch 2 7 = 0
            stitch 0 7 = 1
            at 0 = 0
            at 4 = 6
            back = 1
            at 4 = 4
            count 2 = 1600
            lace 0 0 = 0
            """);
        says(18, "NONE", """
            back = NONE
            lay 0 0 0
            back = NONE
            work 0 = 4
            back = 0
            back = NONE
            work 0 = 4
            pairs 4
            back = NONE
            told 2 = 4
            """);
    }

    private static void worked() {
        says(19, "The i-th that has been worked (from 0)", """
            pairs 8
            rows 12 a.a.a.a
            read = 48
            fill 0 1 48 0 1
            works 0 = 48
            worked 0 = 0
            worked 47 = 47
            worked 48 = BEYOND
            back = 47
            worked 46 = 46
            worked 47 = BEYOND
            """);
        says(19, "BEYOND", """
            worked 0 = BEYOND
            text a.a
            read = 2
            worked 0 = BEYOND
            work 1 = 4
            worked 0 = 1
            worked 1 = BEYOND
            worked -1 = BEYOND
            worked MIN = BEYOND
            worked MAX = BEYOND
            """);
    }

    private static void at() {
        says(20, "Which THREAD lies at a PLACE in THE WORK, as it is now", """
            pairs 8
            lay 0 0 0
            lay 0 6 0
            at 0 = 0
            at 15 = 15
            work 1 = 4
            at 12 = 14
            at 15 = 13
            at 0 = 0
            work 0 = 4
            at 0 = 2
            at 3 = 1
            """);
        says(20, "BEYOND", """
            at -1 = BEYOND
            at 8 = BEYOND
            at MIN = BEYOND
            at MAX = BEYOND
            pairs 2
            at 3 = 3
            at 4 = BEYOND
            pairs 8
            at 15 = 15
            at 16 = BEYOND
            """);
    }

    private static void wind() {
        says(21, "WOUND of a THREAD becomes v: what it was", """
            wind 0 0 = 200
            wind 0 9999 = 0
            wind 0 9999 = 9999
            wind 7 1 = 200
            wind 7 10000 = BEYOND
            wind 7 2 = 1
            """);
        says(21, "BEYOND", """
            wind -1 5 = BEYOND
            wind 8 5 = BEYOND
            wind MIN 5 = BEYOND
            wind MAX 5 = BEYOND
            wind 0 -1 = BEYOND
            wind 0 10000 = BEYOND
            wind 0 MIN = BEYOND
            wind 0 MAX = BEYOND
            pairs 2
            wind 3 5 = 200
            wind 4 5 = BEYOND
            pairs 8
            wind 15 5 = 200
            wind 16 5 = BEYOND
            """);
        says(21, "STATE: more has been used", """
            lay 0 0 0
            work 0 = 4
            wind 0 3 = STATE
            wind 0 0 = STATE
            wind 0 -1 = BEYOND
            wind 0 4 = 200
            wind 0 3 = STATE
            thread 0 1 = 0
            wind 4 0 = 200
            back = 0
            wind 0 3 = 4
            wind 0 0 = 3
            told 3 = 3
            """);
    }

    private static void thread() {
        says(22, "what 0 WOUND, 1 LEFT, 2 its PLACE in THE WORK, 3 ROUNDS, 4 NEEDS, 5 OVERS, 6 UNDERS, 7 FALSE (-1)", """
            thread 0 0 = 200
            thread 0 1 = 200
            thread 0 2 = 0
            thread 0 3 = 1
            thread 0 4 = 0
            thread 0 5 = 0
            thread 0 6 = 0
            thread 0 7 = -1
            pairs 8
            text TTTTTTTT
            spell 0
            rows 12 a.a.a.a
            read = 48
            wind 15 9999
            thread 15 0 = 9999
            thread 15 1 = 9999
            thread 15 2 = 15
            thread 15 3 = 1
            thread 15 4 = 156
            thread 15 5 = 48
            thread 15 6 = 48
            thread 15 7 = -1
            fill 0 1 48 0 1
            works 0 = 48
            thread 15 1 = 9843
            thread 0 1 = 44
            """);
        says(22, "BEYOND", """
            thread -1 0 = BEYOND
            thread 8 0 = BEYOND
            thread MIN 0 = BEYOND
            thread MAX 0 = BEYOND
            thread 0 -1 = BEYOND
            thread 0 8 = BEYOND
            thread 0 MIN = BEYOND
            thread 0 MAX = BEYOND
            thread 7 7 = -1
            pairs 2
            thread 3 0 = 200
            thread 4 0 = BEYOND
            pairs 8
            thread 15 0 = 200
            thread 16 0 = BEYOND
            """);
    }

    private static void place() {
        says(23, "PLACE of a THREAD in ALL behind the first s STITCHES", """
            pairs 8
            rows 11 a.a.a.a
            read = 44
            place 0 0 = 0
            place 0 1 = 2
            place 15 3 = 15
            place 15 4 = 13
            place 15 43 = 15
            place 15 44 = 13
            place 15 0 = 15
            """);
        says(23, "BEYOND: no such THREAD, s (0 to how many there are)", """
            place 0 0 = 0
            place 0 1 = BEYOND
            lay 0 0 0
            place 0 1 = 2
            place 0 2 = BEYOND
            place 0 -1 = BEYOND
            place 0 MIN = BEYOND
            place 0 MAX = BEYOND
            place -1 0 = BEYOND
            place 8 0 = BEYOND
            place MIN 0 = BEYOND
            place MAX 0 = BEYOND
            place 7 1 = 7
            """);
    }

    private static void rounds() {
        says(24, "The least number above 0 of which ROUNDS of all THREADS are divisors", """
            rounds = 1
            lay 0 0 5
            rounds = 1
            lay 0 0 3
            rounds = 2
            lay 0 0 1
            rounds = 4
            pairs 8
            text .b.f.a./d..a..b/c.e.d../f.d.a..
            read = 12
            rounds = 140
            text b.d.c.b/.c.c.b./f.a..d.
            read = 10
            rounds = 16
            pairs 2
            rounds = 1
            """);
    }

    private static void link() {
        says(25, "LINK of two", """
            link 0 7 = 0
            lay 0 2 3
            link 7 6 = 1
            link 6 7 = -1
            link 0 7 = 0
            """);
        says(25, "BEYOND (also one and the same)", """
            link 0 0 = BEYOND
            link 7 7 = BEYOND
            link -1 0 = BEYOND
            link 8 0 = BEYOND
            link MIN 0 = BEYOND
            link MAX 0 = BEYOND
            link 0 -1 = BEYOND
            link 0 8 = BEYOND
            link 0 MIN = BEYOND
            link 0 MAX = BEYOND
            link 0 7 = 0
            link 7 0 = 0
            """);
    }

    private static void meet() {
        says(26, "The first STITCH in ALL in which two THREADS cross one another", """
            pairs 8
            text cC
            spell 5
            rows 11 f.f.f.f
            text /f.f.f.d
            read = 48
            meet 1 2 = 0
            meet 13 14 = 3
            meet 12 13 = 47
            meet 15 14 = 47
            """);
        says(26, "BEYOND (also one and the same)", """
            meet 0 0 = BEYOND
            lay 0 0 0
            meet 7 7 = BEYOND
            meet -1 0 = BEYOND
            meet 8 0 = BEYOND
            meet MIN 0 = BEYOND
            meet MAX 0 = BEYOND
            meet 0 -1 = BEYOND
            meet 0 8 = BEYOND
            meet 0 MIN = BEYOND
            meet 0 MAX = BEYOND
            """);
        says(26, "NONE: they don't", """
            meet 1 2 = NONE
            lay 0 0 0
            meet 1 2 = 0
            meet 0 1 = NONE
            meet 0 7 = NONE
            meet 6 7 = NONE
            told 2 = 4
            """);
    }

    private static void lacks() {
        says(27, "LACKS: what 0 the STITCH, 1 the THREAD", """
            pairs 2
            text cCcCcCcC
            spell 0
            rows 12 a
            read = 12
            lacks 0 = 11
            lacks 1 = 1
            wind 1 203
            lacks 0 = 11
            wind 1 204
            lacks 0 = NONE
            wind 3 11
            lacks 0 = 11
            lacks 1 = 3
            wind 3 0
            lacks 0 = 0
            lacks 1 = 3
            wind 0 0
            lacks 1 = 0
            """);
        says(27, "BEYOND", """
            lacks -1 = BEYOND
            lacks 2 = BEYOND
            lacks MIN = BEYOND
            lacks MAX = BEYOND
            lay 0 0 0
            wind 0 0
            lacks 2 = BEYOND
            lacks 0 = 0
            """);
        says(27, "NONE: there is enough", """
            lacks 0 = NONE
            lacks 1 = NONE
            wind 0 0
            lacks 0 = NONE
            lay 0 0 5
            wind 0 1
            wind 1 4
            wind 2 4
            wind 3 1
            wind 4 0
            lacks 0 = NONE
            lacks 1 = NONE
            wind 2 3
            lacks 0 = 0
            lacks 1 = 2
            """);
    }

    // ---- lace, grounds

    private static void lace() {
        says(28, "what 0 how many CROSSINGS, 1 how many are REDUCED, 2 how many LAYERS these have, 3 how many of the REDUCED are of SIGN 1", """
            lace 0 0 = 0
            lace 0 1 = 0
            lace 0 2 = 0
            lace 0 3 = 0
            lace 1 0 = 0
            lace 1 1 = 0
            lace 1 2 = 0
            lace 1 3 = 0
            pairs 8
            text TTTTTTTT
            spell 0
            rows 12 a.a.a.a
            read = 48
            lace 1 0 = 768
            lace 1 1 = 768
            lace 1 2 = 96
            lace 1 3 = 768
            lace 0 0 = 0
            fill 0 1 48 0 1
            works 0 = 48
            lace 0 0 = 768
            lace 0 1 = 768
            lace 0 2 = 96
            lace 0 3 = 768
            layer 0 95 14 = 1
            """);
        says(28, "2 how many LAYERS these have", """
            text T
            spell 0
            pairs 8
            lay 0 0 1
            lay 1 1 0
            lace 1 1 = 3
            lace 1 2 = 2
            pairs 8
            lay 0 6 1
            lay 1 5 0
            lace 1 1 = 3
            lace 1 2 = 2
            """);
        says(28, "BEYOND", """
            lace -1 0 = BEYOND
            lace 2 0 = BEYOND
            lace MIN 0 = BEYOND
            lace MAX 0 = BEYOND
            lace 0 -1 = BEYOND
            lace 0 4 = BEYOND
            lace 0 MIN = BEYOND
            lace 1 MAX = BEYOND
            lace 1 3 = 0
            """);
    }

    private static void layer() {
        says(29, "that is in a LAYER (0 and more) at a PLACE (0 to 2 n - 2); 0: none is", """
            layer 0 0 0 = 0
            pairs 8
            text tttttttt
            spell 0
            rows 12 a.a.a.a
            read = 48
            layer 1 0 0 = 2
            layer 1 0 1 = 0
            layer 1 0 14 = 2
            layer 1 95 0 = 2
            layer 1 95 14 = 2
            layer 1 96 0 = 0
            layer 1 96 14 = 0
            layer 1 MAX 14 = 0
            layer 0 0 0 = 0
            work 3 = 16
            layer 0 7 14 = 2
            layer 0 8 14 = 0
            layer 0 7 0 = 0
            """);
        says(29, "BEYOND", """
            layer -1 0 0 = BEYOND
            layer 2 0 0 = BEYOND
            layer MIN 0 0 = BEYOND
            layer MAX 0 0 = BEYOND
            layer 0 -1 0 = BEYOND
            layer 0 MIN 0 = BEYOND
            layer 0 0 -1 = BEYOND
            layer 0 0 7 = BEYOND
            layer 0 0 MIN = BEYOND
            layer 0 0 MAX = BEYOND
            layer 1 0 6 = 0
            pairs 2
            layer 1 0 2 = 0
            layer 1 0 3 = BEYOND
            pairs 8
            layer 1 0 14 = 0
            layer 1 0 15 = BEYOND
            """);
    }

    private static void repeat() {
        says(0, "REPEAT: the least r (1 to DEEP) such that each ROW from r to DEEP - 1 holds what the ROW r less holds", """
            lay 0 0 0
            repeat = 1
            lay 0 0 -1
            lay 11 2 5
            repeat = 12
            pairs 2
            rows 12 a
            read = 12
            repeat = 1
            text a/a/a/a/a/a/a/a/a/a/a/b
            read = 12
            repeat = 12
            text a/b/b/b/b/b/b/b/b/b/b/a
            read = 12
            repeat = 11
            text a/b/a/b/a/b/a/b/a/b/a/b
            read = 12
            repeat = 2
            text a/b/c/d/e/f/a/b/c/d/e/f
            read = 12
            repeat = 6
            pairs 8
            text a.a.a.a/a.a.a.b/a.a.a.a
            read = 12
            repeat = 2
            """);
        says(30, "NONE: THE PRICKING holds nothing", """
            repeat = NONE
            text .../.../...
            read = 0
            repeat = NONE
            lay 11 0 0
            repeat = 12
            lay 11 0 -1
            repeat = NONE
            told 2 = 3
            """);
    }

    private static void motif() {
        says(0, "A MOTIF is told by a SHEET, w GAPS wide (1 to 7)", """
            pairs 8
            fill 0 2 7 -2 0
            motif 0 1 0 = 42
            motif 0 7 0 = 12
            motif 0 0 0 = BEYOND
            motif 0 8 0 = BEYOND
            lay 11 0 4
            lay 11 6 5
            tell 1 1 4 -1 -1 -1 -1 -1 5
            motif 1 7 0 = 1
            motif 1 7 1 = 110
            """);
        says(0, "its numbers stand row by row, -2 fits any, -1 none, 0 to 5 a KIND, another one nothing", """
            pairs 2
            text a/f
            read = 2
            tell 0 3 -2
            motif 0 1 0 = 12
            tell 0 3 -1
            motif 0 1 0 = 10
            motif 0 1 1 = 20
            tell 0 3 0
            motif 0 1 0 = 1
            tell 0 3 5
            motif 0 1 0 = 1
            motif 0 1 1 = 10
            tell 0 3 -3
            motif 0 1 0 = 0
            tell 0 3 6
            motif 0 1 0 = 0
            tell 0 3 LEAST
            motif 0 1 0 = 0
            tell 0 3 GREATEST
            motif 0 1 0 = 0
            tell 0 3 4294967294
            motif 0 1 0 = 0
            tell 0 3 4294967295
            motif 0 1 0 = 0
            tell 0 3 4294967296
            motif 0 1 0 = 0
            tell 0 2 4294967294
            motif 0 1 0 = 12
            tell 0 3 0 5
            motif 0 1 1 = 0
            tell 0 3 5 0
            motif 0 1 0 = 0
            """);
        says(0, "from which on, so many ROWS on and w GAPS (that there all are), all fits", """
            pairs 8
            fill 0 2 60 -2 0
            motif 0 5 0 = 3
            motif 0 6 0 = 6
            motif 0 4 0 = 0
            motif 0 1 0 = 0
            fill 0 2 56 -2 0
            motif 0 7 0 = 5
            motif 0 7 1 = 0
            pairs 7
            motif 0 7 0 = 0
            pairs 2
            fill 0 2 12 -2 0
            motif 0 1 0 = 1
            motif 0 2 0 = 0
            fill 0 2 13 -2 0
            motif 0 1 0 = 0
            """);
        says(31, "what 0 at how many places it is FOUND, 1 the first (10 times the ROW, and the GAP, by ROWS)", """
            pairs 8
            tell 0 2 5
            motif 0 1 0 = 0
            lay 11 6 5
            motif 0 1 0 = 1
            motif 0 1 1 = 116
            lay 11 4 5
            motif 0 1 1 = 114
            lay 1 6 5
            motif 0 1 1 = 16
            lay 0 0 5
            motif 0 1 1 = 0
            motif 0 1 0 = 4
            tell 3 0 0
            lay 11 6 0
            motif 3 1 1 = 116
            """);
        says(31, "BEYOND: no such SHEET, w, what", """
            motif -1 1 0 = BEYOND
            motif 4 1 0 = BEYOND
            motif MIN 1 0 = BEYOND
            motif MAX 1 0 = BEYOND
            motif 0 0 0 = BEYOND
            motif 0 8 0 = BEYOND
            motif 0 -1 0 = BEYOND
            motif 0 MIN 0 = BEYOND
            motif 0 MAX 0 = BEYOND
            motif 0 1 -1 = BEYOND
            motif 0 1 2 = BEYOND
            motif 0 1 MIN = BEYOND
            motif 0 1 MAX = BEYOND
            motif 0 7 1 = LOST
            sheet 0 0 0
            motif 0 8 0 = BEYOND
            motif 0 1 2 = BEYOND
            """);
        says(31, "LOST: it is missing", """
            motif 0 1 0 = LOST
            motif 3 7 1 = LOST
            sheet 3 1 1
            motif 3 1 0 = 0
            sheet 3 -1 1
            motif 3 1 0 = LOST
            """);
        says(31, "STATE: w doesn't divide how many numbers it has, or it has none", """
            sheet 0 3 0
            motif 0 1 0 = STATE
            motif 0 7 1 = STATE
            fill 0 3 60 -2 0
            motif 0 7 0 = STATE
            motif 0 7 1 = STATE
            motif 0 6 1 = NONE
            tell 0 3 9
            motif 0 2 0 = STATE
            motif 0 1 1 = NONE
            fill 0 3 7 -2 0
            motif 0 6 0 = STATE
            motif 0 7 0 = 0
            """);
        says(31, "NONE (what 1): it isn't FOUND", """
            tell 0 3 0
            motif 0 1 1 = NONE
            motif 0 1 0 = 0
            lay 11 2 0
            motif 0 1 1 = 112
            fill 0 3 4 -2 0
            motif 0 4 1 = NONE
            motif 0 4 0 = 0
            told 2 = 2
            """);
    }

    // ---- sheets, images, what is told

    private static void sheet() {
        says(0, "SHEETS 0 to 3 are rows of sort 0 truths (0, 1), 1 16 bits, 2 32 bits, 3 64 bits (numbers with a sign), at most 60, or missing (as at first)", """
            number 0 0 = LOST
            number 3 0 = LOST
            sheet 0 0 60 = 1
            put 0 59 2 = 1
            number 0 59 = 1
            number 0 60 = LOST
            sheet 3 3 60 = 1
            put 3 59 LEAST = 1
            number 3 59 = LEAST
            sheet 3 3 61 = BEYOND
            number 3 59 = LEAST
            sheet 4 0 0 = BEYOND
            """);
        says(32, "A SHEET has n numbers, all 0, of a sort (0 to 3; -1: it is missing, n doesn't matter): 1", """
            sheet 0 0 0 = 1
            number 0 0 = LOST
            sheet 0 3 60 = 1
            put 0 59 7 = 1
            put 0 0 7 = 1
            sheet 0 3 60 = 1
            number 0 0 = 0
            number 0 59 = 0
            put 0 0 7 = 1
            sheet 0 3 1 = 1
            number 0 0 = 0
            number 0 1 = LOST
            sheet 0 -1 -1 = 1
            number 0 0 = LOST
            sheet 0 -1 61 = 1
            sheet 3 -1 MIN = 1
            sheet 3 -1 MAX = 1
            sheet 0 3 1 = 1
            number 0 0 = 0
            told 3 = 0
            """);
        says(32, "BEYOND: no such SHEET, sort", """
            sheet -1 0 0 = BEYOND
            sheet 4 0 0 = BEYOND
            sheet MIN 0 0 = BEYOND
            sheet MAX 0 0 = BEYOND
            sheet 4 -1 0 = BEYOND
            sheet 0 -2 0 = BEYOND
            sheet 0 4 0 = BEYOND
            sheet 0 MIN 0 = BEYOND
            sheet 0 MAX 0 = BEYOND
            sheet 4 0 -1 = BEYOND
            sheet 0 4 -1 = BEYOND
            sheet 0 -2 -1 = BEYOND
            number 0 0 = LOST
            """);
        says(32, "STATE: n is below 0", """
            tell 0 3 5
            sheet 0 0 -1 = STATE
            sheet 0 3 MIN = STATE
            number 0 0 = 5
            sheet 0 3 0 = 1
            told 3 = 2
            """);
        says(32, "BEYOND: n is above 60", """
            tell 0 3 5
            sheet 0 0 61 = BEYOND
            sheet 0 3 MAX = BEYOND
            number 0 0 = 5
            sheet 0 3 60 = 1
            told 1 = 2
            """);
    }

    private static void put() {
        says(33, "Number i of a SHEET becomes v (its lowest bits; of truths 1, if v isn't 0): 1", """
            tell 0 0 0 1 2 -1 65536 4294967296 LEAST GREATEST
            number 0 0 = 0
            number 0 1 = 1
            number 0 2 = 1
            number 0 3 = 1
            number 0 4 = 1
            number 0 5 = 1
            number 0 6 = 1
            number 0 7 = 1
            tell 1 1 32767 32768 65535 65536 -32768 -32769 LEAST GREATEST
            number 1 0 = 32767
            number 1 1 = -32768
            number 1 2 = -1
            number 1 3 = 0
            number 1 4 = -32768
            number 1 5 = 32767
            number 1 6 = 0
            number 1 7 = -1
            tell 2 2 2147483647 2147483648 4294967295 4294967296 -2147483648 -2147483649 LEAST GREATEST
            number 2 0 = 2147483647
            number 2 1 = -2147483648
            number 2 2 = -1
            number 2 3 = 0
            number 2 4 = -2147483648
            number 2 5 = 2147483647
            number 2 6 = 0
            number 2 7 = -1
            tell 3 3 LEAST GREATEST 0 -1
            number 3 0 = LEAST
            number 3 1 = GREATEST
            number 3 2 = 0
            number 3 3 = -1
            put 0 1 0 = 1
            number 0 1 = 0
            """);
        says(33, "BEYOND: no such SHEET", """
            put -1 0 0 = BEYOND
            put 4 0 0 = BEYOND
            put MIN 0 0 = BEYOND
            put MAX 0 0 = BEYOND
            put 4 -1 0 = BEYOND
            put 0 0 0 = LOST
            """);
        says(33, "LOST: it is missing, or there is no such number", """
            put 3 0 7 = LOST
            sheet 3 3 0
            put 3 0 7 = LOST
            sheet 3 3 60
            put 3 60 7 = LOST
            put 3 -1 7 = LOST
            put 3 MIN 7 = LOST
            put 3 MAX 7 = LOST
            put 3 59 7 = 1
            put 3 0 7 = 1
            sheet 3 3 1
            put 3 1 7 = LOST
            put 3 0 7 = 1
            sheet 3 -1 60
            put 3 0 7 = LOST
            told 7 = 8
            """);
    }

    private static void number() {
        says(34, "Number i of a SHEET", """
            sheet 0 3 60
            put 0 0 5
            put 0 59 6
            number 0 0 = 5
            number 0 1 = 0
            number 0 59 = 6
            tell 3 1 -9
            number 3 0 = -9
            """);
        says(34, "BEYOND: no such SHEET", """
            number -1 0 = BEYOND
            number 4 0 = BEYOND
            number MIN 0 = BEYOND
            number MAX 0 = BEYOND
            number 4 -1 = BEYOND
            """);
        says(34, "LOST: it is missing, or there is no such number", """
            number 0 0 = LOST
            sheet 0 3 0
            number 0 0 = LOST
            sheet 0 3 60
            number 0 60 = LOST
            number 0 -1 = LOST
            number 0 MIN = LOST
            number 0 MAX = LOST
            number 0 59 = 0
            sheet 0 2 1
            number 0 1 = LOST
            sheet 0 -1 1
            number 0 0 = LOST
            told 7 = 8
            """);
        says(34, "(A number may be as an ERROR is.)", """
            tell 0 3 -9000000000000000001 -9000000000000000007 -1000000001
            number 0 0 = -9000000000000000001
            number 0 1 = -9000000000000000007
            number 0 2 = -1000000001
            told 1 = 0
            told 7 = 0
            """);
    }

    private static void image() {
        says(35, "are kept as an IMAGE, in place of one ahead: how many have been worked", """
            image = 0
            restore = 0
            text a.a/.a.
            read = 3
            image = 0
            work 1 = 4
            image = 1
            back = 1
            restore = 1
            worked 0 = 1
            pairs 4
            image = 0
            restore = 0
            stitches 0 = 0
            new
            pairs 8
            rows 12 a.a.a.a
            read = 48
            fill 0 1 48 0 1
            works 0 = 48
            image = 48
            pairs 2
            restore = 48
            worked 47 = 47
            at 15 = 15
            back = 47
            at 15 = 13
            """);
        says(36, "All that is as the IMAGE has it, which stays: how many have been worked", """
            pairs 8
            text a.....f
            read = 2
            text TtTtTtTt
            spell 5
            wind 15 9999
            wind 0 0
            work 1 = 16
            image = 1
            tell 0 1 8
            pairs 2
            text c
            spell 5
            wind 0 7
            lay 11 0 5
            text zz
            restore = 1
            count 0 = 8
            stitches 0 = 2
            stitch 1 1 = 6
            orders = 2
            thread 15 6 = 8
            look 0 6 = 5
            look 11 0 = -1
            word 5 0 = 8
            thread 15 0 = 9999
            thread 0 0 = 0
            work 0 = LACK
            worked 0 = 1
            lace 0 0 = 16
            count 1 = 2
            number 0 0 = 8
            told 6 = 1
            back = 1
            back = NONE
            restore = 1
            told 2 = 1
            new
            text a.a
            read = 2
            work 1 = 4
            work 0 = 4
            image = 2
            back = 0
            back = 1
            work 0 = 4
            work 1 = 4
            restore = 2
            worked 0 = 1
            worked 1 = 0
            """);
        says(36, "NONE: there is none", """
            restore = NONE
            lay 0 0 0
            work 0 = 4
            restore = NONE
            stitches 5 = 1
            image = 1
            restore = 1
            told 2 = 2
            """);
    }

    private static void alike() {
        says(37, "have the same CROSSINGS in the same LAYERS as those of THE WORK that the IMAGE has: 1, 0", """
            image = 0
            alike = 1
            pairs 8
            alike = 1
            text a.....a
            read = 2
            alike = 1
            work 0 = 4
            alike = 0
            image = 1
            alike = 1
            work 1 = 4
            alike = 0
            back = 1
            alike = 1
            back = 0
            work 1 = 4
            alike = 0
            image = 1
            pairs 8
            alike = 0
            new
            text cC
            spell 0
            lay 0 0 0
            image = 0
            work 0 = 2
            alike = 1
            text c
            spell 0
            work 0 = 1
            alike = 0
            image = 1
            text C
            spell 0
            work 0 = 1
            alike = 0
            text cCc
            spell 0
            work 0 = 3
            alike = 1
            text cc
            spell 0
            work 0 = 2
            alike = 0
            """);
        says(37, "NONE: there is no IMAGE", """
            alike = NONE
            lay 0 0 0
            work 0 = 4
            alike = NONE
            image = 1
            alike = 1
            told 2 = 2
            """);
        says(37, "in the same LAYERS", """
            pairs 8
            text TTTTTTTT
            spell 0
            text TTTTTTTc
            spell 1
            rows 11 ......a
            text /......a
            read = 12
            fill 0 1 12 0 1
            works 0 = 12
            image = 12
            rows 11 ......a
            text /......b
            read = 12
            works 0 = 12
            alike = 0
            rows 12 ......a
            read = 12
            alike = 0
            works 0 = 12
            alike = 1
            """);
    }

    private static void count() {
        says(38, "0 PAIRS, 1 bytes on THE TAPE, 2 all that is LEFT together, 3 all that is WOUND together, 4 CROSSINGS of THE WORK, 5 THREADS that lie at their own PLACES in THE WORK", """
            pairs 2
            count 0 = 2
            count 1 = 0
            count 2 = 800
            count 3 = 800
            count 4 = 0
            count 5 = 4
            wind 0 0
            wind 1 0
            wind 2 0
            wind 3 0
            count 2 = 0
            count 3 = 0
            bytes 120 7
            count 1 = 120
            new
            pairs 8
            wind 0 9999
            wind 1 9999
            wind 2 9999
            wind 3 9999
            wind 4 9999
            wind 5 9999
            wind 6 9999
            wind 7 9999
            wind 8 9999
            wind 9 9999
            wind 10 9999
            wind 11 9999
            wind 12 9999
            wind 13 9999
            wind 14 9999
            wind 15 9999
            count 2 = 159984
            count 3 = 159984
            text tttttttt
            spell 0
            rows 12 a.a.a.a
            read = 48
            fill 0 1 48 0 1
            works 0 = 48
            count 2 = 157488
            count 3 = 159984
            count 4 = 768
            count 5 = 16
            new
            text b.b
            read = 2
            count 5 = 8
            work 0 = 3
            count 5 = 4
            work 1 = 3
            count 5 = 0
            """);
        says(38, "BEYOND", """
            count -1 = BEYOND
            count 6 = BEYOND
            count MIN = BEYOND
            count MAX = BEYOND
            count 5 = 8
            """);
    }

    private static void told() {
        says(39, "How many acts have answered an ERROR LOW - k (k 1 to 7; of longs likewise)", """
            told 1 = 0
            told 7 = 0
            look 12 0 = BEYOND
            rank 4 = BEYOND
            told 1 = 2
            told 1 = 2
            back = NONE
            told 2 = 1
            sheet 0 0 -1 = STATE
            sheet 0 3 1
            rank 0 = STATE
            told 3 = 2
            bytes 120 0
            feed 0 = FULL
            read = -10
            pairs 8
            rows 5 a.a.a.a
            read = 20
            lay 5 0 0
            orders = FULL
            told 4 = 2
            told 5 = 0
            wind 0 0
            work 0 = LACK
            told 6 = 1
            number 1 0 = LOST
            put 1 0 0 = LOST
            told 7 = 2
            told 1 = 2
            """);
        says(39, "BEYOND: another k (counted, too)", """
            told 0 = BEYOND
            told 1 = 1
            told 8 = BEYOND
            told -1 = BEYOND
            told MIN = BEYOND
            told MAX = BEYOND
            told 1 = 5
            told 7 = 0
            """);
    }

    /** What one object is told, another one doesn't know. */
    private static void twoObjects() {
        Run one = new Run();
        Run other = new Run();
        for (Call c : List.of(new Call("pairs", new long[] {8}), new Call("lay", new long[] {0, 6, 5}),
                new Call("wind", new long[] {0, 9}), new Call("sheet", new long[] {0, 3, 5}), new Call("feed", new long[] {99}),
                new Call("spell", new long[] {0}), new Call("work", new long[] {0}), new Call("image", new long[] {}),
                new Call("back", new long[] {}), new Call("told", new long[] {0}))) one.call(c);
        long[] asked = {other.call("count", 0), other.call("stitches", 0), other.call("thread", 0, 0), other.call("number", 0, 0),
            other.call("count", 1), other.call("word", 0, 0), other.call("restore"), other.call("told", 1)};
        long[] dues = {4, 0, 200, error("number", 7), 0, 3, error("restore", 2), 0};
        if (!Arrays.equals(asked, dues)) fault("two objects: " + Arrays.toString(asked));
    }

    /** 'An object is used for at most 512 calls': the last of them still answers as it must. */
    private static void lastCall() {
        Run run = new Run();
        for (int i = 0; i < MOST_CALLS - 1; i++) run.call(i % 2 == 0 ? "look" : "number", 12, 0);
        if (run.call("told", 1) != MOST_CALLS - 1) fault("the 512th call");
    }

    private static final long[] FAR = {Long.MIN_VALUE, Integer.MIN_VALUE, -9, -2, -1, 0, 1, 2, 3, 5, 6, 7, 11, 12, 15, 16,
        20, 47, 48, 60, 61, 96, 255, 256, 9999, Integer.MAX_VALUE, Long.MAX_VALUE};

    /** No call may ever throw, for any arguments in any state; Run.call tells if one does. */
    private static void neverThrows() {
        List<String> names = new ArrayList<>(CALLS.keySet());
        java.util.Collections.sort(names);
        java.util.Random random = new java.util.Random(39);
        for (int turn = 0; turn < 2000; turn++) {
            Run run = new Run();
            run.call("pairs", 2 + turn % 7);
            for (int i = 0; i < 30; i++) run.call("lay", random.nextInt(12), random.nextInt(7), random.nextInt(6));
            for (int sheet = 0; sheet < 4; sheet++) run.call("sheet", sheet, sheet, random.nextInt(61));
            while (run.calls.size() < 300) {
                String name = names.get(random.nextInt(names.size()));
                Method m = CALLS.get(name);
                long[] arguments = new long[m.getParameterCount()];
                for (int i = 0; i < arguments.length; i++) {
                    long v = FAR[random.nextInt(FAR.length)];
                    arguments[i] = m.getParameterTypes()[i] == long.class ? v : (int) v;
                }
                run.call(name, arguments);
            }
        }
    }

    public static void main(String[] args) throws IOException {
        for (Method m : LacePillow.class.getMethods()) if (m.getDeclaringClass() == LacePillow.class) CALLS.put(m.getName(), m);
        readDocument();
        errors();
        pairsAndPlaces();
        letters();
        prickingTerms();
        workTerms();
        allTerms();
        laceTerms();
        newObject();
        pairs();
        lay();
        look();
        feedBytes();
        read();
        spell();
        word();
        letter();
        stitches();
        stitch();
        ahead();
        orders();
        rank();
        work();
        works();
        back();
        worked();
        at();
        wind();
        thread();
        place();
        rounds();
        link();
        meet();
        lacks();
        lace();
        layer();
        repeat();
        motif();
        sheet();
        put();
        number();
        image();
        alike();
        count();
        told();
        twoObjects();
        lastCall();
        neverThrows();
        allAsked();
        System.out.println(wrong == 0 ? "BoundsTest: all answers are as due" : "BoundsTest: " + wrong + " faults");
        if (wrong != 0) System.exit(1);
    }
}
