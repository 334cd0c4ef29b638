import com.sun.management.ThreadMXBean;
import java.io.IOException;
import java.lang.management.ManagementFactory;
import java.lang.reflect.Constructor;
import java.lang.reflect.Field;
import java.lang.reflect.Method;
import java.lang.reflect.Modifier;
import java.nio.file.Files;
import java.nio.file.Path;
import java.util.Set;
import java.util.TreeSet;
import java.util.regex.Matcher;
import java.util.regex.Pattern;

/** The rules of LANGUAGE.md that a test can see: the face, words that may not stand, sizes, the room. */
public final class RulesTest {
    private static final String FACE = "pairs(int) lay(int,int,int) look(int,int) feed(int) read() spell(int) "
            + "word(int,int) letter(int,int) stitches(int) stitch(int,int) ahead(int,int) long:orders() "
            + "order(long,int) long:rank(int) work(int) works(int) back() worked(int) at(int) wind(int,int) "
            + "thread(int,int) place(int,int) long:rounds() link(int,int) meet(int,int) lacks(int) lace(int,int) "
            + "layer(int,int,int) repeat() motif(int,int,int) sheet(int,int,int) put(int,int,long) "
            + "long:number(int,int) image() restore() alike() count(int) told(int)";
    private static final String BANNED = "\\b(throw|throws|try|catch|synchronized|assert|protected|instanceof|Object|"
            + "Thread|Random|double|float|native|volatile|transient|strictfp|var|goto)\\b|->|::|@";

    private static int wrong = 0;

    private static void due(String what, boolean holds) {
        if (!holds) {
            wrong++;
            System.out.println("against the rules: " + what);
        }
    }

    private static void face() {
        Class<LacePillow> type = LacePillow.class;
        due("a public final class", Modifier.isPublic(type.getModifiers()) && Modifier.isFinal(type.getModifiers()));
        Constructor<?>[] made = type.getDeclaredConstructors();
        due("one public constructor", made.length == 1 && Modifier.isPublic(made[0].getModifiers()) && made[0].getParameterCount() == 0);
        Set<String> found = new TreeSet<>();
        Set<String> names = new TreeSet<>();
        for (Method m : type.getDeclaredMethods()) {
            if (Modifier.isPrivate(m.getModifiers())) continue;
            due("public: " + m, Modifier.isPublic(m.getModifiers()) && !Modifier.isStatic(m.getModifiers()));
            StringBuilder text = new StringBuilder(m.getReturnType() == int.class ? "" : m.getReturnType() + ":");
            text.append(m.getName()).append('(');
            for (Class<?> p : m.getParameterTypes()) text.append(text.charAt(text.length() - 1) == '(' ? "" : ",").append(p);
            found.add(text.append(')').toString());
            names.add(m.getName());
        }
        due("the face, but: " + found, found.equals(new TreeSet<>(Set.of(FACE.split(" ")))));
        for (Field f : type.getDeclaredFields()) due("private: " + f, Modifier.isPrivate(f.getModifiers()));
        insides(type, names);
        for (Class<?> inside : type.getDeclaredClasses()) {
            due("static: " + inside, Modifier.isStatic(inside.getModifiers()) && Modifier.isPrivate(inside.getModifiers()));
            due("no class inside " + inside, inside.getDeclaredClasses().length == 0);
            insides(inside, names);
        }
        due("few classes", type.getDeclaredClasses().length <= 11);
    }

    private static void insides(Class<?> type, Set<String> names) {
        int fields = 0;
        for (Field f : type.getDeclaredFields()) {
            boolean constant = Modifier.isStatic(f.getModifiers());
            due("final: " + f, !constant || Modifier.isFinal(f.getModifiers()));
            fields += constant ? 0 : 1;
        }
        due("few fields: " + type, fields <= 20);
        for (Method m : type.getDeclaredMethods()) {
            due("few parameters: " + m, m.getParameterCount() <= 7);
            boolean ofFace = type == LacePillow.class && Modifier.isPublic(m.getModifiers());
            due("a name of its own: " + m, ofFace || !names.contains(m.getName()));
        }
    }

    private static void source() throws IOException {
        String text = Files.readString(Path.of("src/main/java/LacePillow.java"));
        due("no sign above 126", text.chars().allMatch(b -> b == '\n' || b >= 32 && b <= 126));
        String code = text.replaceAll("(?s)/\\*.*?\\*/", "").replaceAll("//[^\n]*", "");
        Matcher word = Pattern.compile(BANNED).matcher(code);
        while (word.find()) due("'" + word.group() + "'", false);
        Matcher imported = Pattern.compile("\\bimport ([^;]*);").matcher(code);
        while (imported.find()) due("import " + imported.group(1), imported.group(1).equals("java.util.Arrays"));
        due("no package", !Pattern.compile("(?m)^package\\b").matcher(code).find());
        int length = 0;
        for (String line : text.split("\n")) {
            length = line.matches(" {4}( {4})?\\S.*\\{") ? 0 : length + 1;
            if (line.matches(" {4}( {4})?\\}")) due("a method of " + length + " lines", length <= 60);
        }
    }

    /** All calls of a run make next to nothing: rows are made by the constructor. */
    private static void room() {
        ThreadMXBean bean = (ThreadMXBean) ManagementFactory.getThreadMXBean();
        long[] made = new long[2];
        for (int turn = 0; turn < 2; turn++) {
            long before = bean.getThreadAllocatedBytes(Thread.currentThread().getId());
            LacePillow x = new LacePillow();
            long between = bean.getThreadAllocatedBytes(Thread.currentThread().getId());
            everyCall(x);
            long after = bean.getThreadAllocatedBytes(Thread.currentThread().getId());
            made[0] = between - before;
            made[1] = after - between;
        }
        due("a new object of " + made[0] + " bytes", made[0] < 100000);
        due("calls that made " + made[1] + " bytes", made[1] < 2000);
    }

    private static void everyCall(LacePillow x) {
        x.pairs(8);
        for (int row = 0; row < 5; row++) for (int gap = 0; gap < 7; gap += 2) x.lay(row, gap, row);
        x.sheet(0, 1, 20);
        for (int i = 0; i < 20; i++) x.put(0, i, x.order(5, i));
        x.rank(0);
        x.orders();
        x.works(0);
        x.image();
        x.back();
        x.work(0);
        x.restore();
        x.alike();
        for (int what = 0; what < 8; what++) {
            x.stitches(what);
            x.stitch(3, what);
            x.thread(3, what);
            x.word(2, what);
            x.lace(1, what);
            x.layer(1, what, what);
            x.lacks(what);
            x.count(what);
            x.told(what);
        }
        x.number(0, 0);
        x.ahead(0, 5);
        x.worked(0);
        x.at(0);
        x.wind(0, 5);
        x.place(0, 5);
        x.rounds();
        x.link(0, 1);
        x.meet(0, 1);
        x.repeat();
        x.motif(0, 2, 0);
        x.look(0, 0);
        x.feed('c');
        x.spell(0);
        x.letter(0, 0);
        x.read();
    }

    public static void main(String[] args) throws IOException {
        face();
        source();
        room();
        System.out.println(wrong == 0 ? "RulesTest: all rules are kept" : "RulesTest: " + wrong + " faults");
        if (wrong != 0) System.exit(1);
    }
}
