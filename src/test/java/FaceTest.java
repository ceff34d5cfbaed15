import com.sun.management.ThreadMXBean;
import java.io.IOException;
import java.lang.management.ManagementFactory;
import java.lang.reflect.Constructor;
import java.lang.reflect.Field;
import java.lang.reflect.Method;
import java.lang.reflect.Modifier;
import java.nio.file.Files;
import java.nio.file.Path;
import java.util.Arrays;
import java.util.Set;
import java.util.TreeSet;
import java.util.regex.Matcher;
import java.util.regex.Pattern;

/** The public face, the rules of LANGUAGE.md that can be seen in the text or by reflection, and the room. */
public final class FaceTest {
    private static final String[] METHODS = {
        "int row(int, int, int)", "int set(int, int, int)", "int copy(int, int, int, int, int)", "int drop(int)",
        "int feed(int)", "int camp()", "int fault()", "int undo()", "int hours(int)", "int give(int, int)",
        "int play(int, int)", "int soup(int, int)", "int bars(int, int)", "int rule(int, int)", "int hand(int, int)",
        "int stand(int)", "int ahead(int, int)", "int strong(int, int)", "int barred(int)", "int when(int)",
        "int first(int)", "int hands(int, int, int)", "int rota(int, int)", "int cover(int, int)", "int fall(int)",
        "int byTurns(int, int, int)", "int share(int, int)", "int who(int, int, int, int, int)",
        "int felt(int, int, int, int, int)", "long sleep(int, int, int, int)", "int drawn(int, int, int)",
        "int image(int)", "int restore(int)", "int kind(int)", "int as(int, int)", "int ask(int, int)",
        "int trace(int)", "int count(int)", "int status()",
    };
    private static final String[] CONSTANTS = {"NONE", "BAD", "STATE", "FULL"};
    private static final int MOST_METHOD_LINES = 60;

    private static final Checks CHECKS = new Checks();

    private FaceTest() {
    }

    public static void main(String[] args) throws IOException {
        CHECKS.part("face");
        methods();
        fields();
        constructors();
        CHECKS.part("language");
        names();
        sizes();
        text(Files.readString(Path.of("src/main/java/JingleLaws.java")));
        CHECKS.part("room");
        room();
        CHECKS.end();
    }

    private static void dueTrue(String what, boolean is) {
        CHECKS.due(what, is ? 1 : 0, 1);
    }

    private static String signature(Method method) {
        String types = Arrays.toString(Arrays.stream(method.getParameterTypes()).map(Class::getName).toArray());
        return method.getReturnType().getName() + " " + method.getName() + "("
            + types.substring(1, types.length() - 1) + ")";
    }

    private static void methods() {
        Set<String> due = new TreeSet<>(Arrays.asList(METHODS));
        Set<String> there = new TreeSet<>();
        for (Method method : JingleLaws.class.getDeclaredMethods()) {
            if (Modifier.isPublic(method.getModifiers())) {
                there.add(signature(method));
                dueTrue(method + " is no static one", !Modifier.isStatic(method.getModifiers()));
            } else {
                dueTrue(method + " is private", Modifier.isPrivate(method.getModifiers()));
            }
        }
        dueTrue("methods " + there + " as " + due, there.equals(due));
        dueTrue("the class is final", Modifier.isFinal(JingleLaws.class.getModifiers()));
    }

    private static void fields() {
        for (Field field : JingleLaws.class.getDeclaredFields()) {
            boolean isConstant = Arrays.asList(CONSTANTS).contains(field.getName());
            int modifiers = field.getModifiers();
            dueTrue(field + " is as the face has it", isConstant == Modifier.isPublic(modifiers));
            dueTrue(field + " is public or private", isConstant || Modifier.isPrivate(modifiers));
            dueTrue(field + " is final, if static", !Modifier.isStatic(modifiers) || Modifier.isFinal(modifiers));
        }
    }

    private static void constructors() {
        Constructor<?>[] all = JingleLaws.class.getDeclaredConstructors();
        CHECKS.due("constructors", all.length, 1);
        dueTrue("public, without arguments", Modifier.isPublic(all[0].getModifiers()) && all[0].getParameterCount() == 0);
    }

    private static void names() {
        Set<String> face = new TreeSet<>();
        for (String method : METHODS) {
            face.add(method.substring(method.indexOf(' ') + 1, method.indexOf('(')));
        }
        for (Class<?> inside : JingleLaws.class.getDeclaredClasses()) {
            dueTrue(inside + " is static", Modifier.isStatic(inside.getModifiers()));
            dueTrue(inside + " is not public", !Modifier.isPublic(inside.getModifiers()));
            for (Method method : inside.getDeclaredMethods()) {
                dueTrue(method + " has a name of its own", !face.contains(method.getName()));
                dueTrue(method + " has seven parameters at most", method.getParameterCount() <= 7);
            }
            dueTrue(inside + " has 20 fields at most", inside.getDeclaredFields().length <= 20);
        }
    }

    private static void sizes() {
        dueTrue("twelve classes at most", JingleLaws.class.getDeclaredClasses().length < 12);
        long own = Arrays.stream(JingleLaws.class.getDeclaredFields())
            .filter(field -> !Modifier.isStatic(field.getModifiers())).count();
        dueTrue("20 fields at most", own <= 20);
    }

    private static void text(String source) {
        String code = source.replaceAll("(?s)/\\*.*?\\*/", "").replaceAll("//[^\n]*", "");
        String[] banned = {"\\bthrow\\b", "\\bthrows\\b", "\\btry\\b", "\\bcatch\\b", "\\bsynchronized\\b", "\\bassert\\b",
            "->", "::", "\\bprotected\\b", "\\bpackage\\b", "\\bwhile\\b", "\\bvar\\b", "\\bExact\\b", "\\bdouble\\b",
            "\\bfloat\\b", "\\bObject\\b", "\\bimport (?!java\\.util\\.Arrays;)", "\\bSystem\\.(?!arraycopy)",
            "\\bMath\\.(?!min|max)", "\\bInteger\\.(?!bitCount|numberOfTrailingZeros)", "\\bArrays\\.(?!fill)"};
        for (String word : banned) {
            Matcher found = Pattern.compile(word).matcher(code);
            dueTrue("there is no " + word, !found.find());
        }
        dueTrue("signs 1 to 127", source.chars().allMatch(sign -> sign > 0 && sign < 128));
        methodLengths(source);
    }

    private static void methodLengths(String source) {
        String head = "";
        int indent = -1;
        int lines = 0;
        for (String line : source.split("\n")) {
            int spaces = line.length() - line.stripLeading().length();
            lines++;
            if (indent < 0 && line.endsWith(") {") && (spaces == 4 || spaces == 8)) {
                head = line.strip();
                indent = spaces;
                lines = 1;
            } else if (spaces == indent && line.strip().equals("}")) {
                dueTrue(head + " is short", lines <= MOST_METHOD_LINES);
                indent = -1;
            }
        }
    }

    /** Every call makes nothing; a new object is small. */
    private static void room() {
        ThreadMXBean threads = (ThreadMXBean) ManagementFactory.getThreadMXBean();
        JingleLaws x = Checks.told("f60;h20;h9;h20;h20;h3;s60,9,63;g60,9,63;w60,9,63;l60,9,63;s60,9,63;");
        // The machine itself makes some things at times, and for the measure: what the calls make is made each time.
        long least = Long.MAX_VALUE;
        long leastOfNone = Long.MAX_VALUE;
        for (int i = 0; i < 20; i++) {
            long ahead = threads.getCurrentThreadAllocatedBytes();
            leastOfNone = Math.min(leastOfNone, threads.getCurrentThreadAllocatedBytes() - ahead);
            ahead = threads.getCurrentThreadAllocatedBytes();
            everyCall(x);
            least = Math.min(least, threads.getCurrentThreadAllocatedBytes() - ahead);
        }
        CHECKS.due("bytes made by calls", least - leastOfNone, 0);
        long ahead = threads.getCurrentThreadAllocatedBytes();
        JingleLaws y = new JingleLaws();
        long made = threads.getCurrentThreadAllocatedBytes() - ahead;
        dueTrue("a new object has some 2000 elements, it takes " + made, made < 16000 && y.count(0) == 0);
    }

    private static long everyCall(JingleLaws x) {
        long sum = x.row(0, 0, 40) + x.row(1, 0, 40) + x.set(0, 1, 2) + x.copy(0, 0, 1, 0, 9);
        sum += x.drop(1) + x.feed('f') + x.camp() + x.fault() + x.undo() + x.hours(5) + x.give(0, 9) + x.play(0, 1);
        sum += x.soup(0, 1) + x.bars(0, 3) + x.undo();
        for (int what = 0; what < 5; what++) {
            sum += x.rule(0, what) + x.hand(0, what) + x.stand(what) + x.who(0, what, 0, 0, 12) + x.count(what);
            sum += x.first(what) + x.ask(what, 0) + x.ask(what, 1) + x.trace(what) + x.as(what, 1) + x.kind(what);
        }
        sum += x.ahead(0, 60) + x.strong(0, 60) + x.barred(60) + x.when(0) + x.hands(0, 30, 0) + x.rota(12, -1);
        sum += x.cover(63, 0) + x.fall(63) + x.byTurns(0, 4, 20) + x.share(0, 999) + x.felt(0, 0, 0, 0, 12);
        return sum + x.sleep(0, 60, 5, 0) + x.drawn(60, 9, 0) + x.image(0) + x.restore(0) + x.status();
    }
}
