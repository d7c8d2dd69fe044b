import java.io.IOException;
import java.lang.management.ManagementFactory;
import java.lang.reflect.Constructor;
import java.lang.reflect.Field;
import java.lang.reflect.Method;
import java.lang.reflect.Modifier;
import java.nio.file.Files;
import java.nio.file.Path;
import java.util.ArrayDeque;
import java.util.Deque;
import java.util.List;
import java.util.Random;
import java.util.Set;
import java.util.TreeSet;
import java.util.regex.Matcher;
import java.util.regex.Pattern;

/** The face of the class, the rules of its language, and that no call ever throws or takes room. */
public final class FaceTest {
    private static final String[] FACE = {"worth 2", "common 2", "pupil 1", "point 4", "pupilOf 2", "paper 1",
        "drawn 2", "drop 0", "curve 2", "curveOf 2", "turn 2", "by 2", "mark 2", "place 2", "sum 2", "middle 1",
        "keeps 1", "breaks 1", "heaped 1", "gains 1", "gainsBy 2", "moves 2", "without 2", "pass 2", "line 2",
        "heap 2", "kindest 1", "byFor 2", "letters 3", "lean 0", "right 1", "unlike 1", "counts 1", "heavy 0",
        "seed 1", "feed 2", "wipe 0", "text 0", "hold 2", "as 2", "sheet 3", "write 3", "copy 5", "load 3",
        "judge 2", "image 0", "undo 0", "tear 0", "count 1", "status 1"};
    private static final int[] WILD = {Integer.MIN_VALUE, Integer.MIN_VALUE + 1, -1000001, -401, -129, -41, -13,
        -2, -1, 0, 1, 2, 3, 4, 5, 6, 7, 8, 9, 10, 11, 12, 13, 16, 32, 40, 41, 100, 101, 255, 320, 400, 401,
        Integer.MAX_VALUE - 40, Integer.MAX_VALUE - 1, Integer.MAX_VALUE};

    private static final Due due = new Due();

    public static void main(String[] args) throws IOException {
        face();
        noOtherMembers();
        source(Files.readString(Path.of("src/main/java/MarkCurves.java")));
        wildCallsEnd();
        littleRoomIsTaken();
        due.end();
    }

    private static void face() {
        Set<String> want = new TreeSet<>(List.of(FACE));
        Set<String> got = new TreeSet<>();
        for (Method m : MarkCurves.class.getDeclaredMethods()) {
            if (Modifier.isPublic(m.getModifiers())) {
                got.add(m.getName() + " " + m.getParameterCount());
                due.that(m + " answers an int", m.getReturnType() == int.class);
                for (Class<?> type : m.getParameterTypes()) {
                    due.that(m + " takes ints", type == int.class);
                }
                due.that(m + " is the object's", !Modifier.isStatic(m.getModifiers()));
            }
        }
        due.that("the face is " + want + ", not " + got, want.equals(got));
        due.that("the class is final", Modifier.isFinal(MarkCurves.class.getModifiers()));
        due.that("the class is public", Modifier.isPublic(MarkCurves.class.getModifiers()));
        Constructor<?>[] constructors = MarkCurves.class.getDeclaredConstructors();
        due.is("constructors", constructors.length, 1);
        due.that("a public one", Modifier.isPublic(constructors[0].getModifiers()));
        due.is("without parameters", constructors[0].getParameterCount(), 0);
    }

    private static void noOtherMembers() {
        Set<String> names = new TreeSet<>();
        for (String signature : FACE) {
            names.add(signature.substring(0, signature.indexOf(' ')));
        }
        due.is("names of the face", names.size(), Calls.ACTS);
        for (Method m : MarkCurves.class.getDeclaredMethods()) {
            if (!Modifier.isPublic(m.getModifiers())) {
                due.that(m + " is private", Modifier.isPrivate(m.getModifiers()));
                due.that(m + " has a name of its own", !names.contains(m.getName()));
            }
        }
        for (Field f : MarkCurves.class.getDeclaredFields()) {
            due.that(f + " is private", Modifier.isPrivate(f.getModifiers()));
        }
        for (Class<?> inside : MarkCurves.class.getDeclaredClasses()) {
            due.that(inside + " is static", Modifier.isStatic(inside.getModifiers()));
            due.that(inside + " is not public", !Modifier.isPublic(inside.getModifiers()));
            for (Method m : inside.getDeclaredMethods()) {
                boolean hidden = Modifier.isPrivate(m.getModifiers());
                due.that(m + " has a name of its own", !hidden || !names.contains(m.getName()));
                due.that(m + " has few parameters", m.getParameterCount() <= 7);
            }
            staticFieldsAreFinal(inside);
        }
        staticFieldsAreFinal(MarkCurves.class);
    }

    private static void staticFieldsAreFinal(Class<?> type) {
        int own = 0;
        for (Field f : type.getDeclaredFields()) {
            if (Modifier.isStatic(f.getModifiers())) {
                due.that(f + " is final", Modifier.isFinal(f.getModifiers()));
            } else {
                own++;
            }
        }
        due.that(type + " has some twenty fields at most", own <= 22);
    }

    private static void source(String text) {
        String code = text.replaceAll("(?s)/\\*.*?\\*/", "").replaceAll("//[^\n]*", "");
        due.that("signs 1 to 127 alone", code.chars().allMatch(c -> c > 0 && c < 128));
        code = code.replaceAll("'(\\\\.|[^'])*'", "' '").replaceAll("\"(\\\\.|[^\"])*\"", "\" \"");
        String[] ruledOut = {"throw\\b", "throws\\b", "try\\b", "catch\\b", "synchronized\\b", "assert\\b",
            "package\\b", "System\\.(?!arraycopy)", "\\w*Exact\\b", "hashCode\\b", "equals\\s*\\(\\s*Object", "Random\\b",
            "Thread\\b", "import static\\b"};
        for (String word : ruledOut) {
            due.that("no " + word, !Pattern.compile("\\b" + word).matcher(code).find());
        }
        due.that("no lambda", !Pattern.compile("\\)\\s*->|\\w\\s*->\\s*\\{?\\s*return").matcher(code).find());
        due.that("no method reference", !code.contains("::"));
        Matcher imports = Pattern.compile("import ([^;]*);").matcher(code);
        while (imports.find()) {
            due.that("import " + imports.group(1),
                    imports.group(1).matches("java\\.util\\.(Arrays|ArrayList|List|Iterator)"));
        }
        methodsAreShort(code);
    }

    /** A block is a method's if what stands ahead of it ends with parameters and isn't a statement. */
    private static void methodsAreShort(String code) {
        Deque<Integer> begins = new ArrayDeque<>();
        Deque<String> heads = new ArrayDeque<>();
        int line = 1;
        StringBuilder head = new StringBuilder();
        int methods = 0;
        for (char c : code.toCharArray()) {
            line += c == '\n' ? 1 : 0;
            if (c == '{') {
                begins.push(line);
                heads.push(head.toString().trim());
            } else if (c == '}' && !begins.isEmpty()) {
                int lines = line - begins.pop() + 1;
                String of = heads.pop();
                boolean statement = of.matches("(?s)(else\\s+)?(if|for|while|switch|catch|do)\\b.*");
                if (of.endsWith(")") && !statement) {
                    methods++;
                    due.that("a method of " + lines + " lines: " + of, lines <= 65);
                }
            }
            head.append(c);
            if (c == '{' || c == '}' || (c == ';' && !isInParentheses(head))) {
                head.setLength(0);
            }
        }
        due.that("blocks end", begins.isEmpty());
        due.that("there are " + methods + " methods", methods > Calls.ACTS);
    }

    private static boolean isInParentheses(StringBuilder head) {
        return head.chars().filter(c -> c == '(').count() > head.chars().filter(c -> c == ')').count();
    }

    /** An object is used for 512 calls; within these every call ends with an answer. */
    private static void wildCallsEnd() {
        Random random = new Random(5);
        for (int run = 0; run < 1200; run++) {
            MarkCurves x = new MarkCurves();
            for (int call = 0; call < 512; call++) {
                int act = 1 + random.nextInt(Calls.ACTS);
                int[] a = new int[5];
                for (int i = 0; i < 5; i++) {
                    a[i] = random.nextInt(3) == 0 ? random.nextInt(12) : WILD[random.nextInt(WILD.length)];
                }
                if (!answers(x, act, a)) {
                    return;
                }
            }
        }
    }

    private static boolean answers(MarkCurves x, int act, int[] a) {
        try {
            int got = Calls.ask(x, act, a[0], a[1], a[2], a[3], a[4]);
            boolean finding = got < -1000000 && act != 35 && !(act == 49 && a[0] == 4);
            due.that("a finding that there is: " + got, !finding || got >= Due.SIZE);
            return true;
        } catch (RuntimeException e) {
            due.that("act " + act + " threw " + e, false);
            return false;
        }
    }

    /** All calls of one run live in one room, so those of one object leave most of it to others. */
    private static void littleRoomIsTaken() {
        com.sun.management.ThreadMXBean room =
                (com.sun.management.ThreadMXBean) ManagementFactory.getThreadMXBean();
        MarkCurves warm = Due.fourPupils();
        askEachAct(warm, 4);
        long before = room.getCurrentThreadAllocatedBytes();
        MarkCurves x = Due.fourPupils();
        Due.feed(x, "question 0 worth 20;common 0 30;bent by 4;pupil 1 2");
        askEachAct(x, 8);
        long taken = room.getCurrentThreadAllocatedBytes() - before;
        due.that("512 calls took " + taken + " bytes", taken < 500_000);
    }

    private static void askEachAct(MarkCurves x, int rounds) {
        for (int round = 0; round < rounds; round++) {
            for (int act = 1; act <= Calls.ACTS; act++) {
                Calls.ask(x, act, 0, round & 3, 1, 0, 1);
            }
        }
    }
}
