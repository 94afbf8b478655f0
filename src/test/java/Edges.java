import java.lang.reflect.Method;
import java.nio.file.Files;
import java.nio.file.Path;
import java.util.Arrays;
import java.util.Comparator;
import java.util.TreeMap;
import java.util.TreeSet;

/**
 * What the edge tests share. Each test is a static method without parameters that first names, by at(),
 * the words of the document it is about: run() calls them all, and fails where the words don't stand
 * in the document, where a promise has no test, or where a finding that a promise names is never answered.
 */
abstract class Edges {
    static final int BEYOND = -1000001, FULL = -1000002, KIND = -1000003, NONE = -1000004,
        STATE = -1000005, MISSING = -1000006, SIZE = -1000007;
    static final int LEAST = Integer.MIN_VALUE, MOST = Integer.MAX_VALUE;
    /** The document's terms, as if they were a promise. */
    static final int TERMS = 0;

    private static final Path DOCUMENT = Path.of("../shared/DOC.md");
    private static final String[] FINDINGS = {"BEYOND", "FULL", "KIND", "NONE", "STATE", "MISSING", "SIZE"};

    interface Made { CarpetLane lane(); }
    interface Call { long on(CarpetLane x); }
    interface CallOf { Call with(int v); }

    private static final TreeMap<Integer, String> SECTIONS = new TreeMap<>();
    private static final TreeMap<Integer, TreeSet<String>> ANSWERED = new TreeMap<>();
    private static int wrong = 0;
    private static int promise = -1;
    private static String words = "";

    // ---- the run

    static void run(Class<?> tests, int first, int last) throws Exception {
        readDocument();
        Method[] methods = tests.getDeclaredMethods();
        Arrays.sort(methods, Comparator.comparing(Method::getName));
        for (Method m : methods) {
            if (m.getParameterCount() > 0 || m.isSynthetic() || m.getReturnType() != void.class) continue;
            promise = -1;
            words = m.getName();
            m.setAccessible(true);
            m.invoke(null);
            if (promise < 0) say(m.getName() + " names no words of the document");
        }
        for (int p = first; p <= last; p++) isWhole(p);
        System.out.println(wrong == 0 ? "the edges of " + first + " to " + last + " hold" : wrong + " edges don't hold");
        if (wrong != 0) System.exit(1);
    }

    private static void readDocument() throws Exception {
        String[] parts = Files.readString(DOCUMENT).split("(?m)^## ");
        for (String part : parts) {
            String text = part.replaceAll("\\s+", " ");
            if (text.startsWith("Terms")) SECTIONS.put(TERMS, text);
            if (text.startsWith("Promise ")) SECTIONS.put(Integer.parseInt(text.substring(8, text.indexOf(':'))), text);
        }
    }

    private static void isWhole(int p) {
        TreeSet<String> answered = ANSWERED.get(p);
        if (answered == null) {
            say("promise " + p + " has no test");
            return;
        }
        if (p == TERMS) return;
        for (String finding : FINDINGS) {
            boolean isNamed = SECTIONS.get(p).contains(finding) && !isWordOfAnotherSense(p, finding);
            if (isNamed && !answered.contains(finding)) say("promise " + p + ": no call answered " + finding);
        }
    }

    /** KIND is a carpet's, too, MISSING what sheet() makes of one, and status() only names the last of the seven. */
    private static boolean isWordOfAnotherSense(int p, String finding) {
        return finding.equals("KIND") && p != 33 && p != 36
            || finding.equals("MISSING") && p == 34
            || finding.equals("SIZE") && p == 43;
    }

    static void at(int ofPromise, String ofWords) {
        promise = ofPromise;
        words = ofWords;
        ANSWERED.computeIfAbsent(promise, p -> new TreeSet<>());
        String section = SECTIONS.get(promise);
        if (section == null || !section.contains(words)) say("these words don't stand there");
    }

    private static void say(String what) {
        wrong++;
        int line = StackWalker.getInstance().walk(s -> s
            .filter(f -> !f.getClassName().equals("Edges") && !f.getClassName().startsWith("java")).findFirst()
            .map(f -> f.getLineNumber()).orElse(0));
        System.out.println("promise " + promise + ", \"" + words + "\" (line " + line + "): " + what);
    }

    // ---- what is due

    static void due(long want, long got) {
        if (got != want) say("answered " + got + ", due is " + want);
    }

    static void due(String want, String got) {
        if (!got.equals(want)) say("it is " + got + ", due is " + want);
    }

    static void carpetIs(CarpetLane x, int carpet, int... wanted) {
        for (int what = 0; what < wanted.length; what++) due(wanted[what], x.of(carpet, what));
    }

    /** The call answers the finding, status() counts it once, and nothing else is otherwise than without it. */
    static void refused(Made made, int finding, Call call) {
        CarpetLane x = made.lane();
        long[] before = statusOf(x);
        due(finding, call.on(x));
        long[] after = statusOf(x);
        for (int which = -1; which <= 6; which++) {
            boolean isCounted = which == -1 || which == BEYOND - finding;
            due(before[which + 1] + (isCounted ? 1 : 0), after[which + 1]);
        }
        due(probed(made.lane()), probed(x));
        ANSWERED.get(promise).add(FINDINGS[BEYOND - finding]);
    }

    /** The call answers so, and changes nothing at all. */
    static void asks(Made made, long want, Call call) {
        CarpetLane x = made.lane();
        long[] before = statusOf(x);
        due(want, call.on(x));
        due(Arrays.toString(before), Arrays.toString(statusOf(x)));
        due(probed(made.lane()), probed(x));
    }

    /** From low to high it is within bounds, just below and just above it isn't, nor far off. */
    static void bounds(Made made, int low, int high, CallOf call) {
        for (int v : new int[] {low, high}) {
            if (call.with(v).on(made.lane()) == BEYOND) say(v + " is answered BEYOND");
        }
        for (int v : new int[] {low - 1, high + 1, LEAST, MOST}) refused(made, BEYOND, call.with(v));
    }

    private static long[] statusOf(CarpetLane x) {
        long[] s = new long[8];
        for (int which = -1; which <= 6; which++) s[which + 1] = x.status(which);
        return s;
    }

    // ---- lanes

    static void feed(CarpetLane x, String text) {
        for (int i = 0; i < text.length(); i += 4) {
            int n = Math.min(4, text.length() - i);
            int bytes = 0;
            for (int k = 0; k < n; k++) bytes = bytes << 8 | text.charAt(i + k) & 255;
            x.feed(bytes, n);
        }
    }

    static int read(CarpetLane x, String text) {
        feed(x, text);
        return x.text();
    }

    static CarpetLane laneOf(String... texts) {
        CarpetLane x = new CarpetLane();
        for (String text : texts) due(text.split(";").length, read(x, text));
        return x;
    }

    static void sheet(CarpetLane x, int s, int bits, int... numbers) {
        due(numbers.length, x.sheet(s, bits, numbers.length));
        for (int i = 0; i < numbers.length; i++) due(1, x.write(s, i, numbers[i]));
    }

    /** Five carpets, the third of them shut, and something in all that can hold something. */
    static CarpetLane some() {
        CarpetLane x = laneOf("carpet feet 3 dust 70 has 2050;rug feet 4 dust 990 has 7;stair feet 15 shut;turkey dust 60;mat has 8",
            "beat 0 0 9;beat 1 1 4;beat 2 7 7;beat 3 4 1;beat 4 3 5;beat 5 2 2;air 700");
        x.hold(2, 4);
        x.hold(9, 0);
        x.seed(77);
        x.image();
        x.go(5);
        x.change(3, 4, 33);
        x.hold(2, 1);
        sheet(x, 0, 16, 3, 4, 4095, 9);
        sheet(x, 1, 32, 1, -1, 70000);
        sheet(x, 2, 8);
        feed(x, "air 3;mat");
        return x;
    }

    /** The same with as many carpets as there can be. */
    static CarpetLane full() {
        CarpetLane x = some();
        x.carpet(6, 5);
        x.carpet(4, 4095);
        x.carpet(0, 0);
        return x;
    }

    /** One day before the last. The document promises nothing behind 512 calls, but no fewer lead there. */
    static CarpetLane late() {
        CarpetLane x = laneOf("carpet dust 60 has 4;mat feet 2;beat 2 0 1;beat 3 1 1;beat 4 0 9");
        for (int i = 0; i < 1666; i++) x.go(60);
        x.go(38);
        x.air(500);
        return x;
    }

    /** All that can be got to know of it but status(); it is used up by that. */
    static String probed(CarpetLane x) {
        StringBuilder t = new StringBuilder(seen(x));
        for (int spot = 0; spot < 10; spot++) t.append(x.as(spot, 0)).append(' ');
        for (int s = 0; s < 4; s++) {
            t.append(x.judge(s)).append(' ').append(x.fits(s, 0)).append(' ').append(x.kinds(s, 1)).append(' ');
        }
        for (int s = 0; s < 4; s++) {
            t.append(x.load(s)).append(' ');
            for (int c = 0; c < x.count(1); c++) t.append(x.of(c, 1)).append(' ');
        }
        t.append(x.text()).append(' ').append(x.count(1)).append(' ').append(x.now(1)).append(' ');
        t.append(x.undo()).append(' ').append(seen(x));
        for (int spot = 0; spot < 10; spot++) t.append(x.as(spot, 0)).append(' ');
        return t.append(x.tear()).toString();
    }

    static String seen(CarpetLane x) {
        StringBuilder t = new StringBuilder();
        int many = x.count(1);
        for (int c = 0; c < many; c++) for (int what = 0; what < 8; what++) t.append(x.of(c, what)).append(' ');
        for (int i = 0; i < 6; i++) t.append(x.listed(i)).append(' ');
        for (int i = 0; i < 8; i++) t.append(x.now(i)).append(' ').append(x.count(i)).append(' ');
        return t.toString();
    }
}
