import java.lang.reflect.InvocationTargetException;
import java.lang.reflect.Method;
import java.util.Arrays;
import java.util.Set;
import java.util.TreeMap;

/**
 * Every method with every mixture of arguments just within and just beyond their bounds, and as far off as an int goes,
 * in an empty, a middling and a full lane: every answer must be the model's, and no call may throw.
 */
public final class SweepTest {
    private static final int LEAST = Integer.MIN_VALUE, MOST = Integer.MAX_VALUE;
    private static final int[] CARPET = {LEAST, -2, -1, 0, 4, 5, 7, 8, MOST}, PLACE = {LEAST, -1, 0, 5, 6, MOST},
        FORCE = {LEAST, -1, 0, 1, 9, 10, MOST}, MARK = {LEAST, -1, 0, 11, 12, 32, MOST}, SET = {LEAST, -1, 0, 1, 4095, 4096, MOST},
        DUST = {LEAST, -1, 0, 1, 998, 999, 1000, MOST}, DAYS = {LEAST, -1, 0, 1, 60, 61, 100, 101, MOST},
        WHAT = {LEAST, -2, -1, 0, 1, 2, 3, 4, 5, 6, 7, 8, MOST}, SPOT = {LEAST, -1, 0, 2, 9, 10, MOST}, SHEET = {LEAST, -1, 0, 1, 2, 3, 4, MOST},
        ROW = {LEAST, -1, 0, 1, 3, 4, 5, MOST}, BIG = {LEAST, -1, 0, 1, 9999, 10000, 99999, 100000, MOST}, FEW = {LEAST, -1, 0, 1, 4, 5, 17, 18, 20, 21, MOST},
        BITS = {LEAST, -8, 0, 1, 7, 8, 9, 16, 32, 33, MOST}, LENGTH = {LEAST, -1, 0, 1, 40, 41, MOST};
    // Behind these all is as it was, whatever they answer.
    private static final Set<String> QUESTIONS = Set.of("listed", "of", "under", "who", "now", "ahead", "haze", "comes", "dusty", "clean", "worn",
        "forceFor", "turnFor", "kindFor", "shut", "cover", "fits", "kinds", "odds", "as", "judge", "count", "status");

    private static final TreeMap<String, int[][]> VALUES = new TreeMap<>();
    private static final TreeMap<String, Method> METHODS = new TreeMap<>();
    private static int wrong = 0;

    private final int carpets;
    private CarpetLane lane;
    private LaneModel model;
    private int calls = 0;

    private SweepTest(int carpets) {
        this.carpets = carpets;
    }

    public static void main(String[] args) throws Exception {
        fillValues();
        for (Method m : CarpetLane.class.getDeclaredMethods()) {
            if (VALUES.containsKey(m.getName())) METHODS.put(m.getName(), m);
        }
        for (int carpets : new int[] {0, 5, 8}) {
            for (String name : VALUES.keySet()) {
                SweepTest sweep = new SweepTest(carpets);
                sweep.make();
                sweep.sweep(name, new int[VALUES.get(name).length], 0);
                sweep.readAll();
            }
        }
        System.out.println(wrong == 0 ? "the model agrees at all edges" : wrong + " answers are not the model's");
        if (wrong != 0) System.exit(1);
    }

    private static void fillValues() {
        put("air", BIG); put("list", PLACE, CARPET, FORCE); put("listed", PLACE); put("carpet", WHAT, SET);
        put("of", CARPET, WHAT); put("change", CARPET, WHAT, BIG); put("under", CARPET, WHAT, FORCE); put("beat", CARPET, FORCE);
        put("who", MARK); put("go", DAYS); put("now", WHAT); put("ahead", CARPET, WHAT, DAYS); put("haze", DAYS);
        put("comes", CARPET, MARK); put("dusty", CARPET, DUST); put("clean", CARPET, DUST); put("worn", CARPET, BIG);
        put("forceFor", PLACE, BIG, DAYS); put("turnFor", PLACE, DAYS); put("kindFor", CARPET, DAYS);
        put("shut", CARPET, MARK, FEW); put("cover", SET); put("fits", SHEET, CARPET); put("kinds", SHEET, CARPET);
        put("spring", FEW); put("odds", CARPET, FEW, WHAT); put("seed", BIG); put("feed", BIG, FEW); put("wipe"); put("text");
        put("hold", SPOT, CARPET); put("as", SPOT, WHAT); put("sheet", SHEET, BITS, LENGTH); put("write", SHEET, ROW, BIG);
        put("copy", SHEET, ROW, SHEET, ROW, ROW); put("load", SHEET); put("judge", SHEET);
        put("image"); put("undo"); put("tear"); put("count", WHAT); put("status", WHAT);
    }

    private static void put(String name, int[]... values) {
        VALUES.put(name, values);
    }

    /** Sheets 0 and 1 are of as many bits, 2 is of others, 3 is missing; the tape has room for two bytes. */
    private void make() throws Exception {
        lane = new CarpetLane();
        model = new LaneModel();
        calls = 0;
        int[] kinds = {5, 1, 3, 2, 4, 6, 0, 5};
        for (int c = 0; c < carpets; c++) {
            both("carpet", kinds[c], 3 << c);
            both("change", c, 2, 999 >> c);
            both("change", c, 3, 0x0f0 >> c);
            both("change", c, 5, c == 2 ? 1 : 0);
        }
        for (int i = 0; i < 6; i++) both("list", i, (3 * i + 1) % 8, 9 - 2 * i < 0 ? 1 : 9 - 2 * i);
        for (int s = 0; s < 3; s++) {
            both("sheet", s, s < 2 ? 16 : 8, 4);
            for (int i = 0; i < 4; i++) both("write", s, i, 999 >> i);
        }
        both("image");
        if (carpets > 0) both("hold", 2, carpets - 1);
        both("go", 5);
        both("feed", 0x61697237, 4);
        for (int i = 0; i < 28; i++) both("feed", 0x20202020, 4);
        both("feed", 0x2020, 2);
    }

    private void sweep(String name, int[] a, int i) throws Exception {
        int[][] values = VALUES.get(name);
        if (i < values.length) {
            for (int v : values[i]) {
                a[i] = v;
                sweep(name, a, i + 1);
            }
            return;
        }
        if (calls > 300) make();
        long answer = both(name, a);
        if (!isFinding(answer) && !QUESTIONS.contains(name)) {
            readAll();
            make();
        }
    }

    private static boolean isFinding(long answer) {
        return answer <= LaneModel.BEYOND && answer >= LaneModel.SIZE;
    }

    private void readAll() throws Exception {
        for (int c = 0; c < 8; c++) for (int what = 0; what < 8; what++) both("of", c, what);
        for (int i = 0; i < 8; i++) {
            both("listed", i);
            both("now", i);
            both("count", i);
            both("status", i - 1);
        }
        for (int spot = 0; spot < 10; spot++) both("as", spot, 0);
        for (int s = 0; s < 4; s++) {
            both("judge", s);
            both("load", s);
            for (int c = 0; c < 4; c++) both("of", c, 1);
        }
        both("text");
        both("now", 1);
        both("undo");
        both("count", 1);
    }

    private long both(String name, int... a) throws Exception {
        calls++;
        long want = model.call(name, a);
        String got;
        try {
            got = String.valueOf(((Number) METHODS.get(name).invoke(lane, Arrays.stream(a).boxed().toArray())).longValue());
        } catch (InvocationTargetException e) {
            got = String.valueOf(e.getCause());
        }
        if (!got.equals(String.valueOf(want))) {
            wrong++;
            if (wrong < 20) System.out.println("with " + carpets + " carpets " + name + Arrays.toString(a) + " answered " + got + ", the model " + want);
        }
        return want;
    }
}
