import java.lang.reflect.Method;
import java.util.ArrayList;
import java.util.Arrays;
import java.util.List;
import java.util.Random;
import java.util.TreeMap;

/** Long mixed runs of calls: every answer must be the model's, and no call may throw. */
public final class ModelTest {
    private static final int RUNS = 600;
    private static final int CALLS = 400;
    private static final int[] ODD = {Integer.MIN_VALUE, -1000001, -8, -1, 0, 1, 8, 10, 12, 41, 255, 4096, 100000, 0x40000000, Integer.MAX_VALUE};
    private static final String[] DEAR = {"shut", "forceFor", "turnFor", "kindFor"};

    private static final TreeMap<String, Method> METHODS = new TreeMap<>();
    // The greatest good value of each argument: most are drawn from 0 up to just above it.
    private static final TreeMap<String, int[]> MOST = new TreeMap<>();

    private static int wrong = 0;

    public static void main(String[] args) throws Exception {
        fillMost();
        for (Method m : CarpetLane.class.getDeclaredMethods()) {
            if (MOST.containsKey(m.getName())) METHODS.put(m.getName(), m);
        }
        for (int run = 0; run < RUNS && wrong < 5; run++) new OneRun(run).play();
        System.out.println(wrong == 0 ? "the model agrees" : wrong + " runs differ from the model");
        if (wrong != 0) System.exit(1);
    }

    private static void fillMost() {
        most("air", 99999); most("list", 5, 7, 9); most("listed", 5); most("carpet", 6, 4095);
        most("of", 7, 7); most("change", 7, 6, 999); most("under", 7, 2, 9); most("beat", 7, 9);
        most("who", 11); most("go", 60); most("now", 7); most("ahead", 7, 6, 100); most("haze", 100);
        most("comes", 7, 11); most("dusty", 7, 999); most("clean", 7, 999); most("worn", 7, 500);
        most("forceFor", 5, 4000, 60); most("turnFor", 5, 60); most("kindFor", 7, 60);
        most("shut", 7, 11, 20); most("cover", 4095); most("fits", 3, 7); most("kinds", 3, 7);
        most("spring", 20); most("odds", 7, 17, 1); most("seed", 1 << 30); most("feed", 1 << 30, 4);
        most("wipe"); most("text"); most("hold", 9, 7); most("as", 9, 6); most("sheet", 3, 32, 40);
        most("write", 3, 39, 999); most("copy", 3, 39, 3, 39, 40); most("load", 3); most("judge", 3);
        most("image"); most("undo"); most("tear"); most("count", 7); most("status", 6);
    }

    private static void most(String name, int... values) { MOST.put(name, values); }

    private static final class OneRun {
        final int number;
        final Random random;
        final CarpetLane lane = new CarpetLane();
        final LaneModel model = new LaneModel();
        final List<String> said = new ArrayList<>();
        boolean differs = false;

        OneRun(int number) {
            this.number = number;
            this.random = new Random(number);
        }

        void play() throws Exception {
            if (number % 3 > 0) layCarpets();
            while (said.size() < CALLS && !differs) step();
            if (!differs) readAll();
        }

        private void layCarpets() throws Exception {
            int many = 1 + random.nextInt(8);
            for (int c = 0; c < many && !differs; c++) both("carpet", random.nextInt(7), feet());
            for (int i = 0; i < 6 && !differs; i++) both("list", i, random.nextInt(many), random.nextInt(10));
        }

        private void step() throws Exception {
            switch (random.nextInt(12)) {
                case 0: feedText(); return;
                case 1: feedTruth(); return;
                case 2: smallChange(); return;
                default:
            }
            Object[] names = METHODS.keySet().toArray();
            String name = (String) names[random.nextInt(names.length)];
            if (Arrays.asList(DEAR).contains(name) && random.nextInt(3) > 0) return;
            if (name.equals("undo") && random.nextInt(2) > 0) return;
            both(name, arguments(name));
        }

        private int feet() {
            return random.nextInt(4096) & random.nextInt(4096);
        }

        private int[] arguments(String name) {
            int[] most = MOST.get(name);
            int[] a = new int[most.length];
            for (int i = 0; i < a.length; i++) {
                int high = most[i] == 7 && random.nextInt(4) > 0 ? Math.max(1, model.now.rows.size()) : most[i] + 1;
                a[i] = random.nextInt(high);
                if (random.nextInt(25) == 0) a[i] = most[i] + 1 - random.nextInt(3);
                if (random.nextInt(25) == 0) a[i] = ODD[random.nextInt(ODD.length)];
            }
            if (name.equals("sheet") && random.nextInt(8) > 0) a[1] = 8 << random.nextInt(3);
            if (name.equals("copy") && random.nextInt(3) > 0) shortRow(a);
            if (name.equals("seed")) a[0] = random.nextInt();
            return a;
        }

        private void shortRow(int[] a) {
            a[1] = random.nextInt(6);
            a[3] = random.nextInt(6);
            a[4] = random.nextInt(12);
            if (random.nextInt(2) == 0) a[2] = a[0];
        }

        private void smallChange() throws Exception {
            int c = random.nextInt(8), what = random.nextInt(7);
            int v = what == 5 ? random.nextInt(3) / 2 : what == 0 ? random.nextInt(7) : what == 1 || what == 3 ? feet() : random.nextInt(1000);
            if (random.nextInt(6) == 0) v = random.nextInt(12000);
            both("change", c, what, v);
        }

        /** A sheet that tells what will be of a carpet (now and then one number off), asked about. */
        private void feedTruth() throws Exception {
            if (model.now.rows.isEmpty()) return;
            int c = random.nextInt(model.now.rows.size()), n = random.nextInt(20), s = random.nextInt(4);
            if (random.nextInt(3) == 0) n = Math.min(n, model.now.rows.size());
            both("sheet", s, random.nextInt(3) == 0 ? 16 : 32, n);
            boolean isRow = random.nextInt(3) == 0;
            for (int i = 0; i < n && !differs; i++) {
                int row = Math.min(i, model.now.rows.size() - 1);
                int dust = isRow ? model.now.rows.get(row).get("dust")
                    : model.now.copied().after(i).rows.get(c).get("dust");
                int v = random.nextInt(5) == 0 ? -1 : random.nextInt(60) == 0 ? dust + 1 : dust;
                both("write", s, i, isRow ? dust : v);
            }
            both("fits", s, c);
            both("kinds", s, c);
            both("judge", s);
        }

        private void feedText() throws Exception {
            if (random.nextInt(3) > 0) both("wipe");
            StringBuilder t = new StringBuilder(item());
            while (t.length() < 90 && random.nextInt(3) > 0) t.append(gap()).append(';').append(gap()).append(item());
            if (random.nextInt(2) == 0) spoil(t);
            int i = 0;
            while (i < t.length() && !differs) {
                int n = Math.min(t.length() - i, 1 + random.nextInt(4));
                int v = 0;
                for (int k = 0; k < n; k++) v = v << 8 | t.charAt(i + k) & 255;
                both("feed", v, n);
                i += n;
            }
            both("text");
        }

        private void spoil(StringBuilder t) {
            int at = random.nextInt(t.length() + 1);
            switch (random.nextInt(4)) {
                case 0: t.setLength(at); break;
                case 1: t.insert(at, " ;0aA#\t\u00e9z".charAt(random.nextInt(9))); break;
                case 2: t.insert(at, " shut "); break;
                default: if (at < t.length()) t.deleteCharAt(at);
            }
        }

        private String gap() {
            return " ".repeat(random.nextInt(3));
        }

        private String item() {
            switch (random.nextInt(6)) {
                case 0: return "air " + gap() + random.nextInt(10050);
                case 1: return "beat " + random.nextInt(6) + " " + random.nextInt(8) + gap() + " " + random.nextInt(10);
                default:
            }
            StringBuilder t = new StringBuilder(LaneModel.KIND_WORDS[random.nextInt(7)]);
            if (random.nextInt(2) == 0) t.append(" feet ").append(random.nextInt(4110));
            if (random.nextInt(2) == 0) t.append(" dust ").append(gap()).append(random.nextInt(1003));
            if (random.nextInt(2) == 0) t.append(" has").append(gap()).append(random.nextInt(4110));
            if (random.nextInt(5) == 0) t.append(" shut");
            return t.toString();
        }

        private void readAll() throws Exception {
            for (int c = 0; c < 8; c++) for (int what = 0; what < 8; what++) both("of", c, what);
            for (int i = 0; i < 8; i++) {
                both("listed", i);
                both("now", i);
                both("count", i);
                both("status", i - 1);
                both("judge", i);
            }
            for (int spot = 0; spot < 10; spot++) both("as", spot, 0);
        }

        private void both(String name, int... a) throws Exception {
            if (differs) return;
            Object[] boxed = Arrays.stream(a).boxed().toArray();
            String call = name + Arrays.toString(a);
            said.add(call);
            long want = model.call(name, a);
            String got;
            try {
                got = String.valueOf(((Number) METHODS.get(name).invoke(lane, boxed)).longValue());
            } catch (java.lang.reflect.InvocationTargetException e) {
                got = String.valueOf(e.getCause());
            }
            if (got.equals(String.valueOf(want))) return;
            differs = true;
            wrong++;
            System.out.println("run " + number + ", call " + said.size() + ": " + call + " answered " + got + ", the model " + want);
            System.out.println("  behind " + String.join(" ", said.subList(Math.max(0, said.size() - 25), said.size())));
        }
    }
}
