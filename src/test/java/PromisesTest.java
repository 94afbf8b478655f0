import java.lang.reflect.Method;

/** Each promise by its number: ordinary inputs, the edges that the document names, wrong inputs. */
public final class PromisesTest {
    private static final int BEYOND = -1000001, FULL = -1000002, KIND = -1000003, NONE = -1000004,
        STATE = -1000005, MISSING = -1000006, SIZE = -1000007;
    private static final int LEAST = Integer.MIN_VALUE, MOST = Integer.MAX_VALUE;

    private static int wrong = 0;
    private static int promise = 0;
    private static int row = 0;

    private static void due(long want, long got) {
        row++;
        if (got == want) return;
        wrong++;
        int line = StackWalker.getInstance().walk(s -> s.skip(1).findFirst().get().getLineNumber());
        System.out.println("promise " + promise + ", row " + row + " (line " + line + "): answered " + got + ", due is " + want);
    }

    public static void main(String[] args) throws Exception {
        for (promise = 1; promise <= 43; promise++) {
            row = 0;
            Method test = PromisesTest.class.getDeclaredMethod("promise" + promise);
            test.invoke(null);
            if (row == 0) due(1, 0);
        }
        promise = 0;
        findingsChangeNothing();
        questionsChangeNothing();
        System.out.println(wrong == 0 ? "all promises hold" : wrong + " answers are not as due");
        if (wrong != 0) System.exit(1);
    }

    // ---- how lanes are made and seen

    private static void feed(CarpetLane x, String text) {
        for (int i = 0; i < text.length(); i++) x.feed(text.charAt(i), 1);
    }

    private static int read(CarpetLane x, String text) {
        feed(x, text);
        return x.text();
    }

    private static CarpetLane laneOf(String text) {
        CarpetLane x = new CarpetLane();
        int items = text.isEmpty() ? 0 : text.split(";").length;
        due(text.isEmpty() ? 0 : items, text.isEmpty() ? 0 : read(x, text));
        return x;
    }

    private static void sheet(CarpetLane x, int s, int bits, int... numbers) {
        due(numbers.length, x.sheet(s, bits, numbers.length));
        for (int i = 0; i < numbers.length; i++) due(1, x.write(s, i, numbers[i]));
    }

    private static void carpetIs(CarpetLane x, int carpet, int... wanted) {
        for (int what = 0; what < wanted.length; what++) due(wanted[what], x.of(carpet, what));
    }

    /** All that can be seen of the lane without a finding, but status(). */
    private static String seen(CarpetLane x) {
        StringBuilder t = new StringBuilder();
        for (int c = 0; c < x.count(1); c++) for (int what = 0; what < 8; what++) t.append(x.of(c, what)).append(' ');
        for (int i = 0; i < 6; i++) t.append(x.listed(i)).append(' ');
        for (int i = 0; i < 8; i++) t.append(x.now(i)).append(' ').append(x.count(i)).append(' ');
        return t.toString();
    }

    // ---- promises

    static void promise1() {
        CarpetLane x = new CarpetLane();
        for (int what : new int[] {0, 1, 2, 3, 4, 6, 7}) due(0, x.now(what));
        due(-1, x.now(5));
        for (int what : new int[] {0, 1, 2, 3, 4, 5, 7}) due(0, x.count(what));
        due(1, x.count(6));
        for (int i = 0; i < 6; i++) due(0, x.listed(i));
        for (int which = -1; which <= 6; which++) due(0, x.status(which));
        due(0, x.wipe());
        due(0, x.tear());
        for (int spot = 0; spot < 10; spot++) due(MISSING, x.as(spot, 0));
        for (int s = 0; s < 4; s++) due(MISSING, x.judge(s));
        due(NONE, x.undo());
        due(BEYOND, x.of(0, 0));
        CarpetLane y = new CarpetLane();
        x.carpet(0, 1);
        x.air(5);
        due(0, y.count(1));
        due(0, y.now(1));
    }

    static void promise2() {
        CarpetLane x = new CarpetLane();
        due(0, x.air(99999));
        due(99999, x.air(7));
        due(BEYOND, x.air(-1));
        due(BEYOND, x.air(100000));
        due(BEYOND, x.air(LEAST));
        due(7, x.air(0));
        due(0, x.now(1));
    }

    static void promise3() {
        CarpetLane x = new CarpetLane();
        due(0, x.list(5, 7, 9));
        due(79, x.list(5, 0, 3));
        due(3, x.list(5, 4, 0));
        due(40, x.listed(5));
        due(0, x.list(0, 1, 2));
        for (int bad : new int[] {-1, 6, LEAST, MOST}) due(BEYOND, x.list(bad, 0, 0));
        for (int bad : new int[] {-1, 8, LEAST, MOST}) due(BEYOND, x.list(0, bad, 0));
        for (int bad : new int[] {-1, 10, LEAST, MOST}) due(BEYOND, x.list(0, 0, bad));
        due(12, x.listed(0));
    }

    static void promise4() {
        CarpetLane x = new CarpetLane();
        for (int i = 0; i < 6; i++) x.list(i, i, 9 - i);
        for (int i = 0; i < 6; i++) due(10 * i + 9 - i, x.listed(i));
        due(BEYOND, x.listed(-1));
        due(BEYOND, x.listed(6));
    }

    static void promise5() {
        CarpetLane x = new CarpetLane();
        due(BEYOND, x.carpet(-1, 0));
        due(BEYOND, x.carpet(7, 0));
        due(BEYOND, x.carpet(0, -1));
        due(BEYOND, x.carpet(0, 4096));
        for (int kind = 0; kind < 7; kind++) due(kind, x.carpet(kind, kind == 6 ? 4095 : kind));
        carpetIs(x, 6, 6, 4095, 0, 0, 0, 0, 0);
        carpetIs(x, 0, 0, 0, 0, 0, 0, 0, 0);
        due(7, x.carpet(3, 1));
        due(FULL, x.carpet(0, 0));
        due(BEYOND, x.carpet(7, 0));
        due(8, x.count(1));
    }

    static void promise6() {
        CarpetLane x = laneOf("turkey feet 7 dust 30 has 6 shut");
        x.change(0, 4, 41);
        x.change(0, 6, 9);
        carpetIs(x, 0, 2, 7, 30, 6, 41, 1, 9, 3);
        due(BEYOND, x.of(0, -1));
        due(BEYOND, x.of(0, 8));
        due(BEYOND, x.of(-1, 0));
        due(BEYOND, x.of(1, 0));
        int[] treadsOfThree = {6, 5, 3, 15, 0, 11, 1};
        int[] treadsOfNone = {0, 0, 0, 0, 0, 5, 1};
        for (int kind = 0; kind < 7; kind++) {
            CarpetLane y = new CarpetLane();
            y.carpet(kind, 0b100000000101);
            due(treadsOfThree[kind], y.of(0, 7));
            y.change(0, 1, 0);
            due(treadsOfNone[kind], y.of(0, 7));
        }
        CarpetLane z = laneOf("aisle feet 7");
        for (int day = 0; day < 28; day++) {
            due(day % 7 == 6 ? 15 : 0, z.of(0, 7));
            z.go(1);
        }
        due(60, z.of(0, 2));
    }

    static void promise7() {
        CarpetLane x = laneOf("carpet; rug feet 2 dust 3 has 4");
        int[] was = {1, 2, 3, 4, 0, 0, 0};
        int[] most = {6, 4095, 999, 4095, 9999, 1, 9999};
        for (int what = 0; what < 7; what++) {
            due(BEYOND, x.change(1, what, -1));
            due(BEYOND, x.change(1, what, most[what] + 1));
            due(was[what], x.change(1, what, most[what]));
            due(most[what], x.of(1, what));
            due(most[what], x.change(1, what, 0));
            due(0, x.of(1, what));
        }
        carpetIs(x, 0, 0, 1, 0, 0, 0, 0, 0);
        due(BEYOND, x.change(1, 7, 0));
        due(BEYOND, x.change(1, -1, 0));
        due(BEYOND, x.change(2, 0, 0));
        due(BEYOND, x.change(-1, 0, 0));
        due(BEYOND, x.change(0, MOST, LEAST));
    }

    static void promise8() {
        CarpetLane x = laneOf("carpet dust 999;rug dust 999;turkey dust 999;stair dust 999;aisle dust 999;mat dust 999");
        due(1, read(x, "pring dust 999 shut"));
        int[][] gives = {{0, 10, 30, 40, 90}, {0, 15, 35, 45, 95}, {0, 0, 0, 40, 90}, {0, 7, 17, 22, 47},
            {0, 7, 17, 22, 47}, {0, 999, 999, 999, 999}, {0, 0, 0, 40, 90}};
        int[][] suffers = {{0, 1, 3, 4, 9}, {0, 2, 6, 8, 18}, {0, 0, 1, 2, 4}, {0, 1, 5, 7, 17},
            {0, 1, 5, 7, 17}, {1, 2, 4, 5, 10}, {0, 0, 0, 0, 0}};
        int[][] catches = {{0, 10, 30, 40, 90}, {0, 5, 15, 20, 45}, {0, 8, 28, 38, 88}, {0, 5, 15, 20, 45},
            {0, 0, 0, 0, 0}, {0, 10, 30, 40, 90}, {0, 8, 28, 38, 88}};
        int[] forces = {0, 1, 3, 4, 9};
        // The seven carpets lie in the order of the text, which is that of their kinds.
        for (int c = 0; c < 7; c++) {
            for (int i = 0; i < 5; i++) {
                due(gives[c][i], x.under(c, 0, forces[i]));
                due(suffers[c][i], x.under(c, 1, forces[i]));
                due(catches[c][i], x.under(c, 2, forces[i]));
            }
        }
        // A stair gives half of a rug's, and only then no more than it has.
        x.change(3, 2, 20);
        due(20, x.under(3, 0, 9));
        due(12, x.under(3, 0, 2));
        x.change(5, 2, 0);
        due(0, x.under(5, 0, 1));
        due(BEYOND, x.under(7, 0, 0));
        due(BEYOND, x.under(-1, 0, 0));
        due(BEYOND, x.under(0, -1, 0));
        due(BEYOND, x.under(0, 3, 0));
        due(BEYOND, x.under(0, 0, -1));
        due(BEYOND, x.under(0, 0, 10));
    }

    static void promise9() {
        CarpetLane x = laneOf("rug dust 10 has 1;carpet dust 75 has 2050;turkey dust 998;carpet");
        due(30, x.beat(1, 3));
        carpetIs(x, 0, 1, 1, 17, 2049, 0, 0, 0);
        carpetIs(x, 1, 0, 1, 45, 2, 3, 0, 1);
        // 13 came to it, though it had room for 1 alone: the air has but the rest of 30.
        carpetIs(x, 2, 2, 1, 999, 2048, 0, 0, 0);
        carpetIs(x, 3, 0, 1, 0, 0, 0, 0, 0);
        due(30 - 7 - 13, x.now(1));
        due(0, x.now(0));
        due(0, x.beat(1, 0));
        carpetIs(x, 1, 0, 1, 45, 2, 3, 0, 2);
        due(45, x.beat(1, 9));
        carpetIs(x, 1, 0, 1, 0, 0, 12, 0, 3);
        due(2 + 2048, x.of(2, 3));
        due(BEYOND, x.beat(4, 0));
        due(BEYOND, x.beat(-1, 0));
        due(BEYOND, x.beat(0, -1));
        due(BEYOND, x.beat(0, 10));
        x.change(1, 5, 1);
        due(BEYOND, x.beat(1, 10));
        due(STATE, x.beat(1, 5));
        carpetIs(x, 1, 0, 1, 0, 0, 12, 1, 3);
        shutSides();
        beatenMost();
    }

    private static void shutSides() {
        CarpetLane x = laneOf("carpet shut;carpet dust 50 has 3;carpet shut");
        due(50, x.beat(1, 9));
        due(50, x.now(1));
        due(1, x.of(1, 3));
        for (int c = 0; c < 3; c += 2) carpetIs(x, c, 0, 1, 0, 0, 0, 1, 0);
        CarpetLane y = laneOf("carpet shut;carpet dust 51 has 3;carpet");
        due(51, y.beat(1, 9));
        due(26, y.now(1));
        y.change(0, 2, 1);
        y.change(0, 3, 64);
        y.change(0, 5, 0);
        // A mark goes over with one grain of dust, though none of it is caught.
        due(1, y.beat(0, 9));
        carpetIs(y, 1, 0, 1, 0, 65);
        due(27, y.now(1));
        y.change(0, 5, 1);
        y.change(0, 2, 0);
        y.change(0, 3, 0);
        carpetIs(y, 0, 0, 1, 0, 0);
        carpetIs(y, 2, 0, 1, 25, 2);
        CarpetLane alone = laneOf("mat dust 9");
        due(9, alone.beat(0, 1));
        due(9, alone.now(1));
        carpetIs(alone, 0, 5, 1, 0, 0, 2, 0, 1);
        CarpetLane ends = laneOf("carpet dust 20 has 1;carpet;carpet dust 20 has 2");
        due(20, ends.beat(0, 2));
        due(20, ends.beat(2, 2));
        carpetIs(ends, 1, 0, 1, 20, 3);
        due(20, ends.now(1));
    }

    private static void beatenMost() {
        CarpetLane x = laneOf("carpet dust 999;carpet");
        x.change(0, 4, 9998);
        x.change(0, 6, 9999);
        x.air(99990);
        due(90, x.beat(0, 9));
        due(9999, x.of(0, 4));
        due(9999, x.of(0, 6));
        due(99999, x.now(1));
    }

    static void promise10() {
        CarpetLane x = laneOf("carpet has 2049;rug;mat has 2048;mat has 1");
        due(5, x.who(11));
        due(9, x.who(0));
        due(0, x.who(5));
        due(BEYOND, x.who(-1));
        due(BEYOND, x.who(12));
        due(BEYOND, x.who(32));
    }

    static void promise11() {
        CarpetLane x = laneOf("carpet feet 3;rug feet 4 dust 998;mat feet 8;beat 0 0 1;beat 1 2 0;beat 2 7 5;beat 3 2 1");
        due(3, x.go(1));
        // 4 came down to it, and all of it went: half to the rug, which caught half of that.
        carpetIs(x, 0, 0, 3, 0, 1, 1, 0, 1);
        carpetIs(x, 1, 1, 4, 999, 6, 0, 0, 0);
        carpetIs(x, 2, 5, 8, 7, 8, 0, 0, 0);
        // Day 1: with force 0, too. Day 2: there is no carpet 7. Day 3: all that the mat has.
        due(3, x.go(1));
        carpetIs(x, 2, 5, 8, 14, 8, 1, 0, 1);
        due(3, x.go(1));
        carpetIs(x, 2, 5, 8, 21, 8, 1, 0, 1);
        due(3 + 28 - 7, x.go(1));
        carpetIs(x, 0, 0, 3, 12, 3, 1, 0, 1);
        carpetIs(x, 1, 1, 4, 999, 14, 0, 0, 0);
        carpetIs(x, 2, 5, 8, 0, 0, 3, 0, 2);
        due(4, x.now(0));
        due(BEYOND, x.go(0));
        due(BEYOND, x.go(61));
        due(BEYOND, x.go(-1));
        due(BEYOND, x.go(MOST));
        due(4, x.now(0));
        goFarther();
    }

    private static void goFarther() {
        CarpetLane x = laneOf("carpet feet 1 dust 500 shut;mat feet 0;beat 0 0 9;beat 5 1 1");
        // A shut one is trodden, but neither beaten nor come over to: the mat's 5 a day go to the air.
        due(30, x.go(6));
        carpetIs(x, 0, 0, 1, 512, 1, 0, 1, 0);
        carpetIs(x, 1, 5, 0, 0, 0, 2, 0, 1);
        due(30 + 9 * 30, x.go(54));
        due(60, x.now(0));
        due(600, x.go(60));
        due(740, x.of(0, 2));
        x.go(60);
        x.go(60);
        due(980, x.of(0, 2));
        x.go(60);
        due(999, x.of(0, 2));
        x.air(99999);
        due(99999, x.go(6));
        CarpetLane y = laneOf("carpet feet 1 dust 500;mat feet 0;beat 0 0 9;beat 5 1 1");
        CarpetLane z = laneOf("carpet feet 1 dust 500;mat feet 0;beat 0 0 9;beat 5 1 1");
        y.go(60);
        for (int i = 0; i < 60; i++) z.go(1);
        due(1, seen(y).equals(seen(z)) ? 1 : 0);
    }

    static void promise12() {
        CarpetLane x = laneOf("carpet feet 0 dust 5 has 9 shut;rug dust 8;mat dust 8 has 2;pring shut");
        x.change(1, 4, 30);
        x.change(3, 4, 12);
        x.change(2, 6, 7);
        x.change(3, 6, 1);
        x.air(77);
        int[] wanted = {0, 77, 21, 42, 11, 1, 8, 9};
        for (int what = 0; what < 8; what++) due(wanted[what], x.now(what));
        x.go(2);
        due(2, x.now(0));
        due(BEYOND, x.now(-1));
        due(BEYOND, x.now(8));
        CarpetLane y = new CarpetLane();
        due(-1, y.now(5));
        y.carpet(0, 0);
        due(0, y.now(5));
    }

    static void promise13() {
        CarpetLane x = laneOf("carpet feet 3 dust 100;mat feet 4;beat 0 0 2;beat 3 0 1");
        int[] askable = {2, 3, 4, 6};
        for (int n : new int[] {0, 1, 5, 6, 7, 60, 100}) {
            CarpetLane y = laneOf("carpet feet 3 dust 100;mat feet 4;beat 0 0 2;beat 3 0 1");
            if (n > 60) y.go(60);
            if (n > 0) y.go(n > 60 ? n - 60 : n);
            for (int c = 0; c < 2; c++) for (int what : askable) due(y.of(c, what), x.ahead(c, what, n));
        }
        due(100, x.ahead(0, 2, 0));
        due(84, x.ahead(0, 2, 1));
        for (int bad : new int[] {-1, 0, 1, 5, 7}) due(BEYOND, x.ahead(0, bad, 1));
        due(BEYOND, x.ahead(0, 2, -1));
        due(BEYOND, x.ahead(0, 2, 101));
        due(BEYOND, x.ahead(2, 2, 0));
        due(BEYOND, x.ahead(-1, 2, 0));
        due(0, x.now(0));
    }

    static void promise14() {
        CarpetLane x = laneOf("carpet feet 1 dust 10;beat 0 0 1;beat 1 3 4;beat 2 0 1");
        x.air(3);
        due(3, x.haze(0));
        due(13, x.haze(1));
        due(13, x.haze(2));
        due(19, x.haze(3));
        CarpetLane y = laneOf("carpet feet 1 dust 10;beat 0 0 1;beat 1 3 4;beat 2 0 1");
        y.air(3);
        y.go(60);
        due(y.go(40), x.haze(100));
        due(BEYOND, x.haze(-1));
        due(BEYOND, x.haze(101));
        due(3, x.now(1));
    }

    static void promise15() {
        CarpetLane x = laneOf("carpet feet 2;carpet feet 4 dust 100 has 64;mat feet 0;beat 4 1 1");
        due(0, x.comes(1, 6));
        due(5, x.comes(0, 6));
        due(5, x.comes(2, 6));
        due(1, x.comes(0, 1));
        due(NONE, x.comes(0, 7));
        due(NONE, x.comes(0, 11));
        due(BEYOND, x.comes(3, 0));
        due(BEYOND, x.comes(-1, 0));
        due(BEYOND, x.comes(0, -1));
        due(BEYOND, x.comes(0, 12));
    }

    static void promise16() {
        CarpetLane x = laneOf("pring dust 5;pring feet 0;carpet feet 0;beat 0 2 0;beat 1 2 0");
        due(0, x.dusty(0, 0));
        due(0, x.dusty(0, 5));
        due(1, x.dusty(0, 6));
        due(200, x.dusty(0, 205));
        due(NONE, x.dusty(0, 206));
        due(NONE, x.dusty(2, 1));
        due(0, x.dusty(2, 0));
        due(BEYOND, x.dusty(0, -1));
        due(BEYOND, x.dusty(0, 1000));
        due(NONE, x.dusty(0, 999));
        due(BEYOND, x.dusty(3, 0));
        due(BEYOND, x.dusty(-1, 0));
    }

    static void promise17() {
        CarpetLane x = laneOf("carpet feet 0 dust 200;carpet feet 0 dust 999 shut;beat 5 0 1");
        due(0, x.clean(0, 999));
        due(0, x.clean(0, 200));
        due(6, x.clean(0, 199));
        due(6, x.clean(0, 190));
        due(12, x.clean(0, 189));
        due(120, x.clean(0, 0));
        due(NONE, x.clean(1, 998));
        due(0, x.clean(1, 999));
        x.change(0, 2, 330);
        due(198, x.clean(0, 0));
        x.change(0, 2, 331);
        due(NONE, x.clean(0, 0));
        due(BEYOND, x.clean(0, -1));
        due(BEYOND, x.clean(0, 1000));
        due(BEYOND, x.clean(2, 0));
        due(BEYOND, x.clean(-1, 0));
    }

    static void promise18() {
        CarpetLane x = laneOf("rug feet 0;mat;beat 1 0 9;beat 2 1 0;beat 5 1 0");
        due(0, x.worn(0, 0));
        due(2, x.worn(0, 1));
        due(2, x.worn(0, 18));
        due(8, x.worn(0, 19));
        due(3, x.worn(1, 1));
        due(6, x.worn(1, 2));
        due(200, x.worn(0, 34 * 18));
        due(NONE, x.worn(0, 34 * 18 + 1));
        x.change(0, 4, 9990);
        due(2, x.worn(0, 9999));
        due(BEYOND, x.worn(0, -1));
        due(BEYOND, x.worn(0, 10000));
        due(BEYOND, x.worn(2, 0));
        due(BEYOND, x.worn(-1, 0));
    }

    static void promise19() {
        CarpetLane x = laneOf("carpet feet 0 dust 100;beat 2 0 7");
        due(0, x.forceFor(2, 100, 6));
        due(1, x.forceFor(2, 99, 3));
        due(5, x.forceFor(2, 50, 3));
        due(6, x.forceFor(2, 49, 3));
        due(9, x.forceFor(2, 10, 3));
        due(NONE, x.forceFor(2, 9, 3));
        due(NONE, x.forceFor(2, 50, 2));
        due(0, x.forceFor(2, 100, 2));
        due(5, x.forceFor(2, 0, 9));
        due(NONE, x.forceFor(2, 99, 0));
        // Place 3 tells of carpet 0 with force 0, and place 2 goes on as it is.
        due(0, x.forceFor(3, 30, 4));
        due(2, x.forceFor(3, 10, 4));
        x.list(3, 1, 0);
        due(NONE, x.forceFor(3, 10, 4));
        due(7, x.listed(2));
        due(0, x.forceFor(0, 9999, 60));
        x.list(5, 0, 3);
        due(1, x.forceFor(5, 29, 6));
        for (int bad : new int[] {-1, 6}) due(BEYOND, x.forceFor(bad, 0, 0));
        for (int bad : new int[] {-1, 10000}) due(BEYOND, x.forceFor(0, bad, 0));
        for (int bad : new int[] {-1, 61}) due(BEYOND, x.forceFor(0, 0, bad));
    }

    static void promise20() {
        CarpetLane x = laneOf("carpet feet 0 dust 9;turkey feet 0 dust 900;rug feet 0 dust 900;beat 1 0 5");
        // Of 50 from the turkey 25 and 12 come back; of 55 from the rug 25 alone.
        due(2, x.turnFor(1, 2));
        due(0, x.turnFor(1, 1));
        due(0, x.turnFor(0, 6));
        x.list(1, 0, 3);
        due(2, x.turnFor(1, 2));
        x.change(2, 5, 1);
        due(0, x.turnFor(1, 2));
        x.change(0, 5, 1);
        due(0, x.turnFor(1, 2));
        x.list(1, 0, 4);
        due(1, x.turnFor(1, 2));
        due(4, x.listed(1));
        for (int bad : new int[] {-1, 6}) due(BEYOND, x.turnFor(bad, 0));
        for (int bad : new int[] {-1, 61}) due(BEYOND, x.turnFor(0, bad));
        due(0, x.turnFor(0, 60));
        due(0, new CarpetLane().turnFor(5, 60));
        // Force 1 is too little for a turkey; mat 4 gives 35, of which 8 are caught, mat 1 gives 25, of which 10 are.
        CarpetLane y = laneOf("turkey feet 0 dust 99;mat feet 0 dust 20;aisle;rug feet 0 dust 2;mat feet 0 dust 30;beat 0 7 1");
        due(4, y.turnFor(0, 1));
        y.change(4, 5, 1);
        due(1, y.turnFor(0, 1));
    }

    static void promise21() {
        CarpetLane x = laneOf("mat;rug;beat 0 0 1;beat 1 1 5");
        // By force 1 a turkey suffers nothing, as a pring does: the lesser number counts.
        due(2, x.kindFor(0, 1));
        due(6, x.kindFor(1, 2));
        due(0, x.kindFor(1, 1));
        due(0, x.kindFor(0, 0));
        x.list(0, 0, 2);
        due(6, x.kindFor(0, 60));
        x.change(0, 4, 9999);
        due(0, x.kindFor(0, 60));
        due(5, x.of(0, 0));
        due(BEYOND, x.kindFor(2, 0));
        due(BEYOND, x.kindFor(-1, 0));
        due(BEYOND, x.kindFor(0, -1));
        due(BEYOND, x.kindFor(0, 61));
    }

    static void promise22() {
        CarpetLane x = laneOf("carpet feet 0;carpet feet 0 dust 50 has 4;carpet feet 0;beat 0 1 1;beat 1 2 1");
        due(0, x.shut(2, 2, 0));
        // Itself shut, or the one that sends it: of several the least.
        due(1, x.shut(0, 2, 1));
        due(2, x.shut(2, 2, 1));
        // It comes to carpet 2 on day 0 and goes from there on day 1, back to carpet 1.
        due(0, x.shut(2, 2, 2));
        due(NONE, x.shut(1, 2, 0));
        due(0, x.shut(1, 2, 1));
        due(4, x.shut(1, 2, 2));
        x.change(0, 1, 8);
        due(NONE, x.shut(0, 3, 1));
        due(0, x.shut(0, 3, 0));
        due(0, x.now(7));
        for (int bad : new int[] {-1, 3}) due(BEYOND, x.shut(bad, 0, 0));
        for (int bad : new int[] {-1, 12}) due(BEYOND, x.shut(0, bad, 0));
        for (int bad : new int[] {-1, 21}) due(BEYOND, x.shut(0, 0, bad));
        due(0, x.shut(0, 0, 20));
        due(0, x.shut(0, 11, 20));
        shutTwo();
    }

    private static void shutTwo() {
        CarpetLane x = laneOf("carpet feet 0 dust 90 has 1;carpet feet 0;carpet feet 0 dust 90 has 1;beat 0 0 1;beat 1 2 1");
        // Both sides send it: itself alone, or both of them; one is fewer.
        due(2, x.shut(1, 0, 2));
        x.list(2, 1, 0);
        due(2, x.shut(1, 0, 3));
        // It has it itself, gives it away on day 0, and gets it back from both: two must be shut.
        CarpetLane y = laneOf("carpet feet 0;carpet feet 0 dust 9 has 1;carpet feet 0;beat 0 1 1;beat 1 0 1;beat 2 2 1");
        due(5, y.shut(1, 0, 3));
        y.change(0, 5, 1);
        due(4, y.shut(1, 0, 3));
        y.change(2, 5, 1);
        due(0, y.shut(1, 0, 3));
    }

    static void promise23() {
        CarpetLane x = laneOf("carpet has 3;carpet has 12;carpet has 5;carpet has 15;mat has 16;mat has 1");
        due(0, x.cover(0));
        due(8, x.cover(15));
        due(1, x.cover(1));
        due(1, x.cover(3));
        due(2, x.cover(8));
        due(24, x.cover(31));
        due(NONE, x.cover(32));
        x.change(3, 3, 0);
        due(3, x.cover(15));
        due(3, x.cover(13));
        due(4, x.cover(5));
        due(19, x.cover(31));
        due(BEYOND, x.cover(-1));
        due(BEYOND, x.cover(4096));
        due(NONE, x.cover(4095));
    }

    static void promise24() {
        CarpetLane x = laneOf("carpet feet 0 dust 100;rug feet 0;beat 0 0 6;beat 1 1 9");
        due(BEYOND, x.fits(-1, 0));
        due(BEYOND, x.fits(4, 9));
        due(MISSING, x.fits(0, 9));
        sheet(x, 0, 32);
        due(10, x.fits(0, 0));
        due(BEYOND, x.fits(0, 2));
        due(BEYOND, x.fits(0, -1));
        sheet(x, 0, 32, 100);
        due(10, x.fits(0, 0));
        sheet(x, 0, 32, 99, 70);
        due(0, x.fits(0, 0));
        sheet(x, 0, 32, 100, 70);
        due(1, x.fits(0, 0));
        sheet(x, 0, 8, -1, -1, -1);
        due(10, x.fits(0, 0));
        sheet(x, 0, 16, -1, 70, -1);
        due(1, x.fits(0, 0));
        // What comes over to the rug tells of the force, too: 5 of 20, and all of it goes.
        sheet(x, 0, 32, 0, 5, 0);
        due(1, x.fits(0, 1));
        sheet(x, 0, 32, -1, -1, 0);
        due(10, x.fits(0, 1));
        // Of a beating of carpet 1 with any force above 0 a mat keeps nothing.
        CarpetLane y = laneOf("carpet feet 0;mat feet 0;beat 0 1 9");
        sheet(y, 3, 8, 0, 0);
        due(9, y.fits(3, 1));
        sheet(y, 3, 8, 0, 5);
        due(1, y.fits(3, 1));
        fitsAgain();
    }

    private static void fitsAgain() {
        CarpetLane x = laneOf("carpet feet 0 dust 100;beat 0 0 6");
        x.go(1);
        x.change(0, 2, 100);
        x.list(1, 0, 3);
        // The beating of this day is that in place 1; it comes again behind six days.
        sheet(x, 1, 32, 100, 60, 60, 60, 60, 60, 0, 0);
        due(1, x.fits(1, 0));
        x.list(0, 0, 2);
        due(0, x.fits(1, 0));
        sheet(x, 1, 32, 100, 60, 60, 60, 60, 60, 40, 0);
        due(1, x.fits(1, 0));
        due(3, x.listed(1));
    }

    static void promise25() {
        CarpetLane x = laneOf("mat feet 1 dust 100;rug feet 0;beat 0 0 2");
        due(BEYOND, x.kinds(-1, 0));
        due(BEYOND, x.kinds(4, 9));
        due(MISSING, x.kinds(3, 9));
        sheet(x, 3, 16);
        due(127, x.kinds(3, 0));
        due(BEYOND, x.kinds(3, 2));
        due(BEYOND, x.kinds(3, -1));
        // Behind a day: carpet 82, rug 76, turkey 101, stair 91, aisle 88, mat 0, pring 101.
        int[] dust = {82, 76, 101, 91, 88, 0, 101};
        int[] set = {1, 2, 4 + 64, 8, 16, 32, 4 + 64};
        for (int kind = 0; kind < 7; kind++) {
            sheet(x, 3, 16, 100, dust[kind]);
            due(set[kind], x.kinds(3, 0));
            sheet(x, 3, 32, -1, dust[kind]);
            due(set[kind], x.kinds(3, 0));
        }
        sheet(x, 3, 16, 101, -1);
        due(0, x.kinds(3, 0));
        due(5, x.of(0, 0));
    }

    static void promise26() {
        CarpetLane x = laneOf("carpet feet 1 dust 500;carpet feet 2 dust 500;carpet feet 4 dust 500;carpet feet 8 dust 500");
        CarpetLane y = laneOf("carpet feet 1 dust 500;carpet feet 2 dust 500;carpet feet 4 dust 500;carpet feet 8 dust 500");
        int z = 77, air = 0;
        x.seed(77);
        for (int n = 0; n < 20; n++) {
            z = z * 1103515245 + 12345;
            int whom = (z >>> 8) % 8;
            z = z * 1103515245 + 12345;
            y.list(y.now(0) % 6, whom, (z >>> 8) % 10);
            air = y.go(1);
        }
        due(air, x.spring(20));
        y.seed(z);
        due(1, seen(x).equals(seen(y)) ? 1 : 0);
        due(z, x.count(6));
        due(BEYOND, x.spring(0));
        due(BEYOND, x.spring(21));
        due(BEYOND, x.spring(-1));
        due(z, x.count(6));
        CarpetLane first = new CarpetLane();
        due(0, first.spring(1));
        // From 1: 1103527590 and 2524885223 as an int, whose draws are 4310654 and 9862832.
        due(10 * (4310654 % 8) + 9862832 % 10, first.listed(0));
        due((int) 2524885223L, first.count(6));
    }

    static void promise27() {
        CarpetLane x = laneOf("carpet has 0;rug has 2048;mat has 15;mat has 1023;mat has 4095;mat has 2047");
        due(0, x.odds(0, 1, 0));
        due(1, x.odds(0, 1, 1));
        due(0, x.odds(0, 17, 0));
        due(1, x.odds(0, 17, 1));
        due(1, x.odds(0, 0, 0));
        due(1, x.odds(0, 0, 1));
        due(1, x.odds(1, 17, 0));
        due(2218611106740436992L, x.odds(1, 17, 1));
        due(1, x.odds(2, 2, 0));
        due(9, x.odds(2, 2, 1));
        due(125, x.odds(3, 3, 0));
        due(216, x.odds(3, 3, 1));
        due(1, x.odds(4, 17, 0));
        due(1, x.odds(4, 17, 1));
        due(505447028499293771L, x.odds(5, 17, 0));
        due(BEYOND, x.odds(6, 0, 0));
        due(BEYOND, x.odds(-1, 0, 0));
        due(BEYOND, x.odds(0, -1, 0));
        due(BEYOND, x.odds(0, 18, 0));
        due(BEYOND, x.odds(0, 0, -1));
        due(BEYOND, x.odds(0, 0, 2));
    }

    static void promise28() {
        CarpetLane x = new CarpetLane();
        due(1, x.seed(BEYOND));
        // That is what z was, no finding.
        due(BEYOND, x.seed(LEAST));
        due(LEAST, x.seed(MOST));
        due(MOST, x.count(6));
        due(0, x.status(-1));
    }

    static void promise29() {
        CarpetLane x = new CarpetLane();
        due(BEYOND, x.feed(0, 0));
        due(BEYOND, x.feed(0, 5));
        due(BEYOND, x.feed(0, -1));
        // The three lowest bytes, the highest first: "air"; the byte above them doesn't count.
        due(3, x.feed('x' << 24 | 'a' << 16 | 'i' << 8 | 'r', 3));
        due(4, x.feed('7', 1));
        due(1, x.text());
        due(7, x.now(1));
        for (int i = 1; i <= 29; i++) due(4 * i, x.feed(0x20202020, 4));
        due(118, x.feed(0x2020, 2));
        due(FULL, x.feed(0, 3));
        due(118, x.count(5));
        due(BEYOND, x.feed(0, 5));
        due(120, x.feed(0x2020, 2));
        due(FULL, x.feed(0, 1));
        due(-121, x.text());
        due(2, x.feed(0x6169, 2));
    }

    static void promise30() {
        CarpetLane x = new CarpetLane();
        due(0, x.wipe());
        feed(x, "air 4");
        due(5, x.wipe());
        due(0, x.wipe());
        due(-1, x.text());
        due(1, read(x, "air 6"));
        due(6, x.now(1));
    }

    static void promise31() {
        CarpetLane x = new CarpetLane();
        due(5, read(x, "  pring feet 4095 dust 999has4095shut;mat;beat5 7 9 ; air 9999;air 0042 "));
        due(0, x.count(5));
        carpetIs(x, 0, 6, 4095, 999, 4095, 0, 1, 0);
        carpetIs(x, 1, 5, 1, 0, 0, 0, 0, 0);
        due(79, x.listed(5));
        due(42, x.now(1));
        due(6, read(x, "rug;turkey;stair;aisle;carpet has 1;mat shut"));
        int[] kinds = {1, 2, 3, 4, 0, 5};
        for (int i = 0; i < 6; i++) due(kinds[i], x.of(2 + i, 0));
        due(1, x.of(6, 3));
        due(1, x.of(7, 5));
        due(-1 - 8, read(x, "air 777;mat"));
        due(-1 - 8, read(x, "air 777;mat #"));
        due(42, x.now(1));
        due(0, x.count(5));
        textFaults();
    }

    private static void textFaults() {
        Object[][] faults = {{"", 0}, {"   ", 3}, {";", 0}, {"mat;", 4}, {"mat; ;", 5}, {"mat feet", 8}, {"mat feet  ", 10},
            {"mat feet 4096", 9}, {"mat feet 00000000000000004096", 9}, {"mat feet 99999999999999999999999", 9},
            {"mat dust 1000", 9}, {"mat has 4096", 8}, {"mat dust 1 feet 1", 11}, {"mat has 1 dust 1", 10},
            {"mat shut has 1", 9}, {"mat shut shut", 9}, {"mat feet 1 feet 1", 11}, {"matshut", 0}, {"Mat", 0},
            {"mat Feet 1", 4}, {"mat,mat", 3}, {"mat\tshut", 3}, {"mat feet -1", 9}, {"beat", 4}, {"beat 6 0 0", 5},
            {"beat 0 8 0", 7}, {"beat 0 0 10", 9}, {"beat 0 0", 8}, {"beat 0;0 0", 6}, {"beat 0 0 0 0", 11},
            {"beat 000", 8}, {"air", 3}, {"air 10000", 4}, {"air x", 4}, {"air 1 mat", 6}, {"7", 0}, {"dust 3", 0},
            {"mat \u00e9", 4}, {"mat mat", 4}, {"mat;mats", 4}, {"m at", 0}, {"mat shut #", 9}, {"air 1;;air 1", 6}};
        for (Object[] fault : faults) {
            CarpetLane x = new CarpetLane();
            x.air(5);
            String before = seen(x);
            due(-1 - (Integer) fault[1], read(x, (String) fault[0]));
            due(1, seen(x).equals(before) ? 1 : 0);
            due(0, x.status(-1));
        }
        CarpetLane full = laneOf("rug;rug;rug;rug;rug;rug;rug;rug");
        due(-1 - 6, read(full, "air 8;rug feet 1"));
        due(-1 - 2, read(full, "  rugs"));
        due(-1 - 2, read(full, "  rug"));
        due(8, full.count(1));
        due(0, full.now(1));
        CarpetLane seven = laneOf("rug;rug;rug;rug;rug;rug;rug");
        due(-1 - 4, read(seven, "rug;rug"));
        due(7, seven.count(1));
        due(1, read(seven, "rug"));
    }

    static void promise32() {
        CarpetLane x = laneOf("mat;rug");
        due(1, x.hold(0, 1));
        due(1, x.hold(9, 0));
        due(2, x.count(7));
        due(1, x.as(0, 1));
        due(BEYOND, x.hold(0, 2));
        due(BEYOND, x.hold(0, -2));
        due(BEYOND, x.hold(-1, 0));
        due(BEYOND, x.hold(10, -1));
        due(1, x.as(0, 1));
        due(1, x.hold(0, -1));
        due(MISSING, x.as(0, 0));
        due(1, x.hold(0, -1));
        due(1, x.hold(9, 1));
        due(1, x.as(9, 0));
        due(1, x.count(7));
    }

    static void promise33() {
        boolean[][] isUnder = new boolean[7][7];
        int[][] chains = {{0}, {1, 0}, {2, 0}, {3, 1, 0}, {4, 3, 1, 0}, {5, 0}, {6, 2, 0}};
        for (int kind = 0; kind < 7; kind++) for (int above : chains[kind]) isUnder[kind][above] = true;
        for (int kind = 0; kind < 7; kind++) {
            CarpetLane x = laneOf("mat");
            due(1, x.carpet(kind, 0));
            due(1, x.hold(3, 1));
            for (int asked = 0; asked < 7; asked++) due(isUnder[kind][asked] ? 1 : KIND, x.as(3, asked));
            due(BEYOND, x.as(3, 7));
            due(BEYOND, x.as(3, -1));
        }
        CarpetLane x = new CarpetLane();
        due(BEYOND, x.as(0, 7));
        due(BEYOND, x.as(10, 0));
        due(BEYOND, x.as(-1, 0));
        due(MISSING, x.as(0, 6));
        x.carpet(1, 1);
        x.hold(0, 0);
        due(KIND, x.as(0, 3));
        x.change(0, 0, 4);
        due(0, x.as(0, 3));
    }

    static void promise34() {
        CarpetLane x = new CarpetLane();
        for (int bad : new int[] {-1, 4}) due(BEYOND, x.sheet(bad, 8, -1));
        for (int bad : new int[] {-8, 1, 7, 9, 24, 64}) due(BEYOND, x.sheet(0, bad, -1));
        for (int bits : new int[] {0, 8, 16, 32}) due(SIZE, x.sheet(0, bits, -1));
        for (int bits : new int[] {0, 8, 16, 32}) due(SIZE, x.sheet(0, bits, LEAST));
        for (int bits : new int[] {0, 8, 16, 32}) due(BEYOND, x.sheet(0, bits, 41));
        due(MISSING, x.judge(0));
        due(40, x.sheet(0, 32, 40));
        due(1, x.write(0, 39, 5));
        due(BEYOND, x.write(0, 40, 5));
        due(0, x.sheet(3, 8, 0));
        due(0, x.judge(3));
        due(BEYOND, x.write(3, 0, 1));
        due(0, x.sheet(3, 0, 40));
        due(MISSING, x.judge(3));
        x.carpet(0, 0);
        due(1, x.sheet(0, 32, 1));
        due(0, x.judge(0));
        due(1, x.write(0, 0, 9));
        due(1, x.judge(0));
        due(1, x.sheet(0, 32, 1));
        due(0, x.judge(0));
    }

    static void promise35() {
        CarpetLane x = laneOf("carpet;carpet");
        due(BEYOND, x.write(-1, 0, 0));
        due(BEYOND, x.write(4, 99, 0));
        due(MISSING, x.write(0, 99, 0));
        sheet(x, 0, 8, 0, 0);
        due(BEYOND, x.write(0, 2, 0));
        due(BEYOND, x.write(0, -1, 0));
        due(1, x.write(0, 1, 0x7b05));
        x.change(1, 2, 5);
        due(0, x.judge(0));
        // The eight lowest bits of 200 have a sign: -56, which is nobody's dust.
        due(1, x.write(0, 1, 200));
        x.change(1, 2, 200);
        due(2, x.judge(0));
        sheet(x, 1, 16, 0, 0x70000 + 200);
        due(0, x.judge(1));
        sheet(x, 1, 16, 40000, 0);
        due(0, x.load(1));
        sheet(x, 1, 32, 0, 0x10000 + 200);
        due(2, x.judge(1));
        sheet(x, 1, 8, 255, 255);
        due(10, x.fits(1, 0));
    }

    static void promise36() {
        CarpetLane x = laneOf("carpet dust 1;carpet dust 2;carpet dust 3;carpet dust 4;carpet dust 5");
        due(BEYOND, x.copy(4, 0, 0, 0, -1));
        due(BEYOND, x.copy(0, 0, -1, 0, -1));
        due(BEYOND, x.copy(0, 0, 4, 0, -1));
        due(MISSING, x.copy(3, 0, 3, 0, -1));
        due(MISSING, x.copy(0, 0, 1, 0, -1));
        sheet(x, 0, 16, 3, 4, 5);
        due(MISSING, x.copy(0, 0, 1, 0, -1));
        due(MISSING, x.copy(1, 0, 0, 0, -1));
        sheet(x, 1, 32, 1, 2, 0, 0, 0);
        due(KIND, x.copy(0, 0, 1, 0, -1));
        sheet(x, 1, 16, 1, 2, 0, 0, 0);
        int[][] bad = {{-1, 0, 1}, {0, -1, 1}, {0, 0, -1}, {0, 0, 4}, {1, 0, 3}, {0, 3, 3}, {MOST, 0, 1}, {0, MOST, MOST},
            {MOST, MOST, MOST}, {3, 0, 1}, {4, 0, 0}, {0, 6, 0}, {LEAST, 0, LEAST}};
        for (int[] b : bad) due(BEYOND, x.copy(0, b[0], 1, b[1], b[2]));
        due(3, x.judge(1));
        due(0, x.copy(0, 3, 1, 5, 0));
        due(3, x.copy(0, 0, 1, 2, 3));
        due(0, x.judge(1));
        sheet(x, 2, 8, 1, 1, 2, 3, 4);
        due(4, x.copy(2, 1, 2, 0, 4));
        x.change(4, 2, 4);
        due(0, x.judge(2));
        due(4, x.copy(2, 0, 2, 1, 4));
        for (int c = 0; c < 4; c++) x.change(c + 1, 2, c + 1);
        due(0, x.judge(2));
    }

    static void promise37() {
        CarpetLane x = laneOf("carpet;carpet;carpet");
        due(BEYOND, x.load(-1));
        due(BEYOND, x.load(4));
        due(MISSING, x.load(2));
        sheet(x, 2, 32, 4095, 0, 7, 9);
        due(3, x.load(2));
        due(4095, x.of(0, 1));
        due(0, x.of(1, 1));
        due(7, x.of(2, 1));
        sheet(x, 2, 32, 5, 4096, 6);
        due(1, x.load(2));
        due(5, x.of(0, 1));
        due(0, x.of(1, 1));
        due(7, x.of(2, 1));
        sheet(x, 2, 8, 1, 2, -1);
        due(2, x.load(2));
        due(7, x.of(2, 1));
        sheet(x, 2, 8);
        due(0, x.load(2));
        due(0, x.of(0, 3));
    }

    static void promise38() {
        CarpetLane x = laneOf("carpet dust 3;carpet dust 999;carpet");
        due(BEYOND, x.judge(-1));
        due(BEYOND, x.judge(4));
        due(MISSING, x.judge(1));
        sheet(x, 1, 16);
        due(0, x.judge(1));
        sheet(x, 1, 16, 3, 999);
        due(0, x.judge(1));
        sheet(x, 1, 16, 3, 999, 0);
        due(0, x.judge(1));
        sheet(x, 1, 16, 3, 999, 0, 0);
        due(4, x.judge(1));
        sheet(x, 1, 16, 3, 998, 1);
        due(2, x.judge(1));
        sheet(x, 1, 16, -1, 999, 0);
        due(1, x.judge(1));
    }

    static void promise39() {
        CarpetLane x = laneOf("rug feet 6 dust 7 has 5 shut;mat;beat 2 1 8;air 66");
        x.change(0, 4, 12);
        x.change(0, 6, 13);
        x.seed(-9);
        x.hold(4, 1);
        x.go(3);
        String before = seen(x);
        due(1, x.image());
        for (int what = 0; what < 7; what++) x.change(0, what, 1);
        x.list(2, 3, 3);
        x.list(0, 3, 3);
        x.spring(9);
        x.hold(4, -1);
        x.hold(5, 0);
        x.carpet(6, 3);
        for (int what = 0; what < 7; what++) x.change(2, what, 1);
        x.air(1);
        due(3, x.undo());
        due(1, seen(x).equals(before) ? 1 : 0);
        due(1, x.as(4, 5));
        due(MISSING, x.as(5, 0));
        // A carpet that is laid behind an undo is new in all.
        due(2, x.carpet(2, 0));
        carpetIs(x, 2, 2, 0, 0, 0, 0, 0, 0);
    }

    static void promise40() {
        CarpetLane x = laneOf("mat");
        due(NONE, x.undo());
        x.image();
        x.go(2);
        x.image();
        x.go(5);
        due(2, x.undo());
        x.go(9);
        x.carpet(0, 0);
        due(2, x.undo());
        due(1, x.count(1));
        due(2, x.undo());
        due(2, x.now(0));
        // The tape and the sheets stay as they are.
        feed(x, "air 3");
        sheet(x, 0, 8, 1);
        due(2, x.undo());
        due(5, x.count(5));
        due(1, x.load(0));
        due(1, x.status(-1));
        due(BEYOND, x.go(0));
        due(2, x.undo());
        due(2, x.status(-1));
    }

    static void promise41() {
        CarpetLane x = new CarpetLane();
        due(0, x.tear());
        x.image();
        x.go(4);
        due(1, x.tear());
        due(0, x.tear());
        due(NONE, x.undo());
        due(4, x.now(0));
    }

    static void promise42() {
        CarpetLane x = laneOf("carpet feet 0 dust 3;rug feet 0 dust 9;air 12");
        x.change(0, 4, 5);
        x.change(1, 4, 6);
        x.seed(-77);
        x.hold(1, 0);
        x.hold(2, 0);
        x.hold(9, 1);
        feed(x, "abc");
        x.change(0, 5, 1);
        x.go(7);
        int[] wanted = {7, 2, 12, 12, 11, 3, -77, 3};
        for (int what = 0; what < 8; what++) due(wanted[what], x.count(what));
        due(BEYOND, x.count(-1));
        due(BEYOND, x.count(8));
    }

    static void promise43() {
        CarpetLane x = laneOf("mat");
        due(0, x.status(0));
        due(BEYOND, x.status(7));
        due(BEYOND, x.status(-2));
        due(2, x.status(0));
        x.hold(0, 0);
        for (int i = 0; i < 3; i++) x.as(0, 1);
        for (int i = 0; i < 4; i++) x.undo();
        x.change(0, 5, 1);
        for (int i = 0; i < 5; i++) x.beat(0, 1);
        for (int i = 0; i < 6; i++) x.judge(0);
        for (int i = 0; i < 7; i++) x.sheet(0, 8, -1);
        for (int i = 0; i < 30; i++) x.feed(0, 4);
        for (int i = 0; i < 8; i++) x.feed(0, 1);
        x.odds(9, 0, 0);
        int[] wanted = {36, 3, 8, 3, 4, 5, 6, 7};
        for (int which = -1; which <= 6; which++) due(wanted[which + 1], x.status(which));
        x.text();
        due(36, x.status(-1));
        // Behind a text fault and an undo() it is as it was.
        x.image();
        x.who(12);
        x.undo();
        due(37, x.status(-1));
        due(4, x.status(0));
    }

    // ---- across promises

    private static CarpetLane rich() {
        CarpetLane x = laneOf("carpet feet 3 dust 70 has 2050;rug feet 4 dust 999 has 7;stair feet 15 shut;turkey feet 1 dust 60;mat has 8");
        due(4, read(x, "aisle feet 4095;pring dust 9 has 1;carpet feet 0;air 700"));
        due(6, read(x, "beat 0 0 9;beat 1 1 4;beat 2 6 7;beat 3 4 1;beat 4 3 5;beat 5 5 2"));
        x.hold(2, 4);
        sheet(x, 1, 16, 70, 999);
        x.go(5);
        feed(x, "air 1");
        return x;
    }

    private static void same(CarpetLane x, String before, int number) {
        row = number;
        due(1, seen(x).equals(before) ? 1 : 0);
    }

    /** Acts that answer a finding leave all as it was but status(). */
    private static void findingsChangeNothing() {
        CarpetLane x = rich();
        String before = seen(x);
        long[] got = {x.air(-1), x.list(6, 1, 1), x.list(1, 8, 1), x.list(1, 1, 10), x.carpet(0, 0), x.carpet(9, 0),
            x.change(0, 2, 1000), x.change(0, 7, 0), x.beat(2, 5), x.beat(0, 10), x.go(0), x.go(61), x.comes(0, 12),
            x.forceFor(0, 0, 60), x.shut(0, 0, 1), x.cover(4096), x.fits(0, 0), x.kinds(1, 8), x.spring(21), x.spring(0),
            x.odds(0, 18, 0), x.feed(1, 0), x.hold(2, 8), x.as(2, 1), x.as(3, 0), x.sheet(1, 7, 2), x.sheet(1, 8, -1),
            x.sheet(1, 0, -1), x.sheet(1, 8, 41), x.write(1, 2, 5), x.copy(1, 0, 1, 1, 2), x.load(0), x.judge(9), x.undo(),
            x.now(8), x.count(8), x.status(9)};
        for (int i = 0; i < got.length; i++) {
            row = 100 + i;
            due(1, got[i] <= BEYOND && got[i] >= SIZE ? 1 : 0);
        }
        due(got.length, x.status(-1));
        same(x, before, 200);
        due(4, x.as(2, 5));
        x.change(0, 2, 70);
        x.change(1, 2, 999);
        due(0, x.judge(1));
        due(1, x.text());
        due(1, x.now(1));
    }

    /** What asks what will be, or how to beat, changes nothing. */
    private static void questionsChangeNothing() {
        CarpetLane x = rich();
        String before = seen(x);
        x.ahead(0, 2, 100);
        x.haze(100);
        x.comes(7, 11);
        x.dusty(0, 999);
        x.clean(0, 0);
        x.worn(0, 999);
        same(x, before, 300);
        x.forceFor(0, 900, 30);
        x.turnFor(0, 30);
        x.kindFor(0, 30);
        x.shut(1, 5, 20);
        x.cover(7);
        x.fits(1, 0);
        x.kinds(1, 0);
        x.odds(0, 4, 1);
        x.judge(1);
        x.under(0, 0, 9);
        x.who(3);
        x.as(2, 0);
        same(x, before, 301);
    }
}
