/** Promises 29 to 43, each sentence that names an edge: texts, spots, sheets, images. */
public final class TapeEdgesTest extends Edges {
    private static final int[] BITS = {8, 16, 32};

    public static void main(String[] args) throws Exception {
        run(TapeEdgesTest.class, 29, 43);
    }

    /** A lane whose tape has so many bytes: a text, and blanks behind it. */
    private static CarpetLane fed(int many) {
        CarpetLane x = laneOf("mat dust 3");
        feed(x, "air 7" + " ".repeat(many - 5));
        return x;
    }

    // ---- 29: feed

    static void feedBytes() {
        at(29, "THE TAPE gets the n lowest bytes of a number behind it, the highest of these first (n 1 to 4): how many it has.");
        bounds(Edges::some, 1, 4, v -> x -> x.feed(0x61697237, v));
        bounds(CarpetLane::new, 1, 4, v -> x -> x.feed(-1, v));
        CarpetLane x = new CarpetLane();
        due(4, x.feed(0x61697237, 4));
        due(5, x.feed(0x23232338, 1));
        due(7, x.feed(0x23233b61, 2));
        due(10, x.feed(0x23697239, 3));
        due(2, x.text());
        due(9, x.now(1));
        due(4, x.feed(LEAST, 4));
        due(-1, x.text());
    }

    static void feedBeyondBeforeFull() {
        at(29, "BEYOND: n. FULL.");
        for (int many = 116; many <= 120; many++) {
            int m = many;
            for (int n = 1; n <= 4; n++) {
                int k = n;
                if (many + n > 120) refused(() -> fed(m), FULL, x -> x.feed(0x20202020, k));
                else due(many + n, fed(many).feed(0x20202020, n));
            }
            refused(() -> fed(m), BEYOND, x -> x.feed(0, 5));
            refused(() -> fed(m), BEYOND, x -> x.feed(0, 0));
        }
        // What was too much leaves room for less.
        CarpetLane x = fed(118);
        due(FULL, x.feed(0x3b3b3b3b, 4));
        due(FULL, x.feed(0x3b3b3b, 3));
        due(120, x.feed(0x2020, 2));
        due(FULL, x.feed(0, 1));
        due(1, x.text());
        due(7, x.now(1));
        due(1, x.feed(0, 1));
    }

    // ---- 30: wipe

    static void wipeEmptyAndFull() {
        at(30, "THE TAPE is empty: how many it had.");
        CarpetLane x = fed(120);
        due(120, x.wipe());
        due(0, x.count(5));
        due(0, x.wipe());
        due(-1, x.text());
        due(0, x.now(1));
        due(1, x.feed(' ', 1));
        due(1, x.wipe());
        due(0, x.status(-1));
        due(0, new CarpetLane().wipe());
    }

    // ---- 31: text

    static void textLeavesTheTapeEmpty() {
        at(31, "THE TAPE is a TEXT, and empty then");
        CarpetLane x = new CarpetLane();
        due(-1, x.text());
        due(1, read(x, "air 5"));
        due(0, x.count(5));
        due(-1, x.text());
        due(-1 - 3, read(x, "mat#"));
        due(0, x.count(5));
        due(-1, x.text());
        due(0, x.count(1));
    }

    static void textItemByItem() {
        at(31, "all that it tells is so, item by item: how many ITEMS.");
        CarpetLane x = new CarpetLane();
        due(1, read(x, "pring feet 4095 dust 999 has 4095 shut"));
        carpetIs(x, 0, 6, 4095, 999, 4095, 0, 1, 0);
        due(7, read(x, "air 1;air 2;beat 0 1 1;beat 0 2 2;mat feet 0 dust 0 has 0;rug;air 3"));
        carpetIs(x, 1, 5, 0, 0, 0, 0, 0, 0);
        carpetIs(x, 2, 1, 1, 0, 0, 0, 0, 0);
        due(22, x.listed(0));
        due(3, x.now(1));
        due(0, x.now(0));
        // Eight carpets are as many as there can be.
        due(5, read(x, "mat;mat;mat;mat;mat"));
        due(8, x.count(1));
    }

    static void textWithAFault() {
        at(31, "With a FAULT: -1 less the FAULT (nothing changes but that THE TAPE is empty; no finding).");
        // In a lane of five carpets there is room for three more.
        String[] texts = {"", "#", "mat;air 9;beat 0 1 1;#", "mat feet 3 dust 4;rug shut;air 10000", "mat;rug;stair;aisle"};
        int[] faults = {0, 0, 21, 31, 14};
        for (int i = 0; i < texts.length; i++) {
            CarpetLane x = some();
            CarpetLane y = some();
            due(9, x.wipe());
            due(9, y.wipe());
            due(-1 - faults[i], read(x, texts[i]));
            due(0, x.status(-1));
            due(probed(y), probed(x));
        }
        due(-1 - 120, read(new CarpetLane(), "air 1;".repeat(20)));
        due(-1 - 119, read(new CarpetLane(), "air 1;".repeat(19) + "air 1#"));
    }

    // ---- 32: hold

    static void holdSpotBounds() {
        at(32, "A SPOT holds a CARPET");
        bounds(Edges::some, 0, 9, v -> x -> x.hold(v, 0));
        bounds(Edges::some, 0, 9, v -> x -> x.hold(v, -1));
    }

    static void holdCarpetBounds() {
        at(32, "or nothing (-1): 1. BEYOND.");
        bounds(Edges::some, -1, 4, v -> x -> x.hold(2, v));
        bounds(Edges::full, -1, 7, v -> x -> x.hold(9, v));
        bounds(CarpetLane::new, -1, -1, v -> x -> x.hold(0, v));
        CarpetLane x = full();
        for (int spot = 0; spot < 10; spot++) due(1, x.hold(spot, 7));
        due(10, x.count(7));
        for (int spot = 0; spot < 10; spot++) due(7, x.as(spot, 0));
        for (int spot = 0; spot < 10; spot++) due(1, x.hold(spot, -1));
        due(0, x.count(7));
        due(1, x.hold(0, -1));
        due(MISSING, x.as(0, 0));
    }

    // ---- 33: as

    static void asBounds() {
        at(33, "What a SPOT holds as one of a kind (0 to 6): the number of the CARPET. BEYOND.");
        bounds(Edges::some, 0, 6, v -> x -> x.as(2, v));
        bounds(Edges::some, 0, 9, v -> x -> x.as(v, 0));
        asks(Edges::some, 1, x -> x.as(2, 1));
        asks(Edges::some, 0, x -> x.as(9, 0));
    }

    static void asMissing() {
        at(33, "MISSING: it holds nothing.");
        refused(Edges::some, MISSING, x -> x.as(0, 0));
        refused(Edges::some, MISSING, x -> x.as(8, 6));
        refused(Edges::some, BEYOND, x -> x.as(0, 7));
        refused(Edges::some, BEYOND, x -> x.as(0, -1));
        refused(CarpetLane::new, MISSING, x -> x.as(9, 0));
    }

    static void asKind() {
        at(33, "KIND: it isn't of that kind, nor of one under it.");
        int[][] above = {{0}, {0, 1}, {0, 2}, {0, 1, 3}, {0, 1, 3, 4}, {0, 5}, {0, 2, 6}};
        CarpetLane x = laneOf("mat;carpet");
        x.hold(5, 1);
        for (int kind = 0; kind < 7; kind++) {
            x.change(1, 0, kind);
            int set = 0;
            for (int a : above[kind]) set |= 1 << a;
            for (int asked = 0; asked < 7; asked++) due((set >> asked & 1) == 1 ? 1 : KIND, x.as(5, asked));
        }
        refused(Edges::some, KIND, y -> y.as(2, 3));
        refused(Edges::some, KIND, y -> y.as(2, 6));
        refused(Edges::some, BEYOND, y -> y.as(2, 7));
    }

    // ---- 34: sheet

    static void sheetHasNumbers() {
        at(34, "A sheet has n numbers, all 0, of 8, 16 or 32 bits");
        for (int bits : BITS) {
            for (int s = 0; s < 4; s++) {
                CarpetLane x = laneOf("carpet;mat");
                due(0, x.sheet(s, bits, 0));
                due(BEYOND, x.write(s, 0, 0));
                due(40, x.sheet(s, bits, 40));
                due(1, x.write(s, 39, 5));
                due(BEYOND, x.write(s, 40, 5));
                due(1, x.write(s, 1, 5));
                due(2, x.judge(s));
                due(1, x.write(s, 0, 5));
                due(1, x.judge(s));
                due(2, x.sheet(s, bits, 2));
                due(0, x.judge(s));
                due(BEYOND, x.write(s, 2, 0));
                // What was behind the end doesn't come again.
                due(40, x.sheet(s, bits, 40));
                due(1, x.copy(s, 39, s, 0, 1));
                due(3, x.judge(s));
                due(1, x.sheet(s, bits, 1));
            }
        }
    }

    static void sheetMissing() {
        at(34, "bits 0: it is MISSING: n (0 if it is MISSING).");
        for (int n : new int[] {0, 1, 40}) {
            CarpetLane x = new CarpetLane();
            due(3, x.sheet(1, 16, 3));
            due(0, x.sheet(1, 0, n));
            due(MISSING, x.judge(1));
            due(MISSING, x.write(1, 0, 0));
            due(0, x.sheet(1, 0, n));
            due(n, x.sheet(1, 8, n));
            due(n == 0 ? 0 : 1, x.judge(1));
        }
    }

    static void sheetBounds() {
        at(34, "BEYOND: no such sheet, other bits.");
        bounds(Edges::some, 0, 3, v -> x -> x.sheet(v, 8, 2));
        bounds(Edges::some, 0, 3, v -> x -> x.sheet(v, 0, 0));
        for (int bad : new int[] {LEAST, -32, -8, -1, 1, 7, 9, 15, 17, 24, 31, 33, 64, MOST}) {
            refused(Edges::some, BEYOND, x -> x.sheet(0, bad, 2));
            refused(Edges::some, BEYOND, x -> x.sheet(0, bad, -1));
        }
        refused(Edges::some, BEYOND, x -> x.sheet(4, 8, -1));
        refused(Edges::some, BEYOND, x -> x.sheet(-1, 0, -1));
    }

    static void sheetSize() {
        at(34, "SIZE: n is below 0 (also with bits 0).");
        for (int bits : new int[] {0, 8, 16, 32}) {
            refused(Edges::some, SIZE, x -> x.sheet(0, bits, -1));
            refused(Edges::some, SIZE, x -> x.sheet(3, bits, LEAST));
            due(0, some().sheet(0, bits, 0));
        }
    }

    static void sheetTooLong() {
        at(34, "BEYOND: n is above 40.");
        for (int bits : new int[] {0, 8, 16, 32}) {
            refused(Edges::some, BEYOND, x -> x.sheet(0, bits, 41));
            refused(Edges::some, BEYOND, x -> x.sheet(3, bits, MOST));
            due(bits == 0 ? 0 : 40, some().sheet(0, bits, 40));
        }
    }

    // ---- 35: write

    static void writeLowestBits() {
        at(35, "Number i of a sheet becomes v (its lowest bits): 1.");
        // By bits: what is written, and which feet it comes to be (-1: none, as it is below 0 or above 4095).
        int[][][] rows = {
            {{0, 0}, {127, 127}, {128, -1}, {255, -1}, {256, 0}, {-1, -1}, {-128, -1}, {-129, 127}, {0x7fffff05, 5}, {LEAST, 0}, {MOST, -1}},
            {{4095, 4095}, {4096, -1}, {32767, -1}, {32768, -1}, {65535, -1}, {65536, 0}, {0x7fff0fff, 4095}, {-65535, 1}, {LEAST, 0}},
            {{4095, 4095}, {4096, -1}, {65536, -1}, {0x7fff0fff, -1}, {-1, -1}, {LEAST, -1}, {MOST, -1}, {0, 0}}};
        for (int b = 0; b < 3; b++) {
            for (int[] row : rows[b]) {
                CarpetLane x = laneOf("carpet feet 77");
                sheet(x, 2, BITS[b], row[0]);
                due(row[1] < 0 ? 0 : 1, x.load(2));
                due(row[1] < 0 ? 77 : row[1], x.of(0, 1));
            }
            CarpetLane x = laneOf("carpet dust 100");
            int[] any = {255, 65535, -1};
            sheet(x, 2, BITS[b], any[b]);
            due(10, x.fits(2, 0));
            x.write(2, 0, any[b] - 1);
            due(0, x.fits(2, 0));
        }
    }

    static void writeFindings() {
        at(35, "BEYOND: no such sheet. MISSING. BEYOND: no such number.");
        for (int bad : new int[] {LEAST, -1, 4, MOST}) refused(Edges::some, BEYOND, x -> x.write(bad, 0, 5));
        for (int s = 0; s < 4; s++) {
            CarpetLane x = new CarpetLane();
            due(1, x.sheet(s, 8, 1));
            due(1, x.write(s, 0, 5));
        }
        bounds(Edges::some, 0, 3, v -> x -> x.write(0, v, 5));
        bounds(Edges::some, 0, 2, v -> x -> x.write(1, v, 5));
        refused(Edges::some, BEYOND, x -> x.write(2, 0, 5));
        refused(Edges::some, BEYOND, x -> x.write(2, -1, 5));
        refused(Edges::some, MISSING, x -> x.write(3, 0, 5));
        refused(Edges::some, MISSING, x -> x.write(3, -1, 5));
        refused(Edges::some, BEYOND, x -> x.write(4, 0, 5));
        refused(CarpetLane::new, MISSING, x -> x.write(0, 0, 5));
    }

    // ---- 36: copy

    /** Four numbers that are the carpets' dust if they stand one place further on, and a row of zeros. */
    private static CarpetLane rows() {
        CarpetLane x = laneOf("carpet dust 1;carpet dust 1;carpet dust 2;carpet dust 3;carpet dust 4");
        sheet(x, 0, 16, 1, 2, 3, 4, 9);
        sheet(x, 1, 16, 0, 0, 0);
        sheet(x, 2, 8, 7, 7);
        return x;
    }

    static void copyAsTheyAllWere() {
        at(36, "n numbers of a sheet from one on come to another one from one on (as they all were): n.");
        CarpetLane up = rows();
        due(4, up.copy(0, 0, 0, 1, 4));
        due(0, up.judge(0));
        due(4, up.copy(0, 1, 0, 0, 4));
        for (int c = 0; c < 5; c++) up.change(c, 2, Math.min(4, c + 1));
        due(0, up.judge(0));
        CarpetLane other = rows();
        due(3, other.copy(0, 0, 1, 0, 3));
        for (int c = 0; c < 3; c++) other.change(c, 2, c + 1);
        due(0, other.judge(1));
        due(5, other.copy(0, 0, 0, 0, 5));
        due(0, other.copy(0, 5, 1, 3, 0));
        due(0, other.copy(1, 0, 0, 0, 0));
        due(0, other.judge(1));
        for (int bits : BITS) {
            CarpetLane x = new CarpetLane();
            due(40, x.sheet(2, bits, 40));
            due(40, x.sheet(3, bits, 40));
            due(40, x.copy(2, 0, 3, 0, 40));
            due(1, x.copy(2, 39, 3, 39, 1));
            due(0, x.copy(2, 40, 3, 40, 0));
            due(BEYOND, x.copy(2, 0, 3, 0, 41));
            due(BEYOND, x.copy(2, 1, 3, 0, 40));
            due(BEYOND, x.copy(2, 0, 3, 1, 40));
        }
    }

    static void copyNoSuchSheet() {
        at(36, "BEYOND: no such sheet (either).");
        bounds(TapeEdgesTest::rows, 0, 3, v -> x -> x.copy(v, 0, 0, 0, 0));
        bounds(TapeEdgesTest::rows, 0, 3, v -> x -> x.copy(0, 0, v, 0, 0));
        refused(TapeEdgesTest::rows, BEYOND, x -> x.copy(4, 0, 3, 0, -1));
        refused(TapeEdgesTest::rows, BEYOND, x -> x.copy(3, 0, 4, 0, -1));
    }

    static void copyMissing() {
        at(36, "MISSING: one is.");
        refused(TapeEdgesTest::rows, MISSING, x -> x.copy(3, 0, 0, 0, 0));
        refused(TapeEdgesTest::rows, MISSING, x -> x.copy(0, 0, 3, 0, 0));
        refused(TapeEdgesTest::rows, MISSING, x -> x.copy(3, 0, 3, 0, 0));
        refused(TapeEdgesTest::rows, MISSING, x -> x.copy(3, -1, 2, -1, -1));
    }

    static void copyKind() {
        at(36, "KIND: they are not of as many bits.");
        refused(TapeEdgesTest::rows, KIND, x -> x.copy(0, 0, 2, 0, 1));
        refused(TapeEdgesTest::rows, KIND, x -> x.copy(2, 0, 1, 0, 0));
        refused(TapeEdgesTest::rows, KIND, x -> x.copy(2, -1, 1, -1, -1));
        for (int a : BITS) {
            for (int b : BITS) {
                CarpetLane x = new CarpetLane();
                x.sheet(0, a, 2);
                x.sheet(1, b, 2);
                due(a == b ? 2 : KIND, x.copy(0, 0, 1, 0, 2));
            }
        }
    }

    static void copyTooFar() {
        at(36, "BEYOND: one has not so many, or from, to or n is below 0.");
        int[][] good = {{0, 0, 3}, {2, 0, 3}, {4, 2, 1}, {5, 3, 0}, {0, 0, 0}};
        for (int[] g : good) due(g[2], rows().copy(0, g[0], 1, g[1], g[2]));
        int[][] bad = {{0, 0, 4}, {3, 0, 3}, {5, 0, 1}, {6, 0, 0}, {0, 1, 3}, {0, 3, 1}, {0, 4, 0}, {-1, 0, 1}, {0, -1, 1}, {0, 0, -1},
            {-1, 0, 0}, {0, -1, 0}, {LEAST, 0, 1}, {0, LEAST, 1}, {0, 0, LEAST}, {MOST, 0, 1}, {0, MOST, 1}, {0, 0, MOST},
            {MOST, MOST, MOST}, {1, 1, MOST}, {LEAST, LEAST, LEAST}, {1, 1, LEAST}};
        for (int[] b : bad) refused(TapeEdgesTest::rows, BEYOND, x -> x.copy(0, b[0], 1, b[1], b[2]));
        refused(TapeEdgesTest::rows, BEYOND, x -> x.copy(1, 0, 0, 0, 4));
    }

    // ---- 37: load

    static void loadFeet() {
        at(37, "Numbers of a sheet, from its begin on, become FEET of CARPETS 0, 1, ..: how many came.");
        CarpetLane x = full();
        sheet(x, 3, 32, 0, 4095, 1, 2, 3, 4, 5, 6);
        due(8, x.load(3));
        int[] feet = {0, 4095, 1, 2, 3, 4, 5, 6};
        for (int c = 0; c < 8; c++) due(feet[c], x.of(c, 1));
        x.sheet(3, 8, 0);
        due(0, x.load(3));
        x.sheet(3, 8, 3);
        due(3, x.load(3));
        for (int c = 0; c < 8; c++) due(c < 3 ? 0 : feet[c], x.of(c, 1));
    }

    static void loadEnds() {
        at(37, "It ends at the first that isn't 0 to 4095, or for which there is no CARPET.");
        for (int bad : new int[] {-1, 4096, LEAST, MOST}) {
            for (int place = 0; place < 3; place++) {
                CarpetLane x = laneOf("carpet feet 9;carpet feet 9;carpet feet 9");
                sheet(x, 0, 32, 5, 5, 5);
                x.write(0, place, bad);
                due(place, x.load(0));
                for (int c = 0; c < 3; c++) due(c < place ? 5 : 9, x.of(c, 1));
                due(0, x.status(-1));
            }
        }
        CarpetLane few = laneOf("carpet feet 9;carpet feet 9");
        sheet(few, 0, 16, 1, 2, 3);
        due(2, few.load(0));
        sheet(few, 0, 16, 1, 2, -3);
        due(2, few.load(0));
        due(0, few.status(-1));
        CarpetLane none = new CarpetLane();
        none.sheet(0, 8, 40);
        due(0, none.load(0));
        CarpetLane many = full();
        many.sheet(3, 8, 40);
        due(8, many.load(3));
    }

    static void loadFindings() {
        at(37, "BEYOND: no such sheet. MISSING.");
        bounds(Edges::some, 0, 3, v -> x -> x.load(v));
        refused(Edges::some, MISSING, x -> x.load(3));
        refused(CarpetLane::new, MISSING, x -> x.load(0));
    }

    // ---- 38: judge

    static void judgeDust() {
        at(38, "THE READER: numbers of a sheet are DUST of CARPETS 0, 1, ..: 0 if so; else 1 and the place of the first that isn't so.");
        CarpetLane x = full();
        int[] dust = {0, 999, 1, 2, 3, 4, 5, 6};
        for (int c = 0; c < 8; c++) x.change(c, 2, dust[c]);
        sheet(x, 3, 16, dust);
        due(0, x.judge(3));
        for (int c = 7; c >= 0; c--) {
            x.write(3, c, dust[c] + 1);
            due(1 + c, x.judge(3));
        }
        sheet(x, 3, 16, 0, 999, 1);
        due(0, x.judge(3));
        sheet(x, 3, 16, 0, 999, 1, 2, 3, 4, 5, 6, 0);
        due(9, x.judge(3));
        sheet(x, 3, 32, 65536, 999);
        due(1, x.judge(3));
        sheet(x, 3, 16, -1, 999);
        due(1, x.judge(3));
        x.sheet(3, 8, 0);
        due(0, x.judge(3));
        due(0, new CarpetLane().sheet(0, 8, 0));
        CarpetLane none = new CarpetLane();
        none.sheet(0, 8, 0);
        due(0, none.judge(0));
        none.sheet(0, 8, 40);
        due(1, none.judge(0));
    }

    static void judgeFindings() {
        at(38, "BEYOND: no such sheet. MISSING.");
        bounds(Edges::some, 0, 3, v -> x -> x.judge(v));
        refused(Edges::some, MISSING, x -> x.judge(3));
        refused(CarpetLane::new, MISSING, x -> x.judge(0));
        asks(Edges::some, 1, x -> x.judge(0));
        asks(Edges::some, 0, x -> x.judge(2));
    }

    // ---- 39: image

    static void imageKeepsAllButTapeAndSheets() {
        at(39, "All but THE TAPE and SHEETS is kept: 1.");
        CarpetLane x = some();
        due(1, x.image());
        String before = seen(x);
        x.wipe();
        due(8, read(x, "air 1;beat 5 6 7;mat;mat;mat;beat 0 0 0;air 2;air 3"));
        for (int c = 0; c < 8; c++) for (int what = 0; what < 7; what++) x.change(c, what, 1);
        x.spring(3);
        x.seed(5);
        x.hold(2, 7);
        x.hold(0, 7);
        due(5, x.undo());
        due(1, x.as(2, 1));
        due(MISSING, x.as(0, 0));
        // The tape has become empty since: that stays, and the rest is as it was.
        feed(x, "air 3;mat");
        due(before, seen(x));
        due(1, new CarpetLane().image());
    }

    static void imageLeavesTapeAndSheets() {
        at(39, "THE TAPE and SHEETS");
        CarpetLane x = laneOf("carpet dust 4");
        sheet(x, 0, 8, 3);
        feed(x, "air 9");
        x.image();
        x.write(0, 0, 4);
        x.sheet(1, 16, 0);
        feed(x, "8");
        x.undo();
        due(0, x.judge(0));
        due(0, x.judge(1));
        due(6, x.count(5));
        due(1, x.text());
        due(98, x.now(1));
    }

    // ---- 40: undo

    static void undoToTheLatest() {
        at(40, "It becomes what was kept latest (which stays): DAY.");
        CarpetLane x = new CarpetLane();
        x.image();
        x.go(60);
        x.image();
        x.carpet(0, 0);
        x.go(3);
        for (int i = 0; i < 3; i++) {
            due(60, x.undo());
            due(0, x.count(1));
            x.carpet(i, 7);
            x.change(0, 2, 999);
            x.go(60);
        }
        x.image();
        due(120, x.undo());
        due(999, x.of(0, 2));
        CarpetLane empty = new CarpetLane();
        empty.image();
        due(0, empty.undo());
        due(0, empty.status(-1));
    }

    static void undoNothingKept() {
        at(40, "NONE: nothing is kept.");
        refused(CarpetLane::new, NONE, x -> x.undo());
        refused(() -> laneOf("mat;air 4"), NONE, x -> x.undo());
        Made torn = () -> {
            CarpetLane x = some();
            x.tear();
            return x;
        };
        refused(torn, NONE, x -> x.undo());
        CarpetLane again = torn.lane();
        again.image();
        due(5, again.undo());
    }

    // ---- 41: tear

    static void tearOnce() {
        at(41, "Nothing is kept: 1 if something was, else 0.");
        asks(CarpetLane::new, 0, x -> x.tear());
        CarpetLane x = some();
        String before = seen(x);
        x.image();
        due(1, x.tear());
        due(0, x.tear());
        due(before, seen(x));
        due(NONE, x.undo());
        due(1, x.image());
        due(1, x.tear());
        due(1, x.status(-1));
    }

    // ---- 42: count

    static void countBounds() {
        at(42, "BEYOND: another what.");
        bounds(Edges::some, 0, 7, v -> x -> x.count(v));
        bounds(CarpetLane::new, 0, 7, v -> x -> x.count(v));
    }

    static void countEmptyAndFull() {
        at(42, "0 DAY, 1 CARPETS, 2 AIR, 3 DUST of all together, 4 WEAR of all together, 5 bytes of THE TAPE, 6 z, 7 SPOTS that hold something.");
        int[] first = {0, 0, 0, 0, 0, 0, 1, 0};
        CarpetLane empty = new CarpetLane();
        for (int what = 0; what < 8; what++) due(first[what], empty.count(what));
        CarpetLane x = full();
        for (int c = 0; c < 8; c++) {
            x.change(c, 2, 999);
            x.change(c, 4, 9999);
        }
        x.air(99999);
        feed(x, " ".repeat(111));
        x.seed(LEAST);
        for (int spot = 0; spot < 10; spot++) x.hold(spot, 0);
        int[] most = {5, 8, 99999, 7992, 79992, 120, LEAST, 10};
        for (int what = 0; what < 8; what++) due(most[what], x.count(what));
        due(0, x.status(-1));
    }

    // ---- 43: status

    static void statusBounds() {
        at(43, "BEYOND (counted from then on): another one.");
        bounds(Edges::some, -1, 6, v -> x -> x.status(v));
        bounds(CarpetLane::new, -1, 6, v -> x -> x.status(v));
        CarpetLane x = new CarpetLane();
        due(BEYOND, x.status(7));
        due(1, x.status(0));
        due(BEYOND, x.status(-2));
        due(2, x.status(0));
        due(2, x.status(-1));
        for (int which = 1; which <= 6; which++) due(0, x.status(which));
    }

    static void statusCountsEach() {
        at(43, "which -1: all, 0 to 6: BEYOND to SIZE.");
        Call[] calls = {x -> x.odds(0, 18, 0), x -> x.carpet(0, 0), x -> x.as(2, 2), x -> x.cover(1024), x -> x.beat(2, 1),
            x -> x.judge(3), x -> x.sheet(0, 0, -1)};
        for (int which = 0; which < 7; which++) {
            CarpetLane x = full();
            for (int i = 1; i <= 3; i++) {
                due(BEYOND - which, calls[which].on(x));
                for (int w = 0; w < 7; w++) due(w == which ? i : 0, x.status(w));
                due(i, x.status(-1));
            }
        }
    }

    static void statusIsNotUndone() {
        at(43, "How many acts answered a finding ever (undo() takes none back)");
        CarpetLane x = some();
        due(BEYOND, x.go(0));
        x.image();
        due(BEYOND, x.go(0));
        due(STATE, x.beat(2, 0));
        x.undo();
        due(3, x.status(-1));
        due(2, x.status(0));
        due(1, x.status(4));
        x.tear();
        due(NONE, x.undo());
        due(4, x.status(-1));
        // A text's fault is no finding, nor is a z that looks like one.
        due(-1 - 9, read(x, "#"));
        x.seed(BEYOND);
        due(BEYOND, x.seed(SIZE));
        due(SIZE, x.count(6));
        due(4, x.status(-1));
    }
}
