/** Promises 1 to 12, each sentence that names an edge: a new object, the lane and its carpets, days. */
public final class LaneEdgesTest extends Edges {
    private static final int[] MOST_OF = {6, 4095, 999, 4095, 9999, 1, 9999};

    public static void main(String[] args) throws Exception {
        run(LaneEdgesTest.class, 1, 12);
    }

    // ---- 1: a new object

    static void allIsAsAtFirst() {
        at(1, "All as at first");
        asks(CarpetLane::new, 0, x -> x.air(0));
        asks(CarpetLane::new, 1, x -> x.seed(1));
        CarpetLane x = new CarpetLane();
        for (int what : new int[] {0, 1, 2, 3, 4, 6, 7}) due(0, x.now(what));
        for (int i = 0; i < 6; i++) due(0, x.listed(i));
        for (int which = -1; which <= 6; which++) due(0, x.status(which));
        for (int spot = 0; spot < 10; spot++) due(MISSING, x.as(spot, 0));
        for (int s = 0; s < 4; s++) due(MISSING, x.load(s));
        due(0, x.count(7));
    }

    static void noCarpetsAtFirst() {
        at(1, "no CARPETS");
        due(0, new CarpetLane().count(1));
        due(-1, new CarpetLane().now(5));
        refused(CarpetLane::new, BEYOND, x -> x.of(0, 0));
        refused(CarpetLane::new, BEYOND, x -> x.hold(0, 0));
    }

    static void theTapeIsEmptyAtFirst() {
        at(1, "THE TAPE is empty");
        due(0, new CarpetLane().count(5));
        due(0, new CarpetLane().wipe());
        due(-1, new CarpetLane().text());
        due(1, new CarpetLane().feed(0, 1));
    }

    static void noImageIsKeptAtFirst() {
        at(1, "no image is kept");
        due(0, new CarpetLane().tear());
        refused(CarpetLane::new, NONE, x -> x.undo());
    }

    static void objectsShareNothing() {
        at(1, "`CarpetLane()`");
        String before = probed(new CarpetLane());
        CarpetLane x = full();
        due(before, probed(new CarpetLane()));
        due(8, x.count(1));
    }

    // ---- 2: air

    static void airBounds() {
        at(2, "AIR becomes v (0 to 99999)");
        bounds(Edges::some, 0, 99999, v -> x -> x.air(v));
        CarpetLane x = new CarpetLane();
        due(0, x.air(99999));
        due(99999, x.count(2));
        due(99999, x.air(0));
        due(0, x.count(2));
        due(BEYOND, x.air(100000));
        due(BEYOND, x.air(-1));
        due(0, x.now(1));
    }

    // ---- 3: list

    static void listPlaceBounds() {
        at(3, "THE LIST tells in place i (0 to 5)");
        bounds(Edges::some, 0, 5, v -> x -> x.list(v, 1, 1));
    }

    static void listCarpetBounds() {
        at(3, "a BEATING of a CARPET (0 to 7)");
        bounds(Edges::some, 0, 7, v -> x -> x.list(0, v, 1));
        bounds(CarpetLane::new, 0, 7, v -> x -> x.list(5, v, 1));
    }

    static void listForceBounds() {
        at(3, "with a FORCE (0 to 9)");
        bounds(Edges::some, 0, 9, v -> x -> x.list(0, 1, v));
    }

    static void listTellsWhichItWas() {
        at(3, "which it was (10 * CARPET and FORCE)");
        CarpetLane x = new CarpetLane();
        due(0, x.list(5, 7, 9));
        due(79, x.list(5, 0, 9));
        due(9, x.list(5, 7, 0));
        due(70, x.list(5, 0, 0));
        for (int i = 0; i < 6; i++) due(0, x.list(i, 1, i));
        for (int i = 0; i < 6; i++) due(10 + i, x.listed(i));
    }

    // ---- 4: listed

    static void listedBounds() {
        at(4, "The BEATING in a place of THE LIST. BEYOND.");
        bounds(Edges::some, 0, 5, v -> x -> x.listed(v));
        asks(Edges::some, 9, x -> x.listed(0));
        asks(Edges::some, 22, x -> x.listed(5));
    }

    // ---- 5: carpet

    static void carpetKindBounds() {
        at(5, "A new CARPET");
        bounds(Edges::some, 0, 6, v -> x -> x.carpet(v, 1));
        bounds(CarpetLane::new, 0, 6, v -> x -> x.carpet(v, 1));
    }

    static void carpetFeetBounds() {
        at(5, "with FEET (a set)");
        bounds(Edges::some, 0, 4095, v -> x -> x.carpet(1, v));
        CarpetLane x = new CarpetLane();
        x.carpet(0, 0);
        x.carpet(6, 4095);
        due(0, x.of(0, 1));
        due(4095, x.of(1, 1));
    }

    static void carpetTellsItsNumber() {
        at(5, "its number");
        CarpetLane x = new CarpetLane();
        for (int c = 0; c < 8; c++) due(c, x.carpet(c % 7, c));
        for (int c = 0; c < 8; c++) carpetIs(x, c, c % 7, c, 0, 0, 0, 0, 0);
    }

    static void carpetFull() {
        at(5, "BEYOND. FULL.");
        refused(Edges::full, FULL, x -> x.carpet(0, 0));
        refused(Edges::full, FULL, x -> x.carpet(6, 4095));
        refused(Edges::full, BEYOND, x -> x.carpet(7, 0));
        refused(Edges::full, BEYOND, x -> x.carpet(-1, 0));
        refused(Edges::full, BEYOND, x -> x.carpet(0, 4096));
        refused(Edges::full, BEYOND, x -> x.carpet(0, -1));
        // An undo() to a lane with room makes room again, for a carpet that is new in all.
        CarpetLane x = full();
        for (int what = 0; what < 7; what++) x.change(5, what, 1);
        x.undo();
        due(5, x.carpet(0, 0));
        carpetIs(x, 5, 0, 0, 0, 0, 0, 0, 0);
    }

    // ---- 6: of

    static void ofCarpetBounds() {
        at(6, "Of a CARPET");
        bounds(Edges::some, 0, 4, v -> x -> x.of(v, 0));
        bounds(Edges::full, 0, 7, v -> x -> x.of(v, 7));
        refused(CarpetLane::new, BEYOND, x -> x.of(0, 7));
        refused(CarpetLane::new, BEYOND, x -> x.of(-1, 7));
    }

    static void ofWhatBounds() {
        at(6, "what 0 KIND, 1 FEET, 2 DUST, 3 HAS, 4 WEAR, 5 SHUT, 6 BEATEN, 7 TREADS. BEYOND.");
        bounds(Edges::some, 0, 7, v -> x -> x.of(2, v));
        CarpetLane x = laneOf("pring feet 4095 dust 999 has 4095 shut");
        x.change(0, 4, 9999);
        x.change(0, 6, 9999);
        carpetIs(x, 0, 6, 4095, 999, 4095, 9999, 1, 9999, 1);
        asks(Edges::some, 21, y -> y.of(2, 7));
    }

    // ---- 7: change

    static void changeBounds() {
        at(7, "KIND (what 0), FEET (1), DUST (2), HAS (3), WEAR (4), SHUT (5), BEATEN (6) of a CARPET becomes v");
        for (int what = 0; what < 7; what++) {
            int w = what;
            bounds(Edges::some, 0, MOST_OF[what], v -> x -> x.change(1, w, v));
        }
    }

    static void changeTellsWhatItWas() {
        at(7, "what it was");
        CarpetLane x = full();
        for (int what = 0; what < 7; what++) {
            x.change(7, what, MOST_OF[what]);
            due(MOST_OF[what], x.change(7, what, 0));
            due(0, x.change(7, what, MOST_OF[what]));
            due(MOST_OF[what], x.of(7, what));
        }
    }

    static void changeLeavesTheRest() {
        at(7, "becomes v");
        for (int what = 0; what < 7; what++) {
            CarpetLane x = laneOf("rug feet 2 dust 3 has 4;rug feet 2 dust 3 has 4;rug feet 2 dust 3 has 4");
            int[] wanted = {1, 2, 3, 4, 0, 0, 0};
            due(wanted[what], x.change(1, what, MOST_OF[what]));
            carpetIs(x, 0, wanted);
            carpetIs(x, 2, wanted);
            wanted[what] = MOST_OF[what];
            carpetIs(x, 1, wanted);
        }
    }

    static void changeWhatBounds() {
        at(7, "BEATEN (6) of a CARPET");
        bounds(Edges::some, 0, 6, v -> x -> x.change(0, v, 1));
        refused(Edges::some, BEYOND, x -> x.change(0, 7, 0));
    }

    static void changeCarpetBounds() {
        at(7, "of a CARPET becomes v: what it was. BEYOND.");
        bounds(Edges::some, 0, 4, v -> x -> x.change(v, 2, 1));
        bounds(Edges::full, 0, 7, v -> x -> x.change(v, 2, 1));
        refused(CarpetLane::new, BEYOND, x -> x.change(0, 0, 0));
    }

    // ---- 8: under

    static void underBounds() {
        at(8, "What a CARPET GIVES (what 0; as far as it has it now), SUFFERS (1) by a FORCE (0 to 9)");
        for (int what = 0; what < 3; what++) {
            int w = what;
            bounds(Edges::some, 0, 9, v -> x -> x.under(0, w, v));
        }
        bounds(Edges::some, 0, 2, v -> x -> x.under(0, v, 9));
        bounds(Edges::some, 0, 4, v -> x -> x.under(v, 0, 9));
        bounds(Edges::full, 0, 7, v -> x -> x.under(v, 1, 0));
        refused(CarpetLane::new, BEYOND, x -> x.under(0, 0, 0));
    }

    static void underAsFarAsItHas() {
        at(8, "as far as it has it now");
        CarpetLane x = laneOf("carpet dust 90;mat");
        due(90, x.under(0, 0, 9));
        x.change(0, 2, 89);
        due(89, x.under(0, 0, 9));
        x.change(0, 2, 91);
        due(90, x.under(0, 0, 9));
        x.change(0, 2, 0);
        due(0, x.under(0, 0, 9));
        due(0, x.under(1, 0, 9));
        x.change(1, 2, 999);
        due(999, x.under(1, 0, 1));
        due(0, x.under(1, 0, 0));
        // A shut one, too, tells what it would give.
        x.change(1, 5, 1);
        due(999, x.under(1, 0, 9));
    }

    static void underCatches() {
        at(8, "what it CATCHES (2) of 10 times that FORCE");
        CarpetLane x = laneOf("carpet;rug;turkey;stair;aisle;mat;pring");
        int[] of10 = {10, 5, 8, 5, 0, 10, 8};
        int[] of90 = {90, 45, 88, 45, 0, 90, 88};
        for (int c = 0; c < 7; c++) {
            due(0, x.under(c, 2, 0));
            due(of10[c], x.under(c, 2, 1));
            due(of90[c], x.under(c, 2, 9));
        }
        // Though it is full.
        x.change(0, 2, 999);
        due(90, x.under(0, 2, 9));
    }

    // ---- 9: beat

    static void beatBounds() {
        at(9, "A CARPET is BEATEN now, besides (as in (2) of a DAY): OUT. BEYOND.");
        bounds(Edges::some, 0, 9, v -> x -> x.beat(0, v));
        bounds(Edges::some, 0, 4, v -> x -> x.beat(v, 1));
        bounds(Edges::full, 0, 7, v -> x -> x.beat(v, 1));
        refused(CarpetLane::new, BEYOND, x -> x.beat(0, 0));
        // Neither a day goes by, nor is it trodden; the list stays.
        CarpetLane x = laneOf("carpet feet 7 dust 20;beat 0 7 7");
        due(0, x.beat(0, 0));
        carpetIs(x, 0, 0, 7, 20, 0, 0, 0, 1);
        due(20, x.beat(0, 2));
        due(0, x.beat(0, 9));
        carpetIs(x, 0, 0, 7, 0, 0, 11, 0, 3);
        due(0, x.now(0));
        due(77, x.listed(0));
        due(20, x.now(1));
    }

    static void beatShut() {
        at(9, "STATE: it is SHUT.");
        refused(Edges::some, STATE, x -> x.beat(2, 0));
        refused(Edges::some, STATE, x -> x.beat(2, 9));
        refused(Edges::some, BEYOND, x -> x.beat(2, 10));
        refused(Edges::some, BEYOND, x -> x.beat(2, -1));
        CarpetLane x = laneOf("mat dust 5 shut");
        due(STATE, x.beat(0, 1));
        due(1, x.change(0, 5, 0));
        due(5, x.beat(0, 1));
        due(0, x.change(0, 5, 1));
        due(STATE, x.beat(0, 1));
    }

    // ---- 10: who

    static void whoBounds() {
        at(10, "CARPETS that HAVE a MARK, as a set. BEYOND.");
        bounds(Edges::some, 0, 11, v -> x -> x.who(v));
        bounds(CarpetLane::new, 0, 11, v -> x -> x.who(v));
        CarpetLane x = full();
        for (int c = 0; c < 8; c++) x.change(c, 3, 2049);
        due(255, x.who(0));
        due(255, x.who(11));
        due(0, x.who(1));
        due(0, x.who(10));
        due(0, new CarpetLane().who(0));
    }

    // ---- 11: go

    static void goBounds() {
        at(11, "n DAYS (1 to 60)");
        bounds(Edges::some, 1, 60, v -> x -> x.go(v));
        bounds(CarpetLane::new, 1, 60, v -> x -> x.go(v));
        CarpetLane x = laneOf("pring feet 0");
        x.go(1);
        due(1, x.now(0));
        x.go(60);
        due(61, x.now(0));
        due(61, x.of(0, 2));
    }

    static void goTellsAir() {
        at(11, "AIR then");
        CarpetLane x = laneOf("mat feet 0;beat 0 0 1;beat 1 7 0;beat 2 7 0;beat 3 7 0;beat 4 7 0;beat 5 7 0");
        due(5, x.go(1));
        due(5, x.go(5));
        due(35, x.go(1));
        x.air(99998);
        due(99998, x.go(5));
        due(99999, x.go(1));
    }

    static void goAtTheLastDay() {
        at(11, "STATE: DAY would be above 99999.");
        refused(Edges::late, STATE, x -> x.go(2));
        refused(Edges::late, STATE, x -> x.go(60));
        refused(Edges::late, BEYOND, x -> x.go(61));
        refused(Edges::late, BEYOND, x -> x.go(0));
        CarpetLane x = late();
        x.image();
        x.go(1);
        due(99999, x.now(0));
        due(STATE, x.go(1));
        due(BEYOND, x.go(0));
        due(99999, x.now(0));
        due(99998, x.undo());
        due(STATE, x.go(2));
        x.go(1);
        due(99999, x.count(0));
    }

    // ---- 12: now

    static void nowBounds() {
        at(12, "7 who is SHUT, as a set. BEYOND.");
        bounds(Edges::some, 0, 7, v -> x -> x.now(v));
        bounds(CarpetLane::new, 0, 7, v -> x -> x.now(v));
    }

    static void nowOfAFullLane() {
        at(12, "What 0 DAY, 1 AIR, 2 DUST of all together, 3 WEAR of all together, 4 MARKS that are on CARPETS, as a set");
        CarpetLane x = full();
        for (int c = 0; c < 8; c++) for (int what = 2; what < 7; what++) x.change(c, what, MOST_OF[what]);
        x.air(99999);
        int[] most = {5, 99999, 8 * 999, 8 * 9999, 4095, 0, 8 * 9999, 255};
        for (int what = 0; what < 8; what++) due(most[what], x.now(what));
        for (int c = 0; c < 8; c++) for (int what = 2; what < 7; what++) x.change(c, what, 0);
        x.air(0);
        int[] least = {5, 0, 0, 0, 0, 0, 0, 0};
        for (int what = 0; what < 8; what++) due(least[what], x.now(what));
        x.change(7, 3, 1);
        x.change(0, 3, 2048);
        x.change(7, 5, 1);
        due(2049, x.now(4));
        due(128, x.now(7));
    }

    static void nowTheDustiest() {
        at(12, "5 the dustiest (-1: there is none)");
        due(-1, new CarpetLane().now(5));
        CarpetLane x = full();
        for (int c = 0; c < 8; c++) x.change(c, 2, 0);
        due(0, x.now(5));
        for (int c = 7; c >= 0; c--) {
            x.change(c, 2, 1);
            due(c, x.now(5));
        }
        x.change(7, 2, 2);
        due(7, x.now(5));
        x.change(7, 5, 1);
        due(7, x.now(5));
        // Behind an undo() to an empty lane there is none again.
        CarpetLane y = new CarpetLane();
        y.image();
        y.carpet(0, 0);
        due(0, y.now(5));
        y.undo();
        due(-1, y.now(5));
    }
}
