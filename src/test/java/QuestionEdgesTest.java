/** Promises 13 to 28, each sentence that names an edge: what will be, how to beat, told dust, springs. */
public final class QuestionEdgesTest extends Edges {
    public static void main(String[] args) throws Exception {
        run(QuestionEdgesTest.class, 13, 28);
    }

    /** Eight carpets that nobody treads, as clean as they can be. */
    private static CarpetLane bare() {
        CarpetLane x = new CarpetLane();
        for (int c = 0; c < 8; c++) x.carpet(0, 0);
        return x;
    }

    private static CarpetLane goneOn(CarpetLane x, int days) {
        for (int left = days; left > 0; left -= 60) x.go(Math.min(60, left));
        return x;
    }

    // ---- 13: ahead

    static void aheadWhat() {
        at(13, "What 2, 3, 4, 6 (as in of()) of a CARPET");
        for (int bad : new int[] {LEAST, -1, 0, 1, 5, 7, 8, MOST}) refused(Edges::some, BEYOND, x -> x.ahead(0, bad, 0));
        for (int what : new int[] {2, 3, 4, 6}) asks(Edges::some, some().of(4, what), x -> x.ahead(4, what, 0));
    }

    static void aheadCarpetBounds() {
        at(13, "of a CARPET behind");
        bounds(Edges::some, 0, 4, v -> x -> x.ahead(v, 2, 1));
        bounds(Edges::full, 0, 7, v -> x -> x.ahead(v, 6, 100));
        refused(CarpetLane::new, BEYOND, x -> x.ahead(0, 2, 0));
    }

    static void aheadDaysBounds() {
        at(13, "behind n (0 to 100) DAYS. BEYOND.");
        for (int what : new int[] {2, 3, 4, 6}) {
            bounds(Edges::some, 0, 100, v -> x -> x.ahead(1, what, v));
            for (int n : new int[] {0, 1, 99, 100}) asks(Edges::some, goneOn(some(), n).of(1, what), x -> x.ahead(1, what, n));
        }
        CarpetLane x = laneOf("pring dust 5;beat 0 0 0");
        due(5, x.ahead(0, 2, 0));
        due(105, x.ahead(0, 2, 100));
    }

    // ---- 14: haze

    static void hazeBounds() {
        at(14, "AIR behind n (0 to 100) DAYS. BEYOND.");
        bounds(Edges::some, 0, 100, v -> x -> x.haze(v));
        bounds(CarpetLane::new, 0, 100, v -> x -> x.haze(v));
        for (int n : new int[] {0, 1, 99, 100}) asks(Edges::some, goneOn(some(), n).now(1), x -> x.haze(n));
        CarpetLane x = laneOf("mat feet 0;beat 3 0 1");
        x.air(99980);
        due(99980, x.haze(0));
        due(99980, x.haze(3));
        // Of twenty that come on the fourth day there is room for nineteen.
        due(99999, x.haze(4));
        due(99999, x.haze(100));
    }

    // ---- 15: comes

    /** The mat's greater mark comes back to it until the aisle's dust is gone; then the lesser one goes over. */
    private static CarpetLane slow(int place) {
        CarpetLane x = laneOf("mat feet 0 has 5;aisle feet 0 dust 229");
        x.list(place, 1, 1);
        x.list(place + 1, 0, 3);
        return x;
    }

    static void comesWithin200Days() {
        at(15, "Behind how many DAYS (0 to 200, the fewest) a CARPET HAS a MARK.");
        due(0, goneOn(slow(0), 199).of(1, 3) & 1);
        due(1, goneOn(slow(0), 200).of(1, 3) & 1);
        asks(() -> slow(0), 200, x -> x.comes(1, 0));
        asks(() -> slow(0), 2, x -> x.comes(1, 2));
        asks(() -> slow(0), 0, x -> x.comes(0, 0));
        // A day later is too late.
        due(1, goneOn(slow(1), 201).of(1, 3) & 1);
        refused(() -> slow(1), NONE, x -> x.comes(1, 0));
        CarpetLane x = slow(1);
        x.go(1);
        due(200, x.comes(1, 0));
        x.go(60);
        due(140, x.comes(1, 0));
    }

    static void comesBounds() {
        at(15, "a CARPET HAS a MARK. BEYOND. NONE.");
        bounds(Edges::some, 0, 4, v -> x -> x.comes(v, 1));
        bounds(Edges::full, 0, 7, v -> x -> x.comes(v, 0));
        bounds(Edges::some, 0, 11, v -> x -> x.comes(0, v));
        refused(CarpetLane::new, BEYOND, x -> x.comes(0, 0));
        CarpetLane x = laneOf("carpet feet 2049");
        due(1, x.comes(0, 0));
        due(1, x.comes(0, 11));
        due(NONE, x.comes(0, 10));
        x.change(0, 3, 2048);
        due(0, x.comes(0, 11));
    }

    // ---- 16: dusty

    static void dustyWithin200Days() {
        at(16, "Behind how many DAYS (0 to 200, the fewest) DUST of a CARPET is v (0 to 999) or more.");
        Made pring = () -> laneOf("pring dust 5");
        asks(pring, 0, x -> x.dusty(0, 0));
        asks(pring, 0, x -> x.dusty(0, 5));
        asks(pring, 1, x -> x.dusty(0, 6));
        asks(pring, 199, x -> x.dusty(0, 204));
        asks(pring, 200, x -> x.dusty(0, 205));
        refused(pring, NONE, x -> x.dusty(0, 206));
        refused(pring, NONE, x -> x.dusty(0, 999));
        CarpetLane x = laneOf("pring dust 998");
        due(0, x.dusty(0, 998));
        due(1, x.dusty(0, 999));
    }

    static void dustyBounds() {
        at(16, "BEYOND. NONE.");
        bounds(Edges::some, 0, 999, v -> x -> x.dusty(3, v));
        bounds(Edges::some, 0, 4, v -> x -> x.dusty(v, 1));
        bounds(Edges::full, 0, 7, v -> x -> x.dusty(v, 1));
        refused(CarpetLane::new, BEYOND, x -> x.dusty(0, 0));
    }

    // ---- 17: clean

    static void cleanWithin200Days() {
        at(17, "Behind how many DAYS (0 to 200, the fewest) DUST of a CARPET is v (0 to 999) or less.");
        // Beaten on day 1, 7, .. 199: the 34th time behind 200 days.
        Made beaten = () -> laneOf("carpet feet 0 dust 340;beat 1 0 1");
        asks(beaten, 0, x -> x.clean(0, 999));
        asks(beaten, 0, x -> x.clean(0, 340));
        asks(beaten, 2, x -> x.clean(0, 339));
        asks(beaten, 194, x -> x.clean(0, 10));
        asks(beaten, 200, x -> x.clean(0, 9));
        asks(beaten, 200, x -> x.clean(0, 0));
        refused(() -> laneOf("carpet feet 0 dust 341;beat 1 0 1"), NONE, x -> x.clean(0, 0));
        refused(() -> laneOf("carpet feet 0 dust 340;beat 2 0 1"), NONE, x -> x.clean(0, 0));
        asks(() -> laneOf("carpet feet 0 dust 999 shut"), 0, x -> x.clean(0, 999));
        refused(() -> laneOf("carpet feet 0 dust 999 shut"), NONE, x -> x.clean(0, 998));
    }

    static void cleanBounds() {
        at(17, "BEYOND. NONE.");
        bounds(Edges::some, 0, 999, v -> x -> x.clean(3, v));
        bounds(Edges::some, 0, 4, v -> x -> x.clean(v, 99));
        bounds(Edges::full, 0, 7, v -> x -> x.clean(v, 99));
        refused(CarpetLane::new, BEYOND, x -> x.clean(0, 0));
    }

    // ---- 18: worn

    static void wornWithin200Days() {
        at(18, "Behind how many DAYS (0 to 200, the fewest) WEAR of a CARPET is v (0 to 9999) or more.");
        Made beaten = () -> laneOf("rug feet 0;beat 1 0 9");
        asks(beaten, 0, x -> x.worn(0, 0));
        asks(beaten, 2, x -> x.worn(0, 1));
        asks(beaten, 2, x -> x.worn(0, 18));
        asks(beaten, 8, x -> x.worn(0, 19));
        asks(beaten, 200, x -> x.worn(0, 34 * 18));
        refused(beaten, NONE, x -> x.worn(0, 34 * 18 + 1));
        refused(beaten, NONE, x -> x.worn(0, 9999));
        refused(() -> laneOf("rug feet 0;beat 2 0 9"), NONE, x -> x.worn(0, 34 * 18));
        CarpetLane x = laneOf("rug;beat 1 0 9");
        x.change(0, 4, 9998);
        due(0, x.worn(0, 9998));
        due(2, x.worn(0, 9999));
    }

    static void wornBounds() {
        at(18, "BEYOND. NONE.");
        bounds(Edges::some, 0, 9999, v -> x -> x.worn(3, v));
        bounds(Edges::some, 0, 4, v -> x -> x.worn(v, 1));
        bounds(Edges::full, 0, 7, v -> x -> x.worn(v, 1));
        refused(CarpetLane::new, BEYOND, x -> x.worn(0, 0));
    }

    // ---- 19: forceFor

    static void forceForLeastForce() {
        at(19, "The least FORCE (0 to 9) of the BEATING in place i of THE LIST (its CARPET as it is) with which DUST of all together is v (0 to 9999) or less");
        Made beaten = () -> laneOf("carpet feet 0 dust 100;beat 2 0 7");
        asks(beaten, 0, x -> x.forceFor(2, 100, 3));
        asks(beaten, 1, x -> x.forceFor(2, 99, 3));
        asks(beaten, 1, x -> x.forceFor(2, 90, 3));
        asks(beaten, 2, x -> x.forceFor(2, 89, 3));
        asks(beaten, 9, x -> x.forceFor(2, 10, 3));
        refused(beaten, NONE, x -> x.forceFor(2, 9, 3));
        // A carpet that isn't there can't be beaten, however hard.
        Made away = () -> laneOf("carpet feet 0 dust 100;beat 2 1 7");
        asks(away, 0, x -> x.forceFor(2, 100, 3));
        refused(away, NONE, x -> x.forceFor(2, 99, 3));
        // The last carpet, and whatever force it was beaten with.
        for (int force = 0; force <= 9; force++) {
            CarpetLane last = bare();
            last.change(7, 2, 90);
            last.list(5, 7, force);
            due(2, last.forceFor(5, 80, 6));
            due(9, last.forceFor(5, 45, 6));
            due(NONE, last.forceFor(5, 44, 6));
            due(70 + force, last.listed(5));
        }
        CarpetLane x = bare();
        for (int c = 0; c < 8; c++) x.change(c, 2, 999);
        due(0, x.forceFor(0, 9999, 0));
        due(0, x.forceFor(0, 7992, 0));
        due(NONE, x.forceFor(0, 7991, 0));
        due(0, new CarpetLane().forceFor(0, 0, 60));
    }

    static void forceForDays() {
        at(19, "behind n (0 to 60) DAYS. BEYOND. NONE.");
        CarpetLane x = laneOf("carpet feet 0 dust 100;beat 2 0 7");
        due(NONE, x.forceFor(2, 99, 0));
        due(0, x.forceFor(2, 100, 0));
        due(NONE, x.forceFor(2, 99, 2));
        due(1, x.forceFor(2, 99, 3));
        // Beaten on day 2, 8, .. 56: the tenth time behind 57 days.
        due(2, x.forceFor(2, 0, 56));
        due(1, x.forceFor(2, 0, 57));
        due(1, x.forceFor(2, 0, 60));
    }

    static void forceForBounds() {
        at(19, "BEYOND. NONE.");
        bounds(Edges::some, 0, 5, v -> x -> x.forceFor(v, 9999, 6));
        bounds(Edges::some, 0, 9999, v -> x -> x.forceFor(0, v, 6));
        bounds(Edges::some, 0, 60, v -> x -> x.forceFor(5, 9999, v));
        bounds(CarpetLane::new, 0, 60, v -> x -> x.forceFor(0, 0, v));
    }

    // ---- 20: turnFor

    static void turnForCarpets() {
        at(20, "The CARPET (0 to 7) of which the BEATING in place i must be (FORCE as it is), so that DUST of all together is least");
        for (int c = 0; c < 8; c++) {
            CarpetLane x = bare();
            // Aisles, as what comes over from a carpet would be caught on both sides.
            for (int d = 0; d < 8; d++) x.change(d, 0, 4);
            x.change(c, 2, 90);
            x.list(0, 3, 9);
            due(c, x.turnFor(0, 1));
            due(39, x.listed(0));
            x.list(0, 3, 0);
            due(0, x.turnFor(0, 1));
        }
        due(0, bare().turnFor(5, 60));
        due(0, new CarpetLane().turnFor(0, 60));
        // Of two that are as good the lesser, of one that isn't there nothing comes.
        CarpetLane x = laneOf("aisle feet 0;mat feet 0 dust 30;aisle feet 0;mat feet 0 dust 30;beat 0 7 1");
        due(1, x.turnFor(0, 1));
        x.change(3, 2, 31);
        due(3, x.turnFor(0, 1));
        // A force that is too little for a turkey stays as it is.
        CarpetLane y = laneOf("carpet feet 0;carpet feet 0 dust 1;turkey feet 0 dust 90;beat 0 0 3");
        due(1, y.turnFor(0, 1));
        y.list(0, 0, 4);
        due(2, y.turnFor(0, 1));
    }

    static void turnForDays() {
        at(20, "behind n (0 to 60) DAYS. BEYOND.");
        CarpetLane x = bare();
        x.change(7, 2, 90);
        x.list(5, 0, 9);
        due(0, x.turnFor(5, 0));
        due(0, x.turnFor(5, 5));
        due(7, x.turnFor(5, 6));
        due(7, x.turnFor(5, 60));
        asks(Edges::some, some().turnFor(0, 60), y -> y.turnFor(0, 60));
    }

    static void turnForBounds() {
        at(20, "in place i must be");
        bounds(Edges::some, 0, 5, v -> x -> x.turnFor(v, 6));
        bounds(Edges::some, 0, 60, v -> x -> x.turnFor(0, v));
        bounds(CarpetLane::new, 0, 5, v -> x -> x.turnFor(v, 0));
    }

    // ---- 21: kindFor

    static void kindForKinds() {
        at(21, "The KIND of which a CARPET must be, so that its WEAR is least");
        CarpetLane x = laneOf("mat feet 0;beat 0 0 0");
        // By force 0 a mat alone suffers, by 1 neither turkey nor pring does, by 2 no pring.
        due(0, x.kindFor(0, 1));
        x.list(0, 0, 1);
        due(2, x.kindFor(0, 1));
        x.list(0, 0, 2);
        due(6, x.kindFor(0, 1));
        due(5, x.of(0, 0));
        x.change(0, 4, 9999);
        due(0, x.kindFor(0, 60));
        x.change(0, 4, 9998);
        due(6, x.kindFor(0, 60));
        x.change(0, 5, 1);
        due(0, x.kindFor(0, 60));
    }

    static void kindForDays() {
        at(21, "behind n (0 to 60) DAYS. BEYOND.");
        CarpetLane x = laneOf("mat;beat 5 0 9");
        // In the other places stands carpet 0 with force 0, by which a mat suffers.
        due(0, x.kindFor(0, 0));
        due(0, x.kindFor(0, 5));
        due(6, x.kindFor(0, 6));
        due(6, x.kindFor(0, 60));
        asks(Edges::some, some().kindFor(1, 60), y -> y.kindFor(1, 60));
    }

    static void kindForBounds() {
        at(21, "a CARPET must be");
        bounds(Edges::some, 0, 4, v -> x -> x.kindFor(v, 6));
        bounds(Edges::full, 0, 7, v -> x -> x.kindFor(v, 6));
        bounds(Edges::some, 0, 60, v -> x -> x.kindFor(0, v));
        refused(CarpetLane::new, BEYOND, x -> x.kindFor(0, 0));
    }

    // ---- 22: shut

    static void shutTheFewest() {
        at(22, "The set of fewest CARPETS such that, if these are SHUT, too, from now on, a told one (perhaps one of them) hasn't a MARK");
        // The mark goes from 1 to both sides, and comes back from both: two must be shut.
        Made two = () -> laneOf("carpet feet 0;carpet feet 0 dust 9 has 1;carpet feet 0;beat 0 1 1;beat 1 0 1;beat 2 2 1");
        asks(two, 5, x -> x.shut(1, 0, 3));
        // Itself or its side: one is enough, of these the least.
        asks(two, 1, x -> x.shut(0, 0, 1));
        asks(two, 2, x -> x.shut(2, 0, 1));
        asks(two, 0, x -> x.shut(1, 0, 1));
        asks(two, 0, x -> x.shut(1, 11, 20));
        // What is shut needn't be shut again.
        CarpetLane x = two.lane();
        x.change(2, 5, 1);
        due(1, x.shut(1, 0, 3));
        x.change(0, 5, 1);
        due(0, x.shut(1, 0, 3));
        due(5, x.now(7));
        CarpetLane last = bare();
        last.change(6, 2, 9);
        last.change(6, 3, 1);
        last.list(0, 6, 1);
        due(64, last.shut(7, 0, 1));
        due(32, last.shut(5, 0, 1));
        due(0, last.shut(6, 0, 1));
        due(0, last.shut(4, 0, 1));
    }

    static void shutDays() {
        at(22, "behind n (0 to 20) DAYS; of several the least. BEYOND. NONE.");
        Made trodden = () -> laneOf("carpet feet 1;carpet feet 0 dust 9 has 2;beat 0 1 1");
        asks(trodden, 0, x -> x.shut(0, 0, 0));
        refused(trodden, NONE, x -> x.shut(0, 0, 1));
        refused(trodden, NONE, x -> x.shut(0, 0, 20));
        refused(trodden, NONE, x -> x.shut(1, 1, 0));
        asks(trodden, 0, x -> x.shut(0, 1, 0));
        asks(trodden, 1, x -> x.shut(0, 1, 1));
        asks(trodden, 0, x -> x.shut(1, 1, 20));
        // The aisle is trodden on days 6 and 13, sends its mark over on days 11 and 17, and gets it back on 13 and 19.
        CarpetLane x = laneOf("carpet feet 0;aisle feet 2;beat 5 1 1;beat 1 0 1;beat 0 7 0");
        due(0, x.shut(0, 1, 11));
        due(1, x.shut(0, 1, 12));
        due(0, x.shut(0, 1, 14));
        due(1, x.shut(0, 1, 18));
        due(1, x.shut(0, 1, 19));
        due(0, x.shut(0, 1, 20));
    }

    static void shutBounds() {
        at(22, "of several the least. BEYOND.");
        bounds(Edges::some, 0, 4, v -> x -> x.shut(v, 11, 3));
        bounds(Edges::full, 0, 7, v -> x -> x.shut(v, 11, 3));
        bounds(Edges::some, 0, 11, v -> x -> x.shut(0, v, 3));
        bounds(Edges::some, 0, 20, v -> x -> x.shut(0, 1, v));
        refused(CarpetLane::new, BEYOND, x -> x.shut(0, 0, 0));
    }

    // ---- 23: cover

    static void coverTheFewest() {
        at(23, "The set of fewest CARPETS that HAVE all MARKS of a set (0 to 4095) together; of several the least.");
        CarpetLane x = bare();
        for (int c = 0; c < 8; c++) x.change(c, 3, 1 << c + 4);
        due(255, x.cover(4080));
        due(128, x.cover(2048));
        due(1, x.cover(16));
        due(129, x.cover(2064));
        due(NONE, x.cover(4081));
        x.change(7, 3, 4095);
        due(128, x.cover(4095));
        due(128, x.cover(1));
        due(1, x.cover(16));
        x.change(6, 3, 4095);
        due(64, x.cover(4095));
        // Two of lesser numbers are more than one.
        due(64, x.cover(48));
        x.change(6, 3, 0);
        due(128, x.cover(48));
        x.change(7, 3, 0);
        due(3, x.cover(48));
        // A shut one has its marks, too.
        x.change(0, 5, 1);
        due(1, x.cover(16));
        due(0, x.cover(0));
    }

    static void coverBounds() {
        at(23, "BEYOND. NONE.");
        bounds(Edges::some, 0, 4095, v -> x -> x.cover(v));
        bounds(CarpetLane::new, 0, 4095, v -> x -> x.cover(v));
        refused(Edges::some, NONE, x -> x.cover(4095));
        refused(CarpetLane::new, NONE, x -> x.cover(1));
        asks(CarpetLane::new, 0, x -> x.cover(0));
        asks(Edges::some, 0, x -> x.cover(0));
    }

    // ---- 24: fits

    static void fitsForces() {
        at(24, "How many FORCES (0 to 9) the BEATING of this DAY could be of, so that DUST of a CARPET now and behind each DAY further on is as a sheet tells (-1: any).");
        CarpetLane x = laneOf("carpet feet 0 dust 95;beat 0 0 6");
        sheet(x, 0, 32);
        due(10, x.fits(0, 0));
        for (int force = 0; force <= 9; force++) {
            sheet(x, 0, 16, 95, 95 - 10 * force);
            due(1, x.fits(0, 0));
        }
        for (int left : new int[] {-2, 4, 6, 94, 96}) {
            sheet(x, 0, 16, 95, left);
            due(0, x.fits(0, 0));
        }
        for (int bits : new int[] {8, 16, 32}) {
            sheet(x, 0, bits, -1, -1);
            due(10, x.fits(0, 0));
            sheet(x, 0, bits, -1);
            due(10, x.fits(0, 0));
            sheet(x, 0, bits, 95);
            due(10, x.fits(0, 0));
            sheet(x, 0, bits, 94);
            due(0, x.fits(0, 0));
            sheet(x, 0, bits, -2);
            due(0, x.fits(0, 0));
        }
        due(6, x.listed(0));
        // The last carpet, whatever force it was to be beaten with, as it is told and as its side is.
        for (int force = 0; force <= 9; force++) {
            CarpetLane last = bare();
            last.change(7, 2, 90);
            last.list(0, 7, force);
            sheet(last, 1, 16, 90, 40);
            due(1, last.fits(1, 7));
            sheet(last, 1, 16, 0, 45);
            due(1, last.fits(1, 6));
            sheet(last, 1, 16, 0, 0);
            due(1, last.fits(1, 6));
            due(10, last.fits(1, 5));
        }
    }

    static void fitsAFullSheet() {
        at(24, "behind each DAY further on is as a sheet tells");
        CarpetLane x = laneOf("pring dust 3;beat 0 7 0");
        x.sheet(3, 16, 40);
        for (int i = 0; i < 40; i++) x.write(3, i, 3 + i);
        due(10, x.fits(3, 0));
        x.write(3, 39, 41);
        due(0, x.fits(3, 0));
        x.write(3, 39, -1);
        due(10, x.fits(3, 0));
        // The list goes round: the mat is beaten on the first day and, with the same force, on the 37th.
        CarpetLane y = laneOf("mat feet 0;beat 0 0 4");
        y.sheet(3, 16, 40);
        for (int i = 0; i < 40; i++) y.write(3, i, -1);
        y.write(3, 37, 0);
        due(9, y.fits(3, 0));
        y.write(3, 37, 185);
        due(1, y.fits(3, 0));
        y.write(3, 39, 195);
        due(1, y.fits(3, 0));
        y.write(3, 39, 196);
        due(0, y.fits(3, 0));
    }

    static void fitsFindings() {
        at(24, "BEYOND: no such sheet. MISSING. BEYOND: no such CARPET.");
        bounds(Edges::some, 0, 3, v -> x -> x.fits(v, 0));
        bounds(Edges::some, 0, 4, v -> x -> x.fits(2, v));
        bounds(Edges::full, 0, 7, v -> x -> x.fits(2, v));
        refused(Edges::some, MISSING, x -> x.fits(3, 0));
        refused(Edges::some, MISSING, x -> x.fits(3, 5));
        refused(Edges::some, MISSING, x -> x.fits(3, -1));
        refused(CarpetLane::new, MISSING, x -> x.fits(0, 0));
        asks(Edges::some, 10, x -> x.fits(2, 4));
        asks(Edges::some, 0, x -> x.fits(0, 4));
    }

    // ---- 25: kinds

    static void kindsAsASet() {
        at(25, "KINDS that it could be of, as a set, likewise.");
        CarpetLane x = laneOf("mat feet 1 dust 100;rug feet 0;beat 0 0 2");
        sheet(x, 0, 32);
        due(127, x.kinds(0, 0));
        for (int bits : new int[] {8, 16, 32}) {
            sheet(x, 0, bits, 100);
            due(127, x.kinds(0, 0));
            sheet(x, 0, bits, -1, -1);
            due(127, x.kinds(0, 0));
            sheet(x, 0, bits, 99);
            due(0, x.kinds(0, 0));
            sheet(x, 0, bits, 100, 0);
            due(32, x.kinds(0, 0));
            sheet(x, 0, bits, 100, 82);
            due(1, x.kinds(0, 0));
            sheet(x, 0, bits, 100, 101);
            due(68, x.kinds(0, 0));
            sheet(x, 0, bits, 100, 83);
            due(0, x.kinds(0, 0));
        }
        due(5, x.of(0, 0));
        CarpetLane y = laneOf("aisle feet 0;beat 0 7 0;beat 1 7 0;beat 2 7 0;beat 3 7 0;beat 4 7 0;beat 5 7 0");
        y.sheet(1, 16, 40);
        due(127 - 32 - 64, y.kinds(1, 0));
        y.write(1, 39, 39);
        due(0, y.kinds(1, 0));
        for (int i = 0; i < 40; i++) y.write(1, i, i);
        due(64, y.kinds(1, 0));
    }

    static void kindsFindings() {
        at(25, "BEYOND: no such sheet. MISSING. BEYOND: no such CARPET.");
        bounds(Edges::some, 0, 3, v -> x -> x.kinds(v, 0));
        bounds(Edges::some, 0, 4, v -> x -> x.kinds(2, v));
        bounds(Edges::full, 0, 7, v -> x -> x.kinds(2, v));
        refused(Edges::some, MISSING, x -> x.kinds(3, 0));
        refused(Edges::some, MISSING, x -> x.kinds(3, 5));
        refused(CarpetLane::new, MISSING, x -> x.kinds(3, 0));
        asks(Edges::some, 127, x -> x.kinds(2, 4));
        asks(Edges::some, 0, x -> x.kinds(0, 4));
    }

    // ---- 26: spring

    static void springBounds() {
        at(26, "n times (1 to 20) two draws");
        bounds(Edges::some, 1, 20, v -> x -> x.spring(v));
        bounds(CarpetLane::new, 1, 20, v -> x -> x.spring(v));
        CarpetLane once = new CarpetLane();
        CarpetLane often = new CarpetLane();
        once.spring(20);
        for (int i = 0; i < 20; i++) often.spring(1);
        due(seen(often), seen(once));
        due(20, once.now(0));
        int z = 1;
        for (int i = 0; i < 40; i++) z = z * 1103515245 + 12345;
        due(z, once.count(6));
    }

    static void springTellsTheListForThisDay() {
        at(26, "THE LIST tells for this DAY a BEATING of the CARPET of the first one's rest by 8 with the second one's rest by 10 as FORCE; then a DAY");
        CarpetLane x = new CarpetLane();
        for (int i = 0; i < 6; i++) x.list(i, 7, 9);
        x.go(5);
        long z = 1;
        for (int day = 5; day < 20; day++) {
            z = (z * 1103515245L + 12345) & 0xffffffffL;
            long whom = z / 256 % 8;
            z = (z * 1103515245L + 12345) & 0xffffffffL;
            due(0, x.spring(1));
            due(10 * whom + z / 256 % 10, x.listed(day % 6));
            due(day + 1, x.now(0));
            if (day < 10) due(79, x.listed((day + 1) % 6));
        }
    }

    static void springAtTheLastDay() {
        at(26, "AIR then. BEYOND. STATE: DAY would be above 99999.");
        refused(Edges::late, STATE, x -> x.spring(2));
        refused(Edges::late, STATE, x -> x.spring(20));
        refused(Edges::late, BEYOND, x -> x.spring(21));
        refused(Edges::late, BEYOND, x -> x.spring(0));
        CarpetLane x = late();
        int z = x.count(6);
        due(1, x.spring(1) >= 500 ? 1 : 0);
        due(99999, x.now(0));
        due((z * 1103515245 + 12345) * 1103515245 + 12345, x.count(6));
        due(STATE, x.spring(1));
        due(99999, x.now(0));
    }

    // ---- 27: odds

    static void oddsBounds() {
        at(27, "The odds that n (0 to 17) MARKS, each the rest by 12 of a draw, are all on a CARPET");
        bounds(Edges::some, 0, 17, v -> x -> x.odds(0, v, 0));
        bounds(Edges::some, 0, 17, v -> x -> x.odds(0, v, 1));
        bounds(Edges::some, 0, 4, v -> x -> x.odds(v, 1, 0));
        bounds(Edges::full, 0, 7, v -> x -> x.odds(v, 1, 1));
        refused(CarpetLane::new, BEYOND, x -> x.odds(0, 0, 0));
    }

    static void oddsInLowestTerms() {
        at(27, "a fraction in lowest terms: above (what 0), below the line (1). BEYOND.");
        bounds(Edges::some, 0, 1, v -> x -> x.odds(0, 1, v));
        long[] above = {0, 1, 1, 1, 1, 5, 1, 7, 2, 3, 5, 11, 1};
        long[] below = {1, 12, 6, 4, 3, 12, 2, 12, 3, 4, 6, 12, 1};
        for (int many = 0; many <= 12; many++) {
            CarpetLane x = laneOf("mat has " + ((1 << many) - 1));
            long a = 1, b = 1;
            for (int n = 0; n <= 17; n++) {
                due(a, x.odds(0, n, 0));
                due(b, x.odds(0, n, 1));
                a *= above[many];
                b *= below[many];
            }
            due(0, x.status(-1));
        }
        CarpetLane x = laneOf("mat has 2047");
        due(505447028499293771L, x.odds(0, 17, 0));
        due(2218611106740436992L, x.odds(0, 17, 1));
        asks(() -> laneOf("mat has 15"), 9, y -> y.odds(0, 2, 1));
    }

    // ---- 28: seed

    static void seedIsAnyInt() {
        at(28, "z becomes v: what it was.");
        CarpetLane x = new CarpetLane();
        int was = 1;
        for (int v : new int[] {0, -1, LEAST, MOST, BEYOND, SIZE, 1}) {
            due(was, x.seed(v));
            due(v, x.count(6));
            was = v;
        }
        due(0, x.status(-1));
    }
}
