/** Each sentence of the terms that names an edge: findings, carpets and their kinds, a day, draws, texts. */
public final class TermsEdgesTest extends Edges {
    private static final String[] WORDS = {"carpet", "rug", "turkey", "stair", "aisle", "mat", "pring"};

    public static void main(String[] args) throws Exception {
        run(TermsEdgesTest.class, TERMS, TERMS);
    }

    // ---- findings

    static void findingsHaveTheirNumbers() {
        at(TERMS, "LOW is -1000001; LOW BEYOND, LOW - 1 FULL, LOW - 2 KIND, LOW - 3 NONE, LOW - 4 STATE, LOW - 5 MISSING, LOW - 6 SIZE (in longs, too)");
        CarpetLane x = full();
        due(-1000001, x.air(-1));
        due(-1000002, x.carpet(0, 0));
        due(-1000003, x.as(2, 2));
        due(-1000004, x.cover(1024));
        due(-1000005, x.beat(2, 1));
        due(-1000006, x.judge(3));
        due(-1000007, x.sheet(3, 8, -1));
        due(-1000001L, x.odds(8, 0, 0));
    }

    static void findingsComeInTheOrderOfTheWords() {
        at(TERMS, "Each act tells its findings in the order in which they are asked (that of its words)");
        refused(Edges::full, BEYOND, x -> x.carpet(7, 0));
        refused(Edges::full, BEYOND, x -> x.carpet(0, 4096));
        refused(Edges::some, BEYOND, x -> x.beat(2, 10));
        refused(Edges::some, BEYOND, x -> x.forceFor(0, -1, 0));
        refused(Edges::some, MISSING, x -> x.fits(3, 5));
        refused(Edges::some, MISSING, x -> x.kinds(3, 5));
        refused(Edges::some, BEYOND, x -> x.as(0, 7));
        refused(Edges::some, MISSING, x -> x.as(0, 6));
        refused(Edges::some, BEYOND, x -> x.sheet(4, 8, -1));
        refused(Edges::some, BEYOND, x -> x.sheet(0, 7, -1));
        refused(Edges::some, MISSING, x -> x.write(3, -1, 0));
        refused(Edges::some, BEYOND, x -> x.copy(3, 0, 4, 0, 1));
        refused(Edges::some, MISSING, x -> x.copy(0, 0, 3, 0, -1));
        refused(Edges::some, KIND, x -> x.copy(0, 0, 1, 0, -1));
    }

    static void anActThatAnswersAFindingChangesNothing() {
        at(TERMS, "one that answers a finding changes nothing but status()");
        refused(Edges::some, BEYOND, x -> x.list(0, 1, 10));
        refused(Edges::some, BEYOND, x -> x.change(0, 1, 4096));
        refused(Edges::some, STATE, x -> x.beat(2, 9));
        refused(Edges::some, BEYOND, x -> x.go(61));
        refused(Edges::some, BEYOND, x -> x.spring(21));
        refused(Edges::some, NONE, x -> x.comes(0, 10));
        refused(Edges::some, NONE, x -> x.shut(0, 0, 20));
        refused(Edges::some, KIND, x -> x.as(9, 1));
        refused(Edges::some, SIZE, x -> x.sheet(0, 0, -1));
        refused(Edges::some, BEYOND, x -> x.copy(0, 0, 0, 1, 4));
        refused(Edges::full, FULL, x -> x.carpet(6, 4095));
    }

    // ---- numbers

    static void quotientsAreCut() {
        at(TERMS, "Quotients are cut.");
        // A stair gives half of 15, a rug catches half of 5, a turkey suffers half of 3.
        CarpetLane x = laneOf("stair dust 999;turkey;rug");
        due(7, x.under(0, 0, 1));
        due(1, x.under(1, 1, 3));
        x.change(1, 0, 5);
        x.change(1, 2, 11);
        due(11, x.beat(1, 1));
        due(2, x.of(2, 2));
    }

    static void theLeastNumberCounts() {
        at(TERMS, "of several that would do the least number counts, where nothing else is told");
        CarpetLane x = laneOf("mat feet 0 dust 5 has 1;mat feet 0 dust 5 has 1;mat feet 0 has 1;beat 0 2 1");
        due(0, x.now(5));
        due(1, x.cover(1));
        x.change(1, 2, 6);
        due(1, x.now(5));
        // By force 1 a turkey (2) suffers as little as a pring (6).
        due(2, x.kindFor(2, 1));
        CarpetLane y = laneOf("carpet feet 0 dust 90;carpet feet 0 shut;carpet feet 0 dust 90;beat 0 7 1");
        due(0, y.turnFor(0, 1));
        due(0, y.forceFor(0, 999, 1));
    }

    // ---- the lane

    static void marksAreTwelve() {
        at(TERMS, "MARKS 0 to 11");
        CarpetLane x = laneOf("mat has 4095");
        due(1, x.who(0));
        due(1, x.who(11));
        refused(Edges::some, BEYOND, y -> y.who(12));
        refused(Edges::some, BEYOND, y -> y.who(-1));
        refused(Edges::some, BEYOND, y -> y.change(0, 3, 4096));
    }

    static void airHasItsBounds() {
        at(TERMS, "AIR (dust in the lane; 0 to 99999; 0 at first)");
        CarpetLane x = new CarpetLane();
        due(0, x.now(1));
        due(0, x.air(99999));
        due(99999, x.now(1));
        due(99999, x.air(0));
        due(0, x.now(1));
    }

    static void theListGoesRoundInSixDays() {
        at(TERMS, "THE LIST: six BEATINGS, one for DAY modulo 6");
        for (int place = 0; place < 6; place++) {
            CarpetLane x = laneOf("carpet feet 0;carpet feet 0");
            for (int i = 0; i < 6; i++) x.list(i, i == place ? 1 : 7, 0);
            for (int day = 0; day < 14; day++) {
                int before = x.of(1, 6);
                x.go(1);
                due(day % 6 == place ? 1 : 0, x.of(1, 6) - before);
            }
        }
    }

    static void aBeatingIsOneNumber() {
        at(TERMS, "of a CARPET (0 to 7) with a FORCE (0 to 9), told as one number, 10 * CARPET and FORCE together (0 at first)");
        CarpetLane x = new CarpetLane();
        due(0, x.listed(0));
        due(0, x.listed(5));
        due(0, x.list(0, 7, 9));
        due(79, x.list(0, 0, 9));
        due(9, x.list(0, 7, 0));
        due(70, x.list(0, 0, 0));
        due(0, x.listed(0));
    }

    static void carpetsAreAtMostEight() {
        at(TERMS, "CARPETS 0, 1, .. (at most 8, side by side in this order)");
        CarpetLane x = new CarpetLane();
        for (int c = 0; c < 8; c++) due(c, x.carpet(0, 0));
        due(FULL, x.carpet(0, 0));
        due(8, x.count(1));
        for (int c = 0; c < 8; c++) {
            for (int d = 0; d < 8; d++) x.change(d, 2, d == c ? 40 : 0);
            due(40, x.beat(c, 4));
            for (int d = 0; d < 8; d++) due(Math.abs(d - c) == 1 ? 20 : 0, x.of(d, 2));
        }
    }

    static void aCarpetIsAsAtFirst() {
        at(TERMS, "1 at first), DUST (0 to 999; 0 at first), HAS (MARKS that are on it; a set; none at first), WEAR (0 to 9999; 0 at first), SHUT or not (1, 0; 0 at first), BEATEN (how often; 0 to 9999; 0 at first)");
        CarpetLane x = laneOf("carpet;rug;turkey;stair;aisle;mat;pring");
        int[] kinds = {0, 1, 2, 3, 4, 5, 6};
        for (int c = 0; c < 7; c++) carpetIs(x, c, kinds[c], 1, 0, 0, 0, 0, 0);
        due(7, x.carpet(2, 9));
        carpetIs(x, 7, 2, 9, 0, 0, 0, 0, 0);
    }

    // ---- kinds

    static void treadsAreZeroAtLeast() {
        at(TERMS, "RUG: as a CARPET, less 1 (0 at least). STAIR: thrice a RUG.");
        int[][] wanted = {{0, 0, 0, 0, 0, 5, 1}, {2, 1, 1, 3, 0, 7, 1}, {4, 3, 2, 9, 0, 9, 1}, {24, 23, 12, 69, 0, 29, 1}};
        int[] feet = {0, 2048, 2049, 4095};
        for (int i = 0; i < feet.length; i++) {
            for (int kind = 0; kind < 7; kind++) {
                CarpetLane x = new CarpetLane();
                x.carpet(kind, feet[i]);
                due(wanted[i][kind], x.of(0, 7));
                x.list(0, 7, 0);
                x.go(1);
                due(wanted[i][kind], x.of(0, 2));
            }
        }
    }

    static void anAisleIsTroddenOnTheSeventhDay() {
        at(TERMS, "AISLE: as a STAIR, but 0, unless DAY leaves 6 by 7.");
        CarpetLane x = laneOf("aisle feet 3");
        for (int day = 0; day <= 21; day++) {
            due(day % 7 == 6 ? 9 : 0, x.of(0, 7));
            due(9 * (day / 7), x.of(0, 2));
            x.go(1);
        }
        CarpetLane bare = laneOf("aisle feet 0");
        bare.go(6);
        due(0, bare.of(0, 7));
    }

    static void givesNoMoreThanItHas() {
        at(TERMS, "GIVES (DUST that a beating of FORCE f gets out of it, as far as it has it)");
        int[] gives = {90, 95, 90, 47, 47, 0, 90};
        for (int kind = 0; kind < 7; kind++) {
            if (kind == 5) continue;
            int most = gives[kind];
            for (int dust : new int[] {0, 1, most - 1, most, most + 1, 999}) {
                CarpetLane x = laneOf(WORDS[kind] + " dust " + dust);
                due(Math.min(dust, most), x.under(0, 0, 9));
                due(Math.min(dust, most), x.beat(0, 9));
                due(dust - Math.min(dust, most), x.of(0, 2));
            }
        }
    }

    static void aRugGivesFiveMoreIfBeatenAtAll() {
        at(TERMS, "RUG: as a CARPET, and 5, if f is above 0. STAIR: half (cut) of a RUG. AISLE: as a STAIR.");
        CarpetLane x = laneOf("carpet dust 999;rug dust 999;stair dust 999;aisle dust 999");
        int[][] wanted = {{0, 10, 20}, {0, 15, 25}, {0, 7, 12}, {0, 7, 12}};
        for (int c = 0; c < 4; c++) for (int f = 0; f < 3; f++) due(wanted[c][f], x.under(c, 0, f));
    }

    static void aTurkeyGivesNothingBelowFour() {
        at(TERMS, "TURKEY: as a CARPET, but 0, if f is below 4. PRING: as a TURKEY.");
        CarpetLane x = laneOf("turkey dust 999;pring dust 999");
        for (int c = 0; c < 2; c++) for (int f = 0; f <= 9; f++) due(f < 4 ? 0 : 10 * f, x.under(c, 0, f));
    }

    static void aMatGivesAll() {
        at(TERMS, "MAT: all that it has, if f is above 0, else 0.");
        for (int dust : new int[] {0, 1, 998, 999}) {
            CarpetLane x = laneOf("mat dust " + dust);
            due(0, x.under(0, 0, 0));
            due(dust, x.under(0, 0, 1));
            due(dust, x.under(0, 0, 9));
        }
    }

    static void catchesAreZeroAtLeast() {
        at(TERMS, "TURKEY: as a CARPET, less 2 (0 at least). PRING: as a TURKEY. MAT: as a CARPET.");
        int[] out = {1, 2, 3, 4, 5, 6, 7, 8, 999};
        int[][] wanted = {{0, 1, 1, 2, 2, 3, 3, 4, 499}, {0, 0, 0, 1, 1, 1, 1, 2, 249}, {0, 0, 0, 0, 0, 1, 1, 2, 497},
            {0, 0, 0, 1, 1, 1, 1, 2, 249}, {0, 0, 0, 0, 0, 0, 0, 0, 0}, {0, 1, 1, 2, 2, 3, 3, 4, 499},
            {0, 0, 0, 0, 0, 1, 1, 2, 497}};
        for (int kind = 0; kind < 7; kind++) {
            for (int i = 0; i < out.length; i++) {
                CarpetLane x = laneOf(WORDS[kind] + ";mat dust " + out[i]);
                due(out[i], x.beat(1, 1));
                due(wanted[kind][i], x.of(0, 2));
                due(out[i] - wanted[kind][i], x.now(1));
            }
            CarpetLane x = new CarpetLane();
            x.carpet(kind, 0);
            due(0, x.under(0, 2, 0));
        }
    }

    static void suffersZeroAtLeast() {
        at(TERMS, "STAIR: as a RUG, less 1 (0 at least). AISLE: as a STAIR. TURKEY: half (cut) of a CARPET. PRING: 0. MAT: as a CARPET, and 1.");
        int[][] wanted = {{0, 1, 2, 9}, {0, 2, 4, 18}, {0, 0, 1, 4}, {0, 1, 3, 17}, {0, 1, 3, 17}, {1, 2, 3, 10}, {0, 0, 0, 0}};
        int[] forces = {0, 1, 2, 9};
        for (int kind = 0; kind < 7; kind++) {
            for (int i = 0; i < 4; i++) {
                CarpetLane x = laneOf(WORDS[kind]);
                due(wanted[kind][i], x.under(0, 1, forces[i]));
                x.beat(0, forces[i]);
                due(wanted[kind][i], x.of(0, 4));
            }
        }
    }

    // ---- a day

    static void dustIsAtMost999() {
        at(TERMS, "DUST is what each TREADS more (999 at most), it HAS its FEET, too.");
        for (int dust = 995; dust <= 999; dust++) {
            CarpetLane x = laneOf("carpet feet 3 dust " + dust + " has 6");
            x.go(1);
            due(Math.min(999, dust + 4), x.of(0, 2));
            due(7, x.of(0, 3));
        }
        CarpetLane bare = laneOf("carpet feet 0 dust 5 has 6");
        bare.go(1);
        carpetIs(bare, 0, 0, 0, 5, 6);
    }

    static void shutOnesAreTroddenToo() {
        at(TERMS, "A DAY goes by: (1) CARPETS by numbers");
        CarpetLane x = laneOf("carpet feet 5 dust 3 has 2 shut;mat feet 0 shut");
        x.go(1);
        carpetIs(x, 0, 0, 5, 7, 7, 0, 1, 0);
        carpetIs(x, 1, 5, 0, 5, 0, 0, 1, 0);
        CarpetLane empty = new CarpetLane();
        due(0, empty.go(60));
        due(60, empty.now(0));
    }

    static void onlyACarpetThatIsThereIsBeaten() {
        at(TERMS, "The BEATING of THE LIST for DAY modulo 6, if there is that CARPET and it isn't SHUT (with FORCE 0, too)");
        CarpetLane x = laneOf("carpet feet 0 dust 50;beat 0 1 9;beat 1 0 0;beat 2 1 9");
        due(0, x.go(1));
        carpetIs(x, 0, 0, 0, 50, 0, 0, 0, 0);
        x.go(1);
        carpetIs(x, 0, 0, 0, 50, 0, 0, 0, 1);
        due(1, x.carpet(5, 0));
        due(3, x.go(1));
        carpetIs(x, 0, 0, 0, 52, 0, 0, 0, 1);
        carpetIs(x, 1, 5, 0, 0, 0, 10, 0, 1);
        CarpetLane shut = laneOf("mat feet 0 dust 50 shut;beat 0 0 9");
        due(0, shut.go(1));
        carpetIs(shut, 0, 5, 0, 55, 0, 0, 1, 0);
        CarpetLane force0 = laneOf("mat feet 1 dust 50 has 8;carpet feet 0;beat 0 0 0");
        due(0, force0.go(1));
        carpetIs(force0, 0, 5, 1, 57, 9, 1, 0, 1);
        carpetIs(force0, 1, 0, 0, 0, 0);
    }

    static void outIsNoMoreThanItsDust() {
        at(TERMS, "OUT is what it GIVES, no more than its DUST; DUST is so much less");
        for (int dust : new int[] {0, 1, 29, 30, 31}) {
            CarpetLane x = laneOf("carpet feet 0 dust " + dust + ";beat 0 0 3");
            due(Math.min(30, dust), x.go(1));
            due(Math.max(0, dust - 30), x.of(0, 2));
        }
        // What it is trodden with that day is there to be beaten out.
        CarpetLane trodden = laneOf("carpet feet 3;beat 0 0 1");
        due(4, trodden.go(1));
    }

    static void onlySidesThatAreThereAndOpenGetDust() {
        at(TERMS, "the CARPET on either side, if there is one and it isn't SHUT, gets what it CATCHES of half (cut) of OUT (999 at most)");
        CarpetLane ends = laneOf("carpet dust 41;carpet;carpet;carpet dust 41");
        due(41, ends.beat(0, 9));
        due(41, ends.beat(3, 9));
        for (int c = 1; c < 3; c++) due(20, ends.of(c, 2));
        due(42, ends.now(1));
        CarpetLane oneShut = laneOf("carpet shut;mat dust 41;carpet");
        due(41, oneShut.beat(1, 1));
        due(0, oneShut.of(0, 2));
        due(20, oneShut.of(2, 2));
        due(21, oneShut.now(1));
        for (int room = 0; room <= 3; room++) {
            CarpetLane x = laneOf("carpet dust " + (999 - room) + ";mat dust 4;carpet dust " + (999 - room));
            due(4, x.beat(1, 1));
            due(Math.min(999, 1001 - room), x.of(0, 2));
            due(Math.min(999, 1001 - room), x.of(2, 2));
        }
    }

    static void airDoesNotGetWhatHasNoRoom() {
        at(TERMS, "AIR is OUT less what these two CATCH more (also if one of them has no room for it; 99999 at most)");
        for (int room = 0; room <= 3; room++) {
            CarpetLane x = laneOf("carpet dust " + (999 - room) + ";mat dust 5;carpet dust 999");
            due(5, x.beat(1, 1));
            due(1, x.now(1));
        }
        for (int air = 99991; air <= 99999; air++) {
            CarpetLane x = laneOf("carpet dust 7;beat 0 0 1");
            x.air(air);
            due(7, x.beat(0, 1));
            due(Math.min(99999, air + 7), x.now(1));
        }
        CarpetLane none = laneOf("carpet;mat dust 2;carpet");
        none.air(99999);
        due(2, none.beat(1, 1));
        due(99999, none.now(1));
    }

    static void aMarkGoesOverOnlyWithDust() {
        at(TERMS, "If OUT is above 0: the greatest MARK that it HAS goes over");
        for (int dust = 0; dust <= 1; dust++) {
            CarpetLane x = laneOf("carpet;carpet dust " + dust + " has 4095;carpet has 1");
            due(dust, x.beat(1, 9));
            due(dust == 0 ? 4095 : 2047, x.of(1, 3));
            due(dust == 0 ? 0 : 2048, x.of(0, 3));
            due(dust == 0 ? 1 : 2049, x.of(2, 3));
        }
        for (int force = 3; force <= 4; force++) {
            CarpetLane x = laneOf("turkey dust 9 has 6;carpet");
            due(force == 3 ? 0 : 9, x.beat(0, force));
            due(force == 3 ? 6 : 2, x.of(0, 3));
            due(force == 3 ? 0 : 4, x.of(1, 3));
        }
        // The least of the marks, and none at all.
        CarpetLane last = laneOf("carpet dust 90 has 1;carpet has 1");
        last.beat(0, 1);
        due(0, last.of(0, 3));
        due(1, last.of(1, 3));
        last.beat(0, 1);
        due(0, last.of(0, 3));
        due(1, last.of(1, 3));
    }

    static void aMarkThatFindsNoSideIsGone() {
        at(TERMS, "it hasn't it any more, the CARPETS on either side that aren't SHUT have it (if neither is there or both are SHUT, it is gone)");
        CarpetLane alone = laneOf("carpet dust 9 has 3");
        alone.beat(0, 1);
        due(1, alone.now(4));
        CarpetLane between = laneOf("carpet shut;carpet dust 9 has 3;carpet shut");
        between.beat(1, 1);
        due(1, between.now(4));
        CarpetLane left = laneOf("carpet;carpet dust 9 has 3;carpet shut");
        left.beat(1, 1);
        due(1, left.who(1));
        CarpetLane right = laneOf("carpet shut;carpet dust 9 has 3;carpet");
        right.beat(1, 1);
        due(4, right.who(1));
        CarpetLane first = laneOf("carpet dust 9 has 3;carpet shut;carpet");
        first.beat(0, 1);
        due(0, first.who(1));
    }

    static void wearAndBeatenAreAtMost9999() {
        at(TERMS, "WEAR is what it SUFFERS more (9999 at most), BEATEN 1 more (9999 at most).");
        for (int wear = 9989; wear <= 9999; wear++) {
            CarpetLane x = laneOf("carpet;beat 0 0 9");
            x.change(0, 4, wear);
            x.change(0, 6, 9998);
            x.beat(0, 9);
            due(Math.min(9999, wear + 9), x.of(0, 4));
            due(9999, x.of(0, 6));
            x.go(1);
            due(9999, x.of(0, 4));
            due(9999, x.of(0, 6));
        }
    }

    static void dayIsAtMost99999() {
        at(TERMS, "DAY is one more (99999 at most).");
        CarpetLane x = late();
        due(99998, x.now(0));
        x.change(0, 6, 0);
        x.change(1, 6, 0);
        // Day 99998 is for place 2, the last one for place 3: that comes again and again.
        due(1, x.ahead(0, 6, 100));
        due(0, x.ahead(1, 6, 1));
        due(99, x.ahead(1, 6, 100));
        x.go(1);
        due(99999, x.now(0));
        due(100, x.ahead(1, 6, 100));
        due(1, x.ahead(0, 6, 100));
    }

    // ---- draws

    static void drawsWrapAround() {
        at(TERMS, "DRAWS: z is told (1 at first); each makes it z * 1103515245 + 12345 (an int), and gives z >>> 8.");
        due(1, new CarpetLane().count(6));
        for (int seed : new int[] {1, 0, -1, 2, 77, MOST, LEAST, 1 << 30}) {
            long first = (seed * 1103515245L + 12345) & 0xffffffffL;
            long second = (first * 1103515245L + 12345) & 0xffffffffL;
            CarpetLane x = new CarpetLane();
            due(1, x.seed(seed));
            x.spring(1);
            due(10 * (first / 256 % 8) + second / 256 % 10, x.listed(0));
            due((int) second, x.count(6));
        }
    }

    // ---- texts

    static void theTapeHasRoomFor120() {
        at(TERMS, "A TEXT is read from THE TAPE (bytes, at most 120).");
        CarpetLane x = new CarpetLane();
        feed(x, " ".repeat(115) + "air 7");
        due(120, x.count(5));
        due(FULL, x.feed(' ', 1));
        due(1, x.text());
        due(7, x.now(1));
        due(0, x.count(5));
    }

    static void tokensAreAsLongAsCanBe() {
        at(TERMS, "TOKENS, each as long as can be: WORDS (letters a to z), NUMBERS (digits, 9999 at most), SIGN ; ; blanks may stand between.");
        due(-1, read(new CarpetLane(), "matshut"));
        due(-1, read(new CarpetLane(), "airair"));
        due(-1 - 5, read(new CarpetLane(), "beat 012"));
        due(-1 - 9, read(new CarpetLane(), "beat 0 0 99"));
        CarpetLane x = new CarpetLane();
        due(1, read(x, "mat feet5dust6has7shut"));
        carpetIs(x, 0, 5, 5, 6, 7, 0, 1, 0);
        due(3, read(x, "air9999;air8;beat1 2 3"));
        due(8, x.now(1));
        due(23, x.listed(1));
        due(2, read(x, "   air   9   ;   mat   "));
        due(9, x.now(1));
        due(-1 - 4, read(x, "air 10000"));
        due(-1 - 4, read(x, "air 99999999999999999999"));
        // Numbers that an int or a long would take for 5, for one below 0, or for 0.
        for (String n : new String[] {"4294967301", "2147483648", "18446744073709551621", "9223372036854775808", "1" + "0".repeat(64)}) {
            due(-1 - 4, read(x, "air " + n));
            due(-1 - 5, read(x, "beat " + n + " 0 0"));
            due(-1 - 9, read(x, "mat feet " + n));
        }
        due(9, x.now(1));
    }

    static void aTextHasOneItemAtLeast() {
        at(TERMS, "TEXT: ITEM { ; ITEM }.");
        String[] texts = {"", " ", ";", "mat;", "mat; ", ";mat", "mat;;mat", "mat mat", "air 1 air 1"};
        int[] faults = {0, 1, 0, 4, 5, 0, 4, 4, 6};
        for (int i = 0; i < texts.length; i++) {
            CarpetLane x = new CarpetLane();
            due(-1 - faults[i], read(x, texts[i]));
            due(0, x.count(1));
            due(0, x.status(-1));
        }
        // The most that a tape has room for: "air 0" and nineteen more behind signs.
        CarpetLane x = new CarpetLane();
        due(20, read(x, "air 0" + ";air 5".repeat(19)));
        due(5, x.now(1));
    }

    static void partsOfACarpetHaveTheirBounds() {
        at(TERMS, "perhaps feet and a NUMBER (0 to 4095), perhaps dust and a NUMBER (0 to 999), perhaps has and a NUMBER (0 to 4095), perhaps shut: a new one");
        String[] parts = {"feet", "dust", "has"};
        int[] most = {4095, 999, 4095};
        for (int i = 0; i < 3; i++) {
            for (int v : new int[] {0, most[i], most[i] + 1, 9999, 10000}) {
                CarpetLane x = new CarpetLane();
                String head = "mat " + parts[i] + " ";
                boolean isGood = v <= most[i];
                due(isGood ? 1 : -1 - head.length(), read(x, head + v));
                due(isGood ? 1 : 0, x.count(1));
                if (isGood) due(v, x.of(0, 1 + i));
            }
            due(-1 - parts[i].length() - 4, read(new CarpetLane(), "mat " + parts[i]));
            due(-1 - parts[i].length() - 5, read(new CarpetLane(), "mat " + parts[i] + " shut"));
        }
    }

    static void partsOfACarpetStandInTheirOrder() {
        at(TERMS, "ITEM: carpet, rug, turkey, stair, aisle, mat or pring, perhaps feet");
        for (int kind = 0; kind < 7; kind++) {
            CarpetLane x = new CarpetLane();
            due(1, read(x, WORDS[kind]));
            due(kind, x.of(0, 0));
        }
        String[] parts = {"feet 1", "dust 1", "has 1", "shut"};
        for (int i = 0; i < 4; i++) {
            for (int k = 0; k < 4; k++) {
                String head = "rug " + parts[i] + " ";
                due(i < k ? 1 : -1 - head.length(), read(new CarpetLane(), head + parts[k]));
            }
        }
    }

    static void aBeatingInATextHasItsBounds() {
        at(TERMS, "beat, three NUMBERS (a place of THE LIST, 0 to 5, a CARPET, 0 to 7, a FORCE, 0 to 9)");
        CarpetLane x = new CarpetLane();
        due(3, read(x, "beat 0 0 1;beat 5 7 9;beat 0 0 0"));
        due(0, x.listed(0));
        due(79, x.listed(5));
        String[] bad = {"beat 6 0 0", "beat 0 8 0", "beat 0 0 10", "beat", "beat 0", "beat 0 0", "beat 0 0 0 0", "beat ;", "beat 0 a 0", "beat 5 7 9 shut"};
        int[] faults = {5, 7, 9, 4, 6, 8, 11, 5, 7, 11};
        for (int i = 0; i < bad.length; i++) {
            due(-1 - faults[i], read(x, bad[i]));
            due(79, x.listed(5));
            due(0, x.listed(0));
        }
    }

    static void airInATextHasItsBounds() {
        at(TERMS, "air, a NUMBER (0 to 9999)");
        CarpetLane x = new CarpetLane();
        x.air(99999);
        due(-1 - 4, read(x, "air 10000"));
        due(99999, x.now(1));
        due(1, read(x, "air 9999"));
        due(9999, x.now(1));
        due(1, read(x, "air 0"));
        due(0, x.now(1));
        due(-1 - 3, read(x, "air"));
        due(-1 - 4, read(x, "air air"));
        due(-1 - 6, read(x, "air 1 2"));
    }

    static void aByteThatBeginsNoTokenIsAFault() {
        at(TERMS, "FAULT: the place (from 0) of the first byte of the first TOKEN that can't stand there (a NUMBER that isn't as told, another WORD, a byte that begins no TOKEN,");
        for (int b = 0; b < 256; b++) {
            boolean isDigit = b >= '0' && b <= '9';
            due(isDigit ? 1 : b == ' ' ? -1 - 5 : -1 - 4, read(new CarpetLane(), "air " + (char) b));
            boolean isEnd = b == ' ';
            due(isEnd ? 1 : b == ';' ? -1 - 4 : b >= 'a' && b <= 'z' ? -1 : -1 - 3, read(new CarpetLane(), "mat" + (char) b));
        }
        // The first of several counts, whatever it is.
        due(-1 - 4, read(new CarpetLane(), "mat mut feet # 5000"));
        due(-1 - 9, read(new CarpetLane(), "mat feet 5000 # mut"));
        due(-1 - 3, read(new CarpetLane(), "mat# mut feet 5000"));
    }

    static void anotherWordIsAFault() {
        at(TERMS, "another WORD");
        String[] words = {"carpet", "rug", "turkey", "stair", "aisle", "mat", "pring", "beat", "air", "feet", "dust", "has", "shut"};
        for (String word : words) {
            String head = "feet dust has shut".contains(word) ? "mat " : "";
            String tail = word.equals("beat") ? " 0 0 0" : "air feet dust has".contains(word) ? " 1" : "";
            due(1, read(new CarpetLane(), head + word + tail));
            due(-1 - head.length(), read(new CarpetLane(), head + word + "s" + tail));
            due(-1 - head.length(), read(new CarpetLane(), head + word.substring(1) + tail));
            due(-1 - head.length(), read(new CarpetLane(), head + word.substring(0, word.length() - 1) + tail));
            for (int i = 0; i < word.length(); i++) {
                String other = word.substring(0, i) + 'x' + word.substring(i + 1);
                due(-1 - head.length(), read(new CarpetLane(), head + other + tail));
            }
        }
    }

    static void theNinthCarpetIsAFault() {
        at(TERMS, "the WORD of a 9th CARPET: its own)");
        CarpetLane x = new CarpetLane();
        due(-1 - 32, read(x, "mat;".repeat(8) + "rug feet 9999"));
        due(0, x.count(1));
        due(8, read(x, "mat" + ";mat".repeat(7)));
        due(8, x.count(1));
        due(-1 - 8, read(x, "air 4 ; pring"));
        due(-1, read(x, "mats"));
        due(1, read(x, "air 4"));
        due(4, x.now(1));
    }

    static void aTextThatEndsTooEarly() {
        at(TERMS, "or how many bytes there are if it ends too early");
        String[] texts = {"", "   ", "air", "air ", "air  ", "beat", "beat 1 ", "beat 1 1", "mat feet", "mat dust ", "mat has", "mat;", "mat ;  "};
        for (String t : texts) due(-1 - t.length(), read(new CarpetLane(), t));
        due(-1 - 120, read(new CarpetLane(), " ".repeat(120)));
        due(-1 - 120, read(new CarpetLane(), " ".repeat(117) + "air"));
    }

    // ---- spots, sheets

    static void spotsAndSheetsAtFirst() {
        at(TERMS, "SPOTS 0 to 9 hold a CARPET or nothing (at first). SHEETS 0 to 3: rows of at most 40 numbers of 8, 16 or 32 bits, or MISSING (at first).");
        CarpetLane x = new CarpetLane();
        for (int spot = 0; spot < 10; spot++) due(MISSING, x.as(spot, 0));
        for (int s = 0; s < 4; s++) due(MISSING, x.judge(s));
        due(BEYOND, x.as(10, 0));
        due(BEYOND, x.judge(4));
        for (int bits : new int[] {8, 16, 32}) {
            due(40, x.sheet(3, bits, 40));
            due(BEYOND, x.sheet(3, bits, 41));
        }
    }
}
