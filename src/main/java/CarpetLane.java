public final class CarpetLane {
    private static final int BEYOND = -1000001;
    private static final int FULL = BEYOND - 1;
    private static final int KIND = BEYOND - 2;
    private static final int NONE = BEYOND - 3;
    private static final int STATE = BEYOND - 4;
    private static final int MISSING = BEYOND - 5;
    private static final int SIZE = BEYOND - 6;
    private static final int FINDINGS = 7;
    private static final int NO_FINDING = 0;

    private static final int MARKS = 12;
    private static final int ALL_MARKS = 4095;
    private static final int MOST_FORCE = 9;
    private static final int MOST_DUST = 999;
    private static final int MOST_WEAR = 9999;
    private static final int MOST_BEATEN = 9999;
    private static final int MOST_AIR = 99999;
    private static final int MOST_DAY = 99999;
    private static final int MOST_TEXT_AIR = 9999;
    private static final int MOST_NUMBER = 9999;
    private static final int PLACES = 6;
    private static final int CARPETS = 8;
    private static final int SPOTS = 10;
    private static final int BYTES = 120;
    private static final int SHEETS = 4;
    private static final int SHEET_NUMBERS = 40;
    private static final int MOST_DAYS_SEARCHED = 200;

    private static final int PLAIN = 0;
    private static final int RUG = 1;
    private static final int TURKEY = 2;
    private static final int STAIR = 3;
    private static final int AISLE = 4;
    private static final int MAT = 5;
    private static final int PRING = 6;
    private static final int KINDS = 7;
    private static final int[] KIND_ABOVE = {-1, PLAIN, PLAIN, RUG, STAIR, PLAIN, TURKEY};

    private static final int OF_KIND = 0;
    private static final int OF_FEET = 1;
    private static final int OF_DUST = 2;
    private static final int OF_HAS = 3;
    private static final int OF_WEAR = 4;
    private static final int OF_SHUT = 5;
    private static final int OF_BEATEN = 6;
    private static final int OF_TREADS = 7;
    private static final int[] MOST_OF = {
        KINDS - 1, ALL_MARKS, MOST_DUST, ALL_MARKS, MOST_WEAR, 1, MOST_BEATEN
    };

    private static final int MARK_IS_ON = 0;
    private static final int DUST_AT_LEAST = 1;
    private static final int DUST_AT_MOST = 2;
    private static final int WEAR_AT_LEAST = 3;

    private final Lane lane;
    // What-if questions are tried out here, so that no call has to make a lane.
    private final Lane trial;
    private final Lane kept;
    private boolean isKept;
    private final Tape tape;
    private final Sheet[] sheets;
    private final int[] findings;

    public CarpetLane() {
        lane = new Lane();
        trial = new Lane();
        kept = new Lane();
        isKept = false;
        tape = new Tape();
        sheets = new Sheet[SHEETS];
        for (int s = 0; s < SHEETS; s++) {
            sheets[s] = new Sheet();
        }
        findings = new int[FINDINGS];
    }

    // ---- lane, carpets

    public int air(int v) {
        if (!isWithin(v, MOST_AIR)) {
            return found(BEYOND);
        }
        int was = lane.air;
        lane.air = v;
        return was;
    }

    public int list(int i, int carpet, int force) {
        if (!isWithin(i, PLACES - 1) || !isWithin(carpet, CARPETS - 1) || !isWithin(force, MOST_FORCE)) {
            return found(BEYOND);
        }
        int was = lane.beatings[i];
        lane.beatings[i] = beating(carpet, force);
        return was;
    }

    public int listed(int i) {
        if (!isWithin(i, PLACES - 1)) {
            return found(BEYOND);
        }
        return lane.beatings[i];
    }

    public int carpet(int kind, int feet) {
        if (!isWithin(kind, KINDS - 1) || !isWithin(feet, ALL_MARKS)) {
            return found(BEYOND);
        }
        if (lane.isFull()) {
            return found(FULL);
        }
        return lane.lay(kind, feet);
    }

    public int of(int carpet, int what) {
        if (!lane.isThere(carpet) || !isWithin(what, OF_TREADS)) {
            return found(BEYOND);
        }
        if (what == OF_TREADS) {
            return lane.carpets[carpet].treads(lane.day);
        }
        return lane.carpets[carpet].told(what);
    }

    public int change(int carpet, int what, int v) {
        if (!lane.isThere(carpet) || !isWithin(what, OF_BEATEN) || !isWithin(v, MOST_OF[what])) {
            return found(BEYOND);
        }
        int was = lane.carpets[carpet].told(what);
        lane.carpets[carpet].tell(what, v);
        return was;
    }

    public int under(int carpet, int what, int force) {
        if (!lane.isThere(carpet) || !isWithin(what, 2) || !isWithin(force, MOST_FORCE)) {
            return found(BEYOND);
        }
        Carpet asked = lane.carpets[carpet];
        if (what == 0) {
            return asked.givesAsFarAsItHas(force);
        }
        return what == 1 ? asked.suffers(force) : asked.catches(10 * force);
    }

    public int beat(int carpet, int force) {
        if (!lane.isThere(carpet) || !isWithin(force, MOST_FORCE)) {
            return found(BEYOND);
        }
        if (!lane.isOpen(carpet)) {
            return found(STATE);
        }
        return lane.beatOut(carpet, force);
    }

    public int who(int mark) {
        if (!isWithin(mark, MARKS - 1)) {
            return found(BEYOND);
        }
        int set = 0;
        for (int c = 0; c < lane.size; c++) {
            if (lane.carpets[c].hasMark(mark)) {
                set |= 1 << c;
            }
        }
        return set;
    }

    // ---- days

    public int go(int n) {
        if (n < 1 || n > 60) {
            return found(BEYOND);
        }
        if (lane.day + n > MOST_DAY) {
            return found(STATE);
        }
        lane.passDays(n);
        return lane.air;
    }

    public int now(int what) {
        switch (what) {
            case 0:
                return lane.day;
            case 1:
                return lane.air;
            case 2:
                return lane.sumOf(OF_DUST);
            case 3:
                return lane.sumOf(OF_WEAR);
            case 4:
                return lane.marksOn(-1);
            case 5:
                return lane.dustiest();
            case 6:
                return lane.sumOf(OF_BEATEN);
            case 7:
                return lane.closed();
            default:
                return found(BEYOND);
        }
    }

    // ---- what will be (nothing changes)

    public int ahead(int carpet, int what, int n) {
        boolean isAsked = what == OF_DUST || what == OF_HAS || what == OF_WEAR || what == OF_BEATEN;
        if (!lane.isThere(carpet) || !isAsked || !isWithin(n, 100)) {
            return found(BEYOND);
        }
        trial.become(lane);
        trial.passDays(n);
        return trial.carpets[carpet].told(what);
    }

    public int haze(int n) {
        if (!isWithin(n, 100)) {
            return found(BEYOND);
        }
        trial.become(lane);
        trial.passDays(n);
        return trial.air;
    }

    public int comes(int carpet, int mark) {
        return firstDay(carpet, MARK_IS_ON, mark, MARKS - 1);
    }

    public int dusty(int carpet, int v) {
        return firstDay(carpet, DUST_AT_LEAST, v, MOST_DUST);
    }

    public int clean(int carpet, int v) {
        return firstDay(carpet, DUST_AT_MOST, v, MOST_DUST);
    }

    public int worn(int carpet, int v) {
        return firstDay(carpet, WEAR_AT_LEAST, v, MOST_WEAR);
    }

    // ---- how to beat

    public int forceFor(int i, int v, int n) {
        if (!isWithin(i, PLACES - 1) || !isWithin(v, 9999) || !isWithin(n, 60)) {
            return found(BEYOND);
        }
        int carpet = lane.beatings[i] / 10;
        for (int force = 0; force <= MOST_FORCE; force++) {
            if (dustIfListed(i, beating(carpet, force), n) <= v) {
                return force;
            }
        }
        return found(NONE);
    }

    public int turnFor(int i, int n) {
        if (!isWithin(i, PLACES - 1) || !isWithin(n, 60)) {
            return found(BEYOND);
        }
        int force = lane.beatings[i] % 10;
        int best = 0;
        int least = dustIfListed(i, beating(0, force), n);
        for (int carpet = 1; carpet < CARPETS; carpet++) {
            int dust = dustIfListed(i, beating(carpet, force), n);
            if (dust < least) {
                least = dust;
                best = carpet;
            }
        }
        return best;
    }

    public int kindFor(int carpet, int n) {
        if (!lane.isThere(carpet) || !isWithin(n, 60)) {
            return found(BEYOND);
        }
        int best = 0;
        int least = wearIfOfKind(carpet, 0, n);
        for (int kind = 1; kind < KINDS; kind++) {
            int wear = wearIfOfKind(carpet, kind, n);
            if (wear < least) {
                least = wear;
                best = kind;
            }
        }
        return best;
    }

    public int shut(int carpet, int mark, int n) {
        if (!lane.isThere(carpet) || !isWithin(mark, MARKS - 1) || !isWithin(n, 20)) {
            return found(BEYOND);
        }
        // By sizes first, then by numbers: the first set that does is the answer.
        int closed = lane.closed();
        for (int size = 0; size <= lane.size; size++) {
            for (int set = 0; set < 1 << lane.size; set++) {
                boolean isNews = (set & closed) == 0;
                if (isNews && Integer.bitCount(set) == size && !hasMarkIfClosed(set, carpet, mark, n)) {
                    return set;
                }
            }
        }
        return found(NONE);
    }

    public int cover(int marks) {
        if (!isWithin(marks, ALL_MARKS)) {
            return found(BEYOND);
        }
        int best = -1;
        for (int set = 0; set < 1 << lane.size; set++) {
            boolean isFewer = best < 0 || Integer.bitCount(set) < Integer.bitCount(best);
            if (isFewer && (lane.marksOn(set) & marks) == marks) {
                best = set;
            }
        }
        return best < 0 ? found(NONE) : best;
    }

    // ---- told dust

    public int fits(int s, int carpet) {
        int finding = findingOfSheet(s);
        if (finding != NO_FINDING) {
            return found(finding);
        }
        if (!lane.isThere(carpet)) {
            return found(BEYOND);
        }
        int place = lane.place();
        int whom = lane.beatings[place] / 10;
        int forces = 0;
        for (int force = 0; force <= MOST_FORCE; force++) {
            trial.become(lane);
            trial.beatings[place] = beating(whom, force);
            if (trialGoesAsTold(sheets[s], carpet)) {
                forces++;
            }
        }
        return forces;
    }

    public int kinds(int s, int carpet) {
        int finding = findingOfSheet(s);
        if (finding != NO_FINDING) {
            return found(finding);
        }
        if (!lane.isThere(carpet)) {
            return found(BEYOND);
        }
        int set = 0;
        for (int kind = 0; kind < KINDS; kind++) {
            trial.become(lane);
            trial.carpets[carpet].kind = kind;
            if (trialGoesAsTold(sheets[s], carpet)) {
                set |= 1 << kind;
            }
        }
        return set;
    }

    // ---- springs

    public int spring(int n) {
        if (n < 1 || n > 20) {
            return found(BEYOND);
        }
        if (lane.day + n > MOST_DAY) {
            return found(STATE);
        }
        for (int i = 0; i < n; i++) {
            int whom = lane.draw() % CARPETS;
            int force = lane.draw() % (MOST_FORCE + 1);
            lane.beatings[lane.place()] = beating(whom, force);
            lane.passDay();
        }
        return lane.air;
    }

    public long odds(int carpet, int n, int what) {
        if (!lane.isThere(carpet) || !isWithin(n, 17) || !isWithin(what, 1)) {
            return found(BEYOND);
        }
        int marks = Integer.bitCount(lane.carpets[carpet].has);
        // A power of a fraction in lowest terms is in lowest terms, too.
        int root = inLowestTerms(what == 0 ? marks : MARKS, marks);
        long power = 1;
        for (int i = 0; i < n; i++) {
            power *= root;
        }
        return power;
    }

    public int seed(int v) {
        int was = lane.z;
        lane.z = v;
        return was;
    }

    // ---- texts

    public int feed(int bytes, int n) {
        if (n < 1 || n > 4) {
            return found(BEYOND);
        }
        if (tape.size + n > BYTES) {
            return found(FULL);
        }
        for (int i = n - 1; i >= 0; i--) {
            tape.put((byte) (bytes >>> (8 * i)));
        }
        return tape.size;
    }

    public int wipe() {
        int had = tape.size;
        tape.size = 0;
        return had;
    }

    public int text() {
        // Read into the trial, as a fault far behind must leave the lane as it was.
        trial.become(lane);
        int answer = tape.readText(trial);
        tape.size = 0;
        if (answer >= 0) {
            lane.become(trial);
        }
        return answer;
    }

    // ---- spots, sheets

    public int hold(int spot, int carpet) {
        if (!isWithin(spot, SPOTS - 1) || (carpet != -1 && !lane.isThere(carpet))) {
            return found(BEYOND);
        }
        lane.spots[spot] = carpet;
        return 1;
    }

    public int as(int spot, int kind) {
        if (!isWithin(spot, SPOTS - 1) || !isWithin(kind, KINDS - 1)) {
            return found(BEYOND);
        }
        int carpet = lane.spots[spot];
        if (!lane.isThere(carpet)) {
            return found(MISSING);
        }
        return lane.carpets[carpet].isOfKind(kind) ? carpet : found(KIND);
    }

    public int sheet(int s, int bits, int n) {
        if (!isWithin(s, SHEETS - 1) || (bits != 0 && bits != 8 && bits != 16 && bits != 32)) {
            return found(BEYOND);
        }
        if (n < 0) {
            return found(SIZE);
        }
        if (n > SHEET_NUMBERS) {
            return found(BEYOND);
        }
        sheets[s].begin(bits, n);
        return sheets[s].size;
    }

    public int write(int s, int i, int v) {
        int finding = findingOfSheet(s);
        if (finding != NO_FINDING) {
            return found(finding);
        }
        if (!isWithin(i, sheets[s].size - 1)) {
            return found(BEYOND);
        }
        sheets[s].put(i, v);
        return 1;
    }

    public int copy(int s, int from, int t, int to, int n) {
        int finding = findingOfSheets(s, t);
        if (finding != NO_FINDING) {
            return found(finding);
        }
        if (sheets[s].bits != sheets[t].bits) {
            return found(KIND);
        }
        if (!sheets[s].hasRow(from, n) || !sheets[t].hasRow(to, n)) {
            return found(BEYOND);
        }
        System.arraycopy(sheets[s].numbers, from, sheets[t].numbers, to, n);
        return n;
    }

    public int load(int s) {
        int finding = findingOfSheet(s);
        if (finding != NO_FINDING) {
            return found(finding);
        }
        int most = Math.min(sheets[s].size, lane.size);
        for (int i = 0; i < most; i++) {
            int feet = sheets[s].numbers[i];
            if (!isWithin(feet, ALL_MARKS)) {
                return i;
            }
            lane.carpets[i].feet = feet;
        }
        return most;
    }

    public int judge(int s) {
        int finding = findingOfSheet(s);
        if (finding != NO_FINDING) {
            return found(finding);
        }
        for (int i = 0; i < sheets[s].size; i++) {
            if (!lane.isThere(i) || lane.carpets[i].dust != sheets[s].numbers[i]) {
                return 1 + i;
            }
        }
        return 0;
    }

    // ---- images

    public int image() {
        kept.become(lane);
        isKept = true;
        return 1;
    }

    public int undo() {
        if (!isKept) {
            return found(NONE);
        }
        lane.become(kept);
        return lane.day;
    }

    public int tear() {
        int answer = isKept ? 1 : 0;
        isKept = false;
        return answer;
    }

    public int count(int what) {
        switch (what) {
            case 0:
                return lane.day;
            case 1:
                return lane.size;
            case 2:
                return lane.air;
            case 3:
                return lane.sumOf(OF_DUST);
            case 4:
                return lane.sumOf(OF_WEAR);
            case 5:
                return tape.size;
            case 6:
                return lane.z;
            case 7:
                return lane.spotsHeld();
            default:
                return found(BEYOND);
        }
    }

    public int status(int which) {
        if (which == -1) {
            int all = 0;
            for (int i = 0; i < FINDINGS; i++) {
                all += findings[i];
            }
            return all;
        }
        if (!isWithin(which, FINDINGS - 1)) {
            return found(BEYOND);
        }
        return findings[which];
    }

    private int found(int finding) {
        int which = BEYOND - finding;
        if (isWithin(which, FINDINGS - 1)) {
            findings[which]++;
        }
        return finding;
    }

    private static boolean isWithin(int v, int most) {
        return v >= 0 && v <= most;
    }

    private static int beating(int carpet, int force) {
        return 10 * carpet + force;
    }

    // The part of marks / MARKS that is above or below the line, when it is in lowest terms.
    private static int inLowestTerms(int part, int marks) {
        for (int d = MARKS; d > 1; d--) {
            if (marks % d == 0 && MARKS % d == 0) {
                return part / d;
            }
        }
        return part;
    }

    private int findingOfSheet(int s) {
        if (!isWithin(s, SHEETS - 1)) {
            return BEYOND;
        }
        return sheets[s].isMissing() ? MISSING : NO_FINDING;
    }

    private int findingOfSheets(int s, int t) {
        if (!isWithin(s, SHEETS - 1) || !isWithin(t, SHEETS - 1)) {
            return BEYOND;
        }
        return sheets[s].isMissing() || sheets[t].isMissing() ? MISSING : NO_FINDING;
    }

    private int firstDay(int carpet, int question, int v, int mostV) {
        if (!lane.isThere(carpet) || !isWithin(v, mostV)) {
            return found(BEYOND);
        }
        trial.become(lane);
        for (int days = 0; days <= MOST_DAYS_SEARCHED; days++) {
            if (trial.carpets[carpet].answers(question, v)) {
                return days;
            }
            trial.passDay();
        }
        return found(NONE);
    }

    private int dustIfListed(int place, int beating, int n) {
        trial.become(lane);
        trial.beatings[place] = beating;
        trial.passDays(n);
        return trial.sumOf(OF_DUST);
    }

    private int wearIfOfKind(int carpet, int kind, int n) {
        trial.become(lane);
        trial.carpets[carpet].kind = kind;
        trial.passDays(n);
        return trial.carpets[carpet].wear;
    }

    private boolean hasMarkIfClosed(int set, int carpet, int mark, int n) {
        trial.become(lane);
        trial.closeAll(set);
        trial.passDays(n);
        return trial.carpets[carpet].hasMark(mark);
    }

    private boolean trialGoesAsTold(Sheet sheet, int carpet) {
        for (int i = 0; i < sheet.size; i++) {
            if (i > 0) {
                trial.passDay();
            }
            int told = sheet.numbers[i];
            if (told != -1 && told != trial.carpets[carpet].dust) {
                return false;
            }
        }
        return true;
    }

    private static final class Carpet {
        int kind;
        int feet;
        int dust;
        int has;
        int wear;
        int shut;
        int beaten;

        void begin(int newKind, int newFeet) {
            kind = newKind;
            feet = newFeet;
            dust = 0;
            has = 0;
            wear = 0;
            shut = 0;
            beaten = 0;
        }

        void become(Carpet other) {
            kind = other.kind;
            feet = other.feet;
            dust = other.dust;
            has = other.has;
            wear = other.wear;
            shut = other.shut;
            beaten = other.beaten;
        }

        int told(int what) {
            switch (what) {
                case OF_KIND:
                    return kind;
                case OF_FEET:
                    return feet;
                case OF_DUST:
                    return dust;
                case OF_HAS:
                    return has;
                case OF_WEAR:
                    return wear;
                case OF_SHUT:
                    return shut;
                default:
                    return beaten;
            }
        }

        void tell(int what, int v) {
            switch (what) {
                case OF_KIND:
                    kind = v;
                    break;
                case OF_FEET:
                    feet = v;
                    break;
                case OF_DUST:
                    dust = v;
                    break;
                case OF_HAS:
                    has = v;
                    break;
                case OF_WEAR:
                    wear = v;
                    break;
                case OF_SHUT:
                    shut = v;
                    break;
                default:
                    beaten = v;
                    break;
            }
        }

        boolean hasMark(int mark) {
            return (has & (1 << mark)) != 0;
        }

        boolean answers(int question, int v) {
            switch (question) {
                case MARK_IS_ON:
                    return hasMark(v);
                case DUST_AT_LEAST:
                    return dust >= v;
                case DUST_AT_MOST:
                    return dust <= v;
                default:
                    return wear >= v;
            }
        }

        boolean isOfKind(int asked) {
            int one = kind;
            for (int steps = 0; steps < KINDS && isWithin(one, KINDS - 1); steps++) {
                if (one == asked) {
                    return true;
                }
                one = KIND_ABOVE[one];
            }
            return false;
        }

        int treads(int day) {
            int plain = 2 * Integer.bitCount(feet);
            int rug = Math.max(0, plain - 1);
            switch (kind) {
                case RUG:
                    return rug;
                case STAIR:
                    return 3 * rug;
                case AISLE:
                    return day % 7 == 6 ? 3 * rug : 0;
                case TURKEY:
                    return plain / 2;
                case PRING:
                    return 1;
                case MAT:
                    return plain + 5;
                default:
                    return plain;
            }
        }

        int gives(int force) {
            int plain = 10 * force;
            int rug = force > 0 ? plain + 5 : plain;
            switch (kind) {
                case RUG:
                    return rug;
                case STAIR:
                case AISLE:
                    return rug / 2;
                case TURKEY:
                case PRING:
                    return force < 4 ? 0 : plain;
                case MAT:
                    return force > 0 ? dust : 0;
                default:
                    return plain;
            }
        }

        int givesAsFarAsItHas(int force) {
            return Math.min(gives(force), dust);
        }

        int catches(int over) {
            switch (kind) {
                case RUG:
                case STAIR:
                    return over / 2;
                case AISLE:
                    return 0;
                case TURKEY:
                case PRING:
                    return Math.max(0, over - 2);
                default:
                    return over;
            }
        }

        int suffers(int force) {
            int rug = 2 * force;
            switch (kind) {
                case RUG:
                    return rug;
                case STAIR:
                case AISLE:
                    return Math.max(0, rug - 1);
                case TURKEY:
                    return force / 2;
                case PRING:
                    return 0;
                case MAT:
                    return force + 1;
                default:
                    return force;
            }
        }
    }

    private static final class Lane {
        int day;
        int air;
        int z;
        int size;
        final int[] beatings;
        final Carpet[] carpets;
        final int[] spots;

        Lane() {
            z = 1;
            beatings = new int[PLACES];
            carpets = new Carpet[CARPETS];
            for (int c = 0; c < CARPETS; c++) {
                carpets[c] = new Carpet();
            }
            spots = new int[SPOTS];
            for (int i = 0; i < SPOTS; i++) {
                spots[i] = -1;
            }
        }

        void become(Lane other) {
            day = other.day;
            air = other.air;
            z = other.z;
            size = other.size;
            System.arraycopy(other.beatings, 0, beatings, 0, PLACES);
            for (int c = 0; c < size; c++) {
                carpets[c].become(other.carpets[c]);
            }
            System.arraycopy(other.spots, 0, spots, 0, SPOTS);
        }

        boolean isFull() {
            return size >= CARPETS;
        }

        boolean isThere(int c) {
            return c >= 0 && c < size;
        }

        boolean isOpen(int c) {
            return c >= 0 && c < size && carpets[c].shut == 0;
        }

        int lay(int kind, int feet) {
            if (isFull()) {
                return -1;
            }
            carpets[size].begin(kind, feet);
            size++;
            return size - 1;
        }

        int place() {
            return Math.floorMod(day, PLACES);
        }

        int draw() {
            z = z * 1103515245 + 12345;
            return z >>> 8;
        }

        void passDays(int n) {
            for (int i = 0; i < n; i++) {
                passDay();
            }
        }

        void passDay() {
            for (int c = 0; c < size; c++) {
                Carpet trodden = carpets[c];
                trodden.dust = Math.min(MOST_DUST, trodden.dust + trodden.treads(day));
                trodden.has |= trodden.feet;
            }
            int beating = beatings[place()];
            if (isOpen(beating / 10)) {
                beatOut(beating / 10, beating % 10);
            }
            day = Math.min(MOST_DAY, day + 1);
        }

        int beatOut(int c, int force) {
            if (!isOpen(c)) {
                return 0;
            }
            Carpet hung = carpets[c];
            int out = hung.givesAsFarAsItHas(force);
            hung.dust -= out;
            int caught = dustComesOver(c - 1, out / 2) + dustComesOver(c + 1, out / 2);
            air = Math.min(MOST_AIR, air + out - caught);
            if (out > 0) {
                markGoesOver(c);
            }
            hung.wear = Math.min(MOST_WEAR, hung.wear + hung.suffers(force));
            hung.beaten = Math.min(MOST_BEATEN, hung.beaten + 1);
            return out;
        }

        // All that is caught is out of the air, also what there is no room for.
        private int dustComesOver(int c, int over) {
            if (!isOpen(c)) {
                return 0;
            }
            int caught = carpets[c].catches(over);
            carpets[c].dust = Math.min(MOST_DUST, carpets[c].dust + caught);
            return caught;
        }

        private void markGoesOver(int c) {
            int mark = Integer.highestOneBit(carpets[c].has);
            carpets[c].has &= ~mark;
            if (isOpen(c - 1)) {
                carpets[c - 1].has |= mark;
            }
            if (isOpen(c + 1)) {
                carpets[c + 1].has |= mark;
            }
        }

        int sumOf(int what) {
            int sum = 0;
            for (int c = 0; c < size; c++) {
                sum += carpets[c].told(what);
            }
            return sum;
        }

        int marksOn(int set) {
            int marks = 0;
            for (int c = 0; c < size; c++) {
                if ((set & (1 << c)) != 0) {
                    marks |= carpets[c].has;
                }
            }
            return marks;
        }

        int dustiest() {
            int best = -1;
            int most = -1;
            for (int c = 0; c < size; c++) {
                if (carpets[c].dust > most) {
                    most = carpets[c].dust;
                    best = c;
                }
            }
            return best;
        }

        int closed() {
            int set = 0;
            for (int c = 0; c < size; c++) {
                if (carpets[c].shut != 0) {
                    set |= 1 << c;
                }
            }
            return set;
        }

        void closeAll(int set) {
            for (int c = 0; c < size; c++) {
                if ((set & (1 << c)) != 0) {
                    carpets[c].shut = 1;
                }
            }
        }

        int spotsHeld() {
            int held = 0;
            for (int i = 0; i < SPOTS; i++) {
                if (spots[i] >= 0) {
                    held++;
                }
            }
            return held;
        }
    }

    private static final class Sheet {
        int bits;
        int size;
        final int[] numbers;

        Sheet() {
            numbers = new int[SHEET_NUMBERS];
        }

        boolean isMissing() {
            return bits == 0;
        }

        void begin(int newBits, int n) {
            bits = newBits;
            size = newBits == 0 ? 0 : Math.min(n, SHEET_NUMBERS);
            for (int i = 0; i < SHEET_NUMBERS; i++) {
                numbers[i] = 0;
            }
        }

        // Numbers have a sign, as -1 must be tellable in a sheet of any bits.
        void put(int i, int v) {
            if (!isWithin(i, size - 1)) {
                return;
            }
            if (bits == 8) {
                numbers[i] = (byte) v;
            } else if (bits == 16) {
                numbers[i] = (short) v;
            } else {
                numbers[i] = v;
            }
        }

        boolean hasRow(int from, int n) {
            return from >= 0 && n >= 0 && from <= size - n;
        }
    }

    private static final class Tape {
        private static final int END = 0;
        private static final int WORD = 1;
        private static final int NUMBER = 2;
        private static final int SIGN = 3;
        private static final int OTHER = 4;

        int size;
        private final byte[] bytes;
        private int at;
        private int token;
        // The first byte of the token that is looked at: the fault, if it can't stand there.
        private int start;
        private int value;

        Tape() {
            bytes = new byte[BYTES];
        }

        void put(byte b) {
            if (size < BYTES) {
                bytes[size] = b;
                size++;
            }
        }

        int readText(Lane lane) {
            at = 0;
            advance();
            for (int items = 1; items <= BYTES; items++) {
                if (!readItem(lane)) {
                    return -1 - start;
                }
                if (token == END) {
                    return items;
                }
                if (token != SIGN) {
                    return -1 - start;
                }
                advance();
            }
            return -1 - start;
        }

        private boolean readItem(Lane lane) {
            int kind = kindOfWord();
            if (kind >= 0) {
                return readCarpet(lane, kind);
            }
            if (isWord("beat")) {
                return readBeating(lane);
            }
            if (isWord("air")) {
                return readAir(lane);
            }
            return false;
        }

        private boolean readCarpet(Lane lane, int kind) {
            int c = lane.lay(kind, 1);
            if (!lane.isThere(c)) {
                return false;
            }
            advance();
            Carpet laid = lane.carpets[c];
            if (!readPart(laid, "feet", OF_FEET) || !readPart(laid, "dust", OF_DUST) || !readPart(laid, "has", OF_HAS)) {
                return false;
            }
            if (isWord("shut")) {
                laid.shut = 1;
                advance();
            }
            return true;
        }

        private boolean readPart(Carpet laid, String word, int what) {
            if (!isWord(word)) {
                return true;
            }
            advance();
            if (!isNumber(MOST_OF[what])) {
                return false;
            }
            laid.tell(what, value);
            advance();
            return true;
        }

        private boolean readBeating(Lane lane) {
            advance();
            if (!isNumber(PLACES - 1)) {
                return false;
            }
            int place = value;
            advance();
            if (!isNumber(CARPETS - 1)) {
                return false;
            }
            int whom = value;
            advance();
            if (!isNumber(MOST_FORCE)) {
                return false;
            }
            lane.beatings[place] = beating(whom, value);
            advance();
            return true;
        }

        private boolean readAir(Lane lane) {
            advance();
            if (!isNumber(MOST_TEXT_AIR)) {
                return false;
            }
            lane.air = value;
            advance();
            return true;
        }

        private int kindOfWord() {
            if (isWord("carpet")) {
                return PLAIN;
            }
            if (isWord("rug")) {
                return RUG;
            }
            if (isWord("turkey")) {
                return TURKEY;
            }
            if (isWord("stair")) {
                return STAIR;
            }
            if (isWord("aisle")) {
                return AISLE;
            }
            if (isWord("mat")) {
                return MAT;
            }
            return isWord("pring") ? PRING : -1;
        }

        private boolean isWord(String word) {
            if (token != WORD || at - start != word.length()) {
                return false;
            }
            for (int i = 0; i < word.length(); i++) {
                if (bytes[start + i] != word.charAt(i)) {
                    return false;
                }
            }
            return true;
        }

        private boolean isNumber(int most) {
            return token == NUMBER && isWithin(value, most);
        }

        private void advance() {
            while (at < size && bytes[at] == ' ') {
                at++;
            }
            start = at;
            if (at >= size) {
                token = END;
            } else if (passRun('a', 'z')) {
                token = WORD;
            } else if (passRun('0', '9')) {
                token = NUMBER;
                value = numberRead();
            } else {
                token = bytes[at] == ';' ? SIGN : OTHER;
                at++;
            }
        }

        private boolean passRun(char first, char last) {
            while (at < size && bytes[at] >= first && bytes[at] <= last) {
                at++;
            }
            return at > start;
        }

        // However many digits there are, it stays just above the greatest number.
        private int numberRead() {
            int number = 0;
            for (int i = start; i < at; i++) {
                number = 10 * number + bytes[i] - '0';
                if (number > MOST_NUMBER) {
                    return MOST_NUMBER + 1;
                }
            }
            return number;
        }
    }
}
