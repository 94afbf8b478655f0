import java.util.ArrayList;
import java.util.Arrays;
import java.util.List;
import java.util.TreeMap;
import java.util.regex.Matcher;
import java.util.regex.Pattern;

/**
 * The document once more, written for plainness alone and in another way than the program
 * (kinds as classes under one another, a fresh lane for each what-if, tokens by a pattern),
 * so that a slip in one of the two shows.
 */
final class LaneModel {
    static final int BEYOND = -1000001, FULL = -1000002, KIND = -1000003, NONE = -1000004,
        STATE = -1000005, MISSING = -1000006, SIZE = -1000007;

    static class Carpet {
        int treads(Row r, int day) { return 2 * Integer.bitCount(r.get("feet")); }
        int gives(Row r, int f) { return 10 * f; }
        int catches(int x) { return x; }
        int suffers(int f) { return f; }
    }

    static class Rug extends Carpet {
        int treads(Row r, int day) { return Math.max(0, super.treads(r, day) - 1); }
        int gives(Row r, int f) { return super.gives(r, f) + (f > 0 ? 5 : 0); }
        int catches(int x) { return super.catches(x) / 2; }
        int suffers(int f) { return 2 * super.suffers(f); }
    }

    static class Turkey extends Carpet {
        int treads(Row r, int day) { return super.treads(r, day) / 2; }
        int gives(Row r, int f) { return f < 4 ? 0 : super.gives(r, f); }
        int catches(int x) { return Math.max(0, super.catches(x) - 2); }
        int suffers(int f) { return super.suffers(f) / 2; }
    }

    static class Stair extends Rug {
        int treads(Row r, int day) { return 3 * super.treads(r, day); }
        int gives(Row r, int f) { return super.gives(r, f) / 2; }
        int suffers(int f) { return Math.max(0, super.suffers(f) - 1); }
    }

    static class Aisle extends Stair {
        int treads(Row r, int day) { return day % 7 == 6 ? super.treads(r, day) : 0; }
        int catches(int x) { return 0; }
    }

    static class Mat extends Carpet {
        int treads(Row r, int day) { return super.treads(r, day) + 5; }
        int gives(Row r, int f) { return f > 0 ? r.get("dust") : 0; }
        int suffers(int f) { return super.suffers(f) + 1; }
    }

    static class Pring extends Turkey {
        int treads(Row r, int day) { return 1; }
        int suffers(int f) { return 0; }
    }

    static final Carpet[] KINDS = {new Carpet(), new Rug(), new Turkey(), new Stair(), new Aisle(), new Mat(), new Pring()};
    static final String[] KIND_WORDS = {"carpet", "rug", "turkey", "stair", "aisle", "mat", "pring"};
    static final String[] WHAT = {"kind", "feet", "dust", "has", "wear", "shut", "beaten"};
    static final int[] MOST = {6, 4095, 999, 4095, 9999, 1, 9999};

    /** One carpet: its numbers by name. */
    static final class Row extends TreeMap<String, Integer> {
        private static final long serialVersionUID = 1L;
        Row(int kind, int feet) {
            for (String w : WHAT) put(w, 0);
            put("kind", kind);
            put("feet", feet);
        }
        Row(Row other) { super(other); }
        Carpet kind() { return KINDS[get("kind")]; }
        void more(String w, int by, int most) { put(w, Math.min(most, get(w) + by)); }
    }

    /** All that an image keeps. */
    static final class State {
        int day = 0, air = 0, z = 1;
        int[] list = new int[6];
        List<Row> rows = new ArrayList<>();
        Integer[] spots = new Integer[10];

        State copied() {
            State c = new State();
            c.day = day;
            c.air = air;
            c.z = z;
            c.list = list.clone();
            for (Row r : rows) c.rows.add(new Row(r));
            c.spots = spots.clone();
            return c;
        }

        List<Row> openSides(int c) {
            List<Row> sides = new ArrayList<>();
            for (int d : new int[] {c - 1, c + 1}) {
                if (d >= 0 && d < rows.size() && rows.get(d).get("shut") == 0) sides.add(rows.get(d));
            }
            return sides;
        }

        int beatOut(int c, int f) {
            Row r = rows.get(c);
            int out = Math.min(r.kind().gives(r, f), r.get("dust"));
            r.put("dust", r.get("dust") - out);
            int rest = out;
            for (Row side : openSides(c)) {
                int x = side.kind().catches(out / 2);
                side.more("dust", x, 999);
                rest -= x;
            }
            air = Math.min(99999, air + rest);
            if (out > 0 && r.get("has") != 0) {
                int mark = 11;
                while ((r.get("has") >> mark & 1) == 0) mark--;
                r.put("has", r.get("has") - (1 << mark));
                for (Row side : openSides(c)) side.put("has", side.get("has") | 1 << mark);
            }
            r.more("wear", r.kind().suffers(f), 9999);
            r.more("beaten", 1, 9999);
            return out;
        }

        State after(int days) {
            for (int i = 0; i < days; i++) {
                for (Row r : rows) {
                    r.more("dust", r.kind().treads(r, day), 999);
                    r.put("has", r.get("has") | r.get("feet"));
                }
                int c = list[day % 6] / 10;
                if (c < rows.size() && rows.get(c).get("shut") == 0) beatOut(c, list[day % 6] % 10);
                day = Math.min(99999, day + 1);
            }
            return this;
        }

        int sum(String w) { return rows.stream().mapToInt(r -> r.get(w)).sum(); }

        int draw() {
            z = z * 1103515245 + 12345;
            return z >>> 8;
        }
    }

    State now = new State();
    State kept = null;
    StringBuilder tape = new StringBuilder();
    int[][] sheets = new int[4][];
    int[] bits = new int[4];
    int[] told = new int[7];

    private static boolean in(int v, int low, int high) { return v >= low && v <= high; }
    private boolean there(int c) { return in(c, 0, now.rows.size() - 1); }

    /** The answer of a call; findings are counted here and nowhere else. */
    long call(String name, int... a) {
        Long finding = finding(name, a);
        if (finding != null) {
            told[(int) (BEYOND - finding)]++;
            return finding;
        }
        return answer(name, a);
    }

    private static Long beyondUnless(boolean good) { return good ? null : Long.valueOf(BEYOND); }

    private Long sheetFinding(int s) {
        if (!in(s, 0, 3)) return (long) BEYOND;
        return sheets[s] == null ? Long.valueOf(MISSING) : null;
    }

    private Long finding(String name, int[] a) {
        switch (name) {
            case "air": return beyondUnless(in(a[0], 0, 99999));
            case "list": return beyondUnless(in(a[0], 0, 5) && in(a[1], 0, 7) && in(a[2], 0, 9));
            case "listed": return beyondUnless(in(a[0], 0, 5));
            case "carpet":
                if (!in(a[0], 0, 6) || !in(a[1], 0, 4095)) return (long) BEYOND;
                return now.rows.size() == 8 ? Long.valueOf(FULL) : null;
            case "of": return beyondUnless(there(a[0]) && in(a[1], 0, 7));
            case "change": return beyondUnless(there(a[0]) && in(a[1], 0, 6) && in(a[2], 0, MOST[a[1]]));
            case "under": return beyondUnless(there(a[0]) && in(a[1], 0, 2) && in(a[2], 0, 9));
            case "beat":
                if (!there(a[0]) || !in(a[1], 0, 9)) return (long) BEYOND;
                return now.rows.get(a[0]).get("shut") == 1 ? Long.valueOf(STATE) : null;
            case "who": return beyondUnless(in(a[0], 0, 11));
            case "go": return !in(a[0], 1, 60) ? Long.valueOf(BEYOND) : now.day + a[0] > 99999 ? Long.valueOf(STATE) : null;
            case "spring": return !in(a[0], 1, 20) ? Long.valueOf(BEYOND) : now.day + a[0] > 99999 ? Long.valueOf(STATE) : null;
            case "now": case "count": return beyondUnless(in(a[0], 0, 7));
            case "ahead": return beyondUnless(there(a[0]) && (in(a[1], 2, 4) || a[1] == 6) && in(a[2], 0, 100));
            case "haze": return beyondUnless(in(a[0], 0, 100));
            case "comes": return searched(a, 11, name);
            case "dusty": case "clean": return searched(a, 999, name);
            case "worn": return searched(a, 9999, name);
            case "forceFor":
                if (!in(a[0], 0, 5) || !in(a[1], 0, 9999) || !in(a[2], 0, 60)) return (long) BEYOND;
                return forceFor(a[0], a[1], a[2]) < 0 ? Long.valueOf(NONE) : null;
            case "turnFor": return beyondUnless(in(a[0], 0, 5) && in(a[1], 0, 60));
            case "kindFor": return beyondUnless(there(a[0]) && in(a[1], 0, 60));
            case "shut":
                if (!there(a[0]) || !in(a[1], 0, 11) || !in(a[2], 0, 20)) return (long) BEYOND;
                return shut(a[0], a[1], a[2]) < 0 ? Long.valueOf(NONE) : null;
            case "cover":
                if (!in(a[0], 0, 4095)) return (long) BEYOND;
                return cover(a[0]) < 0 ? Long.valueOf(NONE) : null;
            case "fits": case "kinds":
                return sheetFinding(a[0]) != null ? sheetFinding(a[0]) : beyondUnless(there(a[1]));
            case "odds": return beyondUnless(there(a[0]) && in(a[1], 0, 17) && in(a[2], 0, 1));
            case "feed":
                if (!in(a[1], 1, 4)) return (long) BEYOND;
                return tape.length() + a[1] > 120 ? Long.valueOf(FULL) : null;
            case "hold": return beyondUnless(in(a[0], 0, 9) && (a[1] == -1 || there(a[1])));
            case "as":
                if (!in(a[0], 0, 9) || !in(a[1], 0, 6)) return (long) BEYOND;
                if (now.spots[a[0]] == null) return (long) MISSING;
                return KINDS[a[1]].getClass().isInstance(now.rows.get(now.spots[a[0]]).kind()) ? null : Long.valueOf(KIND);
            case "sheet":
                if (!in(a[0], 0, 3) || !Arrays.asList(0, 8, 16, 32).contains(a[1])) return (long) BEYOND;
                return a[2] < 0 ? Long.valueOf(SIZE) : a[2] > 40 ? Long.valueOf(BEYOND) : null;
            case "write":
                return sheetFinding(a[0]) != null ? sheetFinding(a[0]) : beyondUnless(in(a[1], 0, sheets[a[0]].length - 1));
            case "copy": return copyFinding(a);
            case "load": case "judge": return sheetFinding(a[0]);
            case "undo": return kept == null ? Long.valueOf(NONE) : null;
            case "status": return beyondUnless(in(a[0], -1, 6));
            default: return null;
        }
    }

    private Long copyFinding(int[] a) {
        if (!in(a[0], 0, 3) || !in(a[2], 0, 3)) return (long) BEYOND;
        if (sheets[a[0]] == null || sheets[a[2]] == null) return (long) MISSING;
        if (bits[a[0]] != bits[a[2]]) return (long) KIND;
        boolean good = a[1] >= 0 && a[3] >= 0 && a[4] >= 0
            && (long) a[1] + a[4] <= sheets[a[0]].length && (long) a[3] + a[4] <= sheets[a[2]].length;
        return beyondUnless(good);
    }

    private Long searched(int[] a, int most, String name) {
        if (!there(a[0]) || !in(a[1], 0, most)) return (long) BEYOND;
        return firstDay(name, a[0], a[1]) < 0 ? Long.valueOf(NONE) : null;
    }

    private int firstDay(String name, int c, int v) {
        State s = now.copied();
        for (int d = 0; d <= 200; d++) {
            Row r = s.rows.get(c);
            boolean isSo = switch (name) {
                case "comes" -> (r.get("has") >> v & 1) == 1;
                case "dusty" -> r.get("dust") >= v;
                case "clean" -> r.get("dust") <= v;
                default -> r.get("wear") >= v;
            };
            if (isSo) return d;
            s.after(1);
        }
        return -1;
    }

    private int dustIf(int i, int beating, int n) {
        State s = now.copied();
        s.list[i] = beating;
        return s.after(n).sum("dust");
    }

    private int forceFor(int i, int v, int n) {
        for (int f = 0; f < 10; f++) if (dustIf(i, now.list[i] / 10 * 10 + f, n) <= v) return f;
        return -1;
    }

    private int least(int many, java.util.function.IntUnaryOperator cost) {
        int best = 0;
        for (int i = 1; i < many; i++) if (cost.applyAsInt(i) < cost.applyAsInt(best)) best = i;
        return best;
    }

    private int fewest(java.util.function.IntPredicate does) {
        int best = -1;
        for (int set = (1 << now.rows.size()) - 1; set >= 0; set--) {
            if ((best < 0 || Integer.bitCount(set) <= Integer.bitCount(best)) && does.test(set)) best = set;
        }
        return best;
    }

    private int shut(int c, int mark, int n) {
        return fewest(set -> {
            State s = now.copied();
            for (int i = 0; i < s.rows.size(); i++) if ((set >> i & 1) == 1) s.rows.get(i).put("shut", 1);
            return (s.after(n).rows.get(c).get("has") >> mark & 1) == 0;
        });
    }

    private int cover(int marks) {
        return fewest(set -> {
            int left = marks;
            for (int i = 0; i < now.rows.size(); i++) if ((set >> i & 1) == 1) left &= ~now.rows.get(i).get("has");
            return left == 0;
        });
    }

    private boolean goesAs(int[] sheet, State s, int c) {
        for (int i = 0; i < sheet.length; i++) {
            if (sheet[i] != -1 && sheet[i] != s.rows.get(c).get("dust")) return false;
            s.after(1);
        }
        return true;
    }

    private int wearIf(int c, int kind, int n) {
        State s = now.copied();
        s.rows.get(c).put("kind", kind);
        return s.after(n).rows.get(c).get("wear");
    }

    private int setOf(String w, java.util.function.IntPredicate p) {
        int set = 0;
        for (int i = 0; i < now.rows.size(); i++) if (p.test(now.rows.get(i).get(w))) set += 1 << i;
        return set;
    }

    private long answer(String name, int[] a) {
        int was;
        switch (name) {
            case "air": was = now.air; now.air = a[0]; return was;
            case "list": was = now.list[a[0]]; now.list[a[0]] = 10 * a[1] + a[2]; return was;
            case "listed": return now.list[a[0]];
            case "carpet": now.rows.add(new Row(a[0], a[1])); return now.rows.size() - 1;
            case "of": {
                Row r = now.rows.get(a[0]);
                return a[1] == 7 ? r.kind().treads(r, now.day) : r.get(WHAT[a[1]]);
            }
            case "change": return now.rows.get(a[0]).put(WHAT[a[1]], a[2]);
            case "under": {
                Row r = now.rows.get(a[0]);
                if (a[1] == 0) return Math.min(r.get("dust"), r.kind().gives(r, a[2]));
                return a[1] == 1 ? r.kind().suffers(a[2]) : r.kind().catches(10 * a[2]);
            }
            case "beat": return now.beatOut(a[0], a[1]);
            case "who": return setOf("has", h -> (h >> a[0] & 1) == 1);
            case "go": return now.after(a[0]).air;
            case "now": return nowAnswer(a[0]);
            case "ahead": return now.copied().after(a[2]).rows.get(a[0]).get(WHAT[a[1]]);
            case "haze": return now.copied().after(a[0]).air;
            case "comes": case "dusty": case "clean": case "worn": return firstDay(name, a[0], a[1]);
            case "forceFor": return forceFor(a[0], a[1], a[2]);
            case "turnFor": return least(8, c -> dustIf(a[0], 10 * c + now.list[a[0]] % 10, a[1]));
            case "kindFor": return least(7, k -> wearIf(a[0], k, a[1]));
            case "shut": return shut(a[0], a[1], a[2]);
            case "cover": return cover(a[0]);
            case "spring": return spring(a[0]);
            case "odds": return odds(a);
            case "seed": was = now.z; now.z = a[0]; return was;
            case "image": kept = now.copied(); return 1;
            case "undo": now = kept.copied(); return now.day;
            case "tear": was = kept == null ? 0 : 1; kept = null; return was;
            case "count": return countAnswer(a[0]);
            case "status": return a[0] < 0 ? Arrays.stream(told).sum() : told[a[0]];
            case "hold": now.spots[a[0]] = a[1] < 0 ? null : a[1]; return 1;
            case "as": return now.spots[a[0]];
            default: return tapeOrSheetAnswer(name, a);
        }
    }

    private long tapeOrSheetAnswer(String name, int[] a) {
        switch (name) {
            case "feed":
                for (int i = a[1]; i > 0; i--) tape.append((char) (a[0] >> 8 * (i - 1) & 255));
                return tape.length();
            case "wipe": {
                int had = tape.length();
                tape.setLength(0);
                return had;
            }
            case "text": {
                String t = tape.toString();
                tape.setLength(0);
                return readText(t);
            }
            case "sheet":
                sheets[a[0]] = a[1] == 0 ? null : new int[a[2]];
                bits[a[0]] = a[1];
                return a[1] == 0 ? 0 : a[2];
            case "write":
                sheets[a[0]][a[1]] = a[2] << 32 - bits[a[0]] >> 32 - bits[a[0]];
                return 1;
            case "copy": {
                int[] part = Arrays.copyOfRange(sheets[a[0]], a[1], a[1] + a[4]);
                for (int i = 0; i < a[4]; i++) sheets[a[2]][a[3] + i] = part[i];
                return a[4];
            }
            case "load": {
                int i = 0;
                while (i < sheets[a[0]].length && i < now.rows.size() && in(sheets[a[0]][i], 0, 4095)) {
                    now.rows.get(i).put("feet", sheets[a[0]][i]);
                    i++;
                }
                return i;
            }
            case "judge":
                for (int i = 0; i < sheets[a[0]].length; i++) {
                    if (i >= now.rows.size() || sheets[a[0]][i] != now.rows.get(i).get("dust")) return 1 + i;
                }
                return 0;
            case "fits": {
                int many = 0;
                for (int f = 0; f < 10; f++) {
                    State s = now.copied();
                    s.list[s.day % 6] = s.list[s.day % 6] / 10 * 10 + f;
                    if (goesAs(sheets[a[0]], s, a[1])) many++;
                }
                return many;
            }
            case "kinds": {
                int set = 0;
                for (int k = 0; k < 7; k++) {
                    State s = now.copied();
                    s.rows.get(a[1]).put("kind", k);
                    if (goesAs(sheets[a[0]], s, a[1])) set += 1 << k;
                }
                return set;
            }
            default: throw new IllegalStateException(name);
        }
    }

    private long nowAnswer(int what) {
        switch (what) {
            case 0: return now.day;
            case 1: return now.air;
            case 2: return now.sum("dust");
            case 3: return now.sum("wear");
            case 4: {
                int set = 0;
                for (Row r : now.rows) set |= r.get("has");
                return set;
            }
            case 5: return now.rows.isEmpty() ? -1 : least(now.rows.size(), c -> -now.rows.get(c).get("dust"));
            case 6: return now.sum("beaten");
            default: return setOf("shut", s -> s == 1);
        }
    }

    private long countAnswer(int what) {
        switch (what) {
            case 0: return now.day;
            case 1: return now.rows.size();
            case 2: return now.air;
            case 3: return now.sum("dust");
            case 4: return now.sum("wear");
            case 5: return tape.length();
            case 6: return now.z;
            default: return Arrays.stream(now.spots).filter(s -> s != null).count();
        }
    }

    private long spring(int n) {
        for (int i = 0; i < n; i++) {
            int c = now.draw() % 8;
            int f = now.draw() % 10;
            now.list[now.day % 6] = 10 * c + f;
            now.after(1);
        }
        return now.air;
    }

    private long odds(int[] a) {
        java.math.BigInteger above = java.math.BigInteger.valueOf(Integer.bitCount(now.rows.get(a[0]).get("has"))).pow(a[1]);
        java.math.BigInteger below = java.math.BigInteger.valueOf(12).pow(a[1]);
        java.math.BigInteger gcd = above.gcd(below);
        return (a[2] == 0 ? above : below).divide(gcd).longValueExact();
    }

    /** A token and where it begins; the last one is empty and begins where the text ends. */
    private record Token(String text, int at) {
        boolean isNumber(int most) {
            return text.matches("[0-9]+") && new java.math.BigInteger(text).compareTo(java.math.BigInteger.valueOf(most)) <= 0;
        }
    }

    private long readText(String t) {
        List<Token> tokens = new ArrayList<>();
        Matcher m = Pattern.compile("[a-z]+|[0-9]+|[^ ]", Pattern.DOTALL).matcher(t);
        while (m.find()) tokens.add(new Token(m.group(), m.start()));
        tokens.add(new Token("", t.length()));
        State s = now.copied();
        int i = 0, items = 0;
        while (true) {
            int next = readItem(tokens, i, s);
            if (next < 0) return -1 - tokens.get(-1 - next).at;
            items++;
            if (tokens.get(next).text.isEmpty()) {
                now = s;
                return items;
            }
            if (!tokens.get(next).text.equals(";")) return -1 - tokens.get(next).at;
            i = next + 1;
        }
    }

    /** The place behind the item, or -1 less the place of the token at fault. */
    private int readItem(List<Token> tokens, int i, State s) {
        String word = tokens.get(i).text;
        int kind = Arrays.asList(KIND_WORDS).indexOf(word);
        if (kind >= 0) {
            if (s.rows.size() == 8) return -1 - i;
            Row r = new Row(kind, 1);
            s.rows.add(r);
            i++;
            for (int what : new int[] {1, 2, 3}) {
                if (!tokens.get(i).text.equals(WHAT[what])) continue;
                if (!tokens.get(i + 1).isNumber(MOST[what])) return -1 - (i + 1);
                r.put(WHAT[what], Integer.parseInt(tokens.get(i + 1).text));
                i += 2;
            }
            if (!tokens.get(i).text.equals("shut")) return i;
            r.put("shut", 1);
            return i + 1;
        }
        int[] most = word.equals("beat") ? new int[] {5, 7, 9} : word.equals("air") ? new int[] {9999} : null;
        if (most == null) return -1 - i;
        for (int k = 0; k < most.length; k++) if (!tokens.get(i + 1 + k).isNumber(most[k])) return -1 - (i + 1 + k);
        int first = Integer.parseInt(tokens.get(i + 1).text);
        if (most.length == 1) s.air = first;
        else s.list[first] = 10 * Integer.parseInt(tokens.get(i + 2).text) + Integer.parseInt(tokens.get(i + 3).text);
        return i + 1 + most.length;
    }
}
