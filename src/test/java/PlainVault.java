/**
 * Every promise of the document worked out a second time, in the plainest way, on a PlainRoof: searches try all there
 * is, an image is a second vault. RunsTest holds the class against it, call by call.
 */
final class PlainVault {
    /** The KIND above each, -1 above CISTERN. */
    private static final int[] ABOVE = {-1, 0, 0, 1, 2, 0, 5};

    private PlainRoof roof = new PlainRoof();
    private int[] spots = {-1, -1, -1, -1, -1, -1, -1, -1, -1, -1};
    private int hour = 0;
    private int z = 1;
    private PlainVault kept = null;
    private String tape = "";
    private final int[][] sheets = new int[4][];
    private final int[] bits = new int[4];
    private final int[] findings = new int[7];

    private int found(int finding) {
        findings[Check.BEYOND - finding]++;
        return finding;
    }

    private static boolean in(int v, int least, int most) {
        return least <= v && v <= most;
    }

    private boolean isCistern(int c) {
        return in(c, 0, roof.cisterns - 1);
    }

    private boolean isLate(int n) {
        return hour + n > 9999;
    }

    // ---- the roof

    int cistern(int kind, int height) {
        if (!in(kind, 0, 6) || !in(height, 1, 40)) {
            return found(Check.BEYOND);
        }
        if (roof.cisterns == 8) {
            return found(Check.FULL);
        }
        return roof.add(kind, height);
    }

    int of(int c, int what) {
        if (!isCistern(c) || !in(what, 0, 10)) {
            return found(Check.BEYOND);
        }
        int[] facts = {roof.kind[c], roof.height[c], roof.level[c], roof.leak[c], roof.gutter[c], roof.cloth[c], roof.shown(c),
            roof.catches[c][0], roof.catches[c][1], roof.catches[c][2], roof.catches[c][3]};
        return facts[what];
    }

    int change(int c, int what, int v) {
        if (!isCistern(c) || !in(what, 0, 10) || what == 6) {
            return found(Check.BEYOND);
        }
        int[] least = {0, Math.max(1, roof.level[c]), 0, 0, -1, 0, 0, 0, 0, 0, 0};
        int[] most = {6, 40, roof.height[c], 9, 7, 1, 0, 9, 9, 9, 9};
        if (!in(v, least[what], most[what])) {
            return found(Check.BEYOND);
        }
        int[][] rows = {roof.kind, roof.height, roof.level, roof.leak, roof.gutter, roof.cloth};
        int[] row = what < 6 ? rows[what] : roof.catches[c];
        int place = what < 6 ? c : what - 7;
        int was = row[place];
        row[place] = v;
        return was;
    }

    int cold(int v) {
        if (!in(v, 0, 1)) {
            return found(Check.BEYOND);
        }
        int was = roof.cold ? 1 : 0;
        roof.cold = v == 1;
        return was;
    }

    int catches(int c, int side, int amount) {
        return isCistern(c) && in(side, 0, 3) && in(amount, 0, 9) ? roof.caught(c, side, amount) : found(Check.BEYOND);
    }

    int below(int c) {
        if (!isCistern(c)) {
            return found(Check.BEYOND);
        }
        boolean[] wet = new boolean[8];
        for (int round = 0; round < 8; round++) {
            for (int from = 0; from < roof.cisterns; from++) {
                int to = roof.gutter[from];
                if ((from == c || wet[from]) && isCistern(to) && to != from) {
                    wet[to] = true;
                }
            }
        }
        int set = 0;
        for (int i = 0; i < 8; i++) {
            set += wet[i] ? 1 << i : 0;
        }
        return set;
    }

    // ---- the lock

    int lock(int sort, int a, int b) {
        if (!in(sort, 0, 4) || !in(a, 0, 7) || !in(b, 0, sort == 4 ? 40 : 7)) {
            return found(Check.BEYOND);
        }
        if (roof.conditions == 8) {
            return found(Check.FULL);
        }
        roof.lock[roof.conditions] = new int[] {sort, a, b};
        return roof.conditions++;
    }

    int lockOf(int i, int what) {
        if (!in(i, 0, roof.conditions - 1) || !in(what, 0, 3)) {
            return found(Check.BEYOND);
        }
        return what < 3 ? roof.lock[i][what] : roof.holds(i) ? 1 : 0;
    }

    int pick(int i) {
        if (!in(i, 0, roof.conditions - 1)) {
            return found(Check.BEYOND);
        }
        roof = roof.without(i);
        return roof.conditions;
    }

    int holding() {
        int set = 0;
        for (int i = 0; i < roof.conditions; i++) {
            set += roof.holds(i) ? 1 << i : 0;
        }
        return set;
    }

    int open() {
        return roof.open() ? 1 : 0;
    }

    // ---- hours

    int rain(int side, int amount, int n) {
        if (!in(side, 0, 3) || !in(amount, 0, 9) || !in(n, 1, 100)) {
            return found(Check.BEYOND);
        }
        if (isLate(n)) {
            return found(Check.STATE);
        }
        int opens = roof.opens(side, amount, n);
        roof = roof.behind(side, amount, n);
        hour += n;
        return opens;
    }

    private int draw() {
        z = (int) (z * 1103515245L + 12345L);
        return (int) ((z & 0xffffffffL) / 256);
    }

    int weather(int n) {
        if (!in(n, 1, 100)) {
            return found(Check.BEYOND);
        }
        if (isLate(n)) {
            return found(Check.STATE);
        }
        int opens = 0;
        for (int i = 0; i < n; i++) {
            int sign = draw() % 5;
            int amount = sign > 0 ? draw() % 10 : 0;
            opens += rain(Math.max(0, sign - 1), amount, 1);
        }
        return opens;
    }

    int ahead(int side, int amount, int n, int what) {
        boolean isTold = in(what, 0, 3) || isCistern(what - 4) && what > 3;
        if (!in(side, 0, 3) || !in(amount, 0, 9) || !in(n, 0, 100) || !isTold) {
            return found(Check.BEYOND);
        }
        if (isLate(n)) {
            return found(Check.STATE);
        }
        PlainRoof then = roof.behind(side, amount, n);
        if (what > 3) {
            return then.level[what - 4];
        }
        int[] told = {then.open() ? 1 : 0, roof.opens(side, amount, n), then.levels(), then.ranOff - roof.ranOff};
        return told[what];
    }

    int when(int side, int amount, int n) {
        if (!in(side, 0, 3) || !in(amount, 0, 9) || !in(n, 1, 100)) {
            return found(Check.BEYOND);
        }
        if (isLate(n)) {
            return found(Check.STATE);
        }
        for (int i = 0; i <= n; i++) {
            if (roof.behind(side, amount, i).open()) {
                return i;
            }
        }
        return found(Check.NONE);
    }

    // ---- all rains

    /** The finding of a call about all RAINS, or 0. */
    private int wrongRains(int n) {
        return !in(n, 0, 5) ? Check.BEYOND : isLate(n) ? Check.STATE : 0;
    }

    /** For each RAIN of n hours, whether it opens. */
    private boolean[] opening(int n) {
        boolean[] opening = new boolean[PlainRoof.rainsOf(n)];
        for (int r = 0; r < opening.length; r++) {
            opening[r] = roof.behindRain(r, n).open();
        }
        return opening;
    }

    private static int firstOf(boolean[] opening) {
        for (int r = 0; r < opening.length; r++) {
            if (opening[r]) {
                return r;
            }
        }
        return -1;
    }

    int rains(int n) {
        if (wrongRains(n) != 0) {
            return found(wrongRains(n));
        }
        int many = 0;
        for (boolean opens : opening(n)) {
            many += opens ? 1 : 0;
        }
        return many;
    }

    int first(int n, int i) {
        if (!in(n, 0, 5) || !in(i, 0, n - 1)) {
            return found(Check.BEYOND);
        }
        if (isLate(n)) {
            return found(Check.STATE);
        }
        int first = firstOf(opening(n));
        return first < 0 ? found(Check.NONE) : PlainRoof.sign(first, n, i);
    }

    int driest(int n) {
        if (wrongRains(n) != 0) {
            return found(wrongRains(n));
        }
        boolean[] opening = opening(n);
        for (int wet = 0; wet <= n; wet++) {
            for (int r = 0; r < opening.length; r++) {
                if (opening[r] && wetHours(r, n, 15) == wet) {
                    return wet;
                }
            }
        }
        return found(Check.NONE);
    }

    /** How many hours of a RAIN come from SIDES of a set. */
    private static int wetHours(int r, int n, int sides) {
        int wet = 0;
        for (int i = 0; i < n; i++) {
            int sign = PlainRoof.sign(r, n, i);
            wet += sign > 0 ? sides >> sign - 1 & 1 : 0;
        }
        return wet;
    }

    int soonest() {
        if (isLate(5)) {
            return found(Check.STATE);
        }
        for (int n = 0; n <= 5; n++) {
            if (firstOf(opening(n)) >= 0) {
                return n;
            }
        }
        return found(Check.NONE);
    }

    int needed(int n) {
        if (wrongRains(n) != 0) {
            return found(wrongRains(n));
        }
        boolean[] opening = opening(n);
        if (firstOf(opening) < 0) {
            return found(Check.NONE);
        }
        int set = 0;
        for (int side = 0; side < 4; side++) {
            boolean isNeeded = true;
            for (int r = 0; r < opening.length; r++) {
                isNeeded &= !opening[r] || wetHours(r, n, 1 << side) > 0;
            }
            set += isNeeded ? 1 << side : 0;
        }
        return set;
    }

    // ---- heirs and thieves

    int buckets() {
        int buckets = roof.buckets();
        return buckets < 0 ? found(Check.NONE) : buckets;
    }

    int carry(int i) {
        if (!in(i, 0, 3)) {
            return found(Check.BEYOND);
        }
        int buckets = roof.buckets();
        if (i >= buckets) {
            return found(Check.NONE);
        }
        return roof.way(buckets, 0, 1) >> 3 * (buckets - 1 - i) & 7;
    }

    /** The finding of a call that tries a rain in several ways, or 0. */
    private int wrongTrial(int side, int amount, int n) {
        return !in(side, 0, 3) || !in(amount, 0, 9) || !in(n, 1, 20) ? Check.BEYOND : isLate(n) ? Check.STATE : 0;
    }

    int cloths(int side, int amount, int n) {
        if (wrongTrial(side, amount, n) != 0) {
            return found(wrongTrial(side, amount, n));
        }
        int best = -1;
        for (int set = (1 << roof.cisterns) - 1; set >= 0; set--) {
            PlainRoof t = roof.twin();
            for (int c = 0; c < t.cisterns; c++) {
                t.cloth[c] = set >> c & 1;
            }
            boolean isFewer = best < 0 || Integer.bitCount(set) <= Integer.bitCount(best);
            best = isFewer && t.behind(side, amount, n).open() ? set : best;
        }
        return best < 0 ? found(Check.NONE) : best;
    }

    int guard(int side, int amount, int n) {
        if (wrongTrial(side, amount, n) != 0) {
            return found(wrongTrial(side, amount, n));
        }
        for (int c = 0; c < roof.cisterns && roof.behind(side, amount, n).open(); c++) {
            PlainRoof t = roof.twin();
            t.gutter[c] = -1;
            if (!t.behind(side, amount, n).open()) {
                return c;
            }
        }
        return found(Check.NONE);
    }

    int weak() {
        int set = 0;
        for (int i = 0; i < roof.conditions; i++) {
            set += roof.without(i).buckets() != roof.buckets() ? 1 << i : 0;
        }
        return set;
    }

    int leaks(int c, int side, int amount, int n, int v) {
        if (!isCistern(c) || !in(v, 0, 40) || !in(side, 0, 3) || !in(amount, 0, 9) || !in(n, 1, 20)) {
            return found(Check.BEYOND);
        }
        if (isLate(n)) {
            return found(Check.STATE);
        }
        int set = 0;
        for (int leak = 0; leak <= 9; leak++) {
            PlainRoof t = roof.twin();
            t.leak[c] = leak;
            set += t.behind(side, amount, n).level[c] == v ? 1 << leak : 0;
        }
        return set;
    }

    int sides(int amount, int n) {
        if (wrongTrial(0, amount, n) != 0) {
            return found(wrongTrial(0, amount, n));
        }
        int set = 0;
        for (int side = 0; side < 4; side++) {
            set += roof.behind(side, amount, n).open() ? 1 << side : 0;
        }
        return set;
    }

    int cat() {
        if (roof.cisterns == 0) {
            return found(Check.STATE);
        }
        int c = draw() % roof.cisterns;
        roof.gutter[c] = draw() % roof.cisterns;
        return roof.gutter[c];
    }

    int seed(int v) {
        int was = z;
        z = v;
        return was;
    }

    // ---- texts

    int feed(int bytes, int n) {
        if (!in(n, 1, 4)) {
            return found(Check.BEYOND);
        }
        if (tape.length() + n > 120) {
            return found(Check.FULL);
        }
        String all = new String(new char[] {(char) (bytes >> 24 & 255), (char) (bytes >> 16 & 255), (char) (bytes >> 8 & 255), (char) (bytes & 255)});
        tape += all.substring(4 - n);
        return tape.length();
    }

    int wipe() {
        int had = tape.length();
        tape = "";
        return had;
    }

    int text() {
        PlainText text = new PlainText(tape, roof);
        tape = "";
        if (text.fault >= 0) {
            return -1 - text.fault;
        }
        roof = text.roof;
        return text.items;
    }

    // ---- spots, sheets

    int hold(int spot, int c) {
        if (!in(spot, 0, 9) || c != -1 && !isCistern(c)) {
            return found(Check.BEYOND);
        }
        spots[spot] = c;
        return 1;
    }

    int as(int spot, int kind) {
        if (!in(spot, 0, 9) || !in(kind, 0, 6)) {
            return found(Check.BEYOND);
        }
        if (spots[spot] < 0) {
            return found(Check.MISSING);
        }
        for (int is = roof.kind[spots[spot]]; is >= 0; is = ABOVE[is]) {
            if (is == kind) {
                return spots[spot];
            }
        }
        return found(Check.KIND);
    }

    int sheet(int s, int b, int n) {
        if (!in(s, 0, 3) || b != 0 && b != 8 && b != 16 && b != 32) {
            return found(Check.BEYOND);
        }
        if (n < 0) {
            return found(Check.SIZE);
        }
        if (n > 40) {
            return found(Check.BEYOND);
        }
        bits[s] = b;
        sheets[s] = b == 0 ? null : new int[n];
        return b == 0 ? 0 : n;
    }

    /** The finding of a call about a sheet that isn't there, or 0. */
    private int wrongSheet(int s) {
        return !in(s, 0, 3) ? Check.BEYOND : sheets[s] == null ? Check.MISSING : 0;
    }

    int write(int s, int i, int v) {
        if (wrongSheet(s) != 0) {
            return found(wrongSheet(s));
        }
        if (!in(i, 0, sheets[s].length - 1)) {
            return found(Check.BEYOND);
        }
        sheets[s][i] = v << 32 - bits[s] >> 32 - bits[s];
        return 1;
    }

    int copy(int s, int from, int t, int to, int n) {
        if (!in(s, 0, 3) || !in(t, 0, 3)) {
            return found(Check.BEYOND);
        }
        if (sheets[s] == null || sheets[t] == null) {
            return found(Check.MISSING);
        }
        if (bits[s] != bits[t]) {
            return found(Check.KIND);
        }
        boolean isNegative = from < 0 || to < 0 || n < 0;
        if (isNegative || (long) from + n > sheets[s].length || (long) to + n > sheets[t].length) {
            return found(Check.BEYOND);
        }
        int[] were = sheets[s].clone();
        for (int i = 0; i < n; i++) {
            sheets[t][to + i] = were[from + i];
        }
        return n;
    }

    int load(int s) {
        if (wrongSheet(s) != 0) {
            return found(wrongSheet(s));
        }
        int came = 0;
        for (int v : sheets[s]) {
            if (!isCistern(came) || !in(v, 0, roof.height[came])) {
                break;
            }
            roof.level[came++] = v;
        }
        return came;
    }

    int rust(int s, int n) {
        int wrong = wrongSheet(s) != 0 ? wrongSheet(s) : wrongRains(n);
        if (wrong != 0) {
            return found(wrong);
        }
        int many = 0;
        for (int r = 0; r < PlainRoof.rainsOf(n); r++) {
            PlainRoof t = roof.behindRain(r, n);
            boolean fits = true;
            for (int c = 0; c < t.cisterns && c < sheets[s].length; c++) {
                fits &= t.level[c] == sheets[s][c];
            }
            many += fits ? 1 : 0;
        }
        return many;
    }

    int judge(int s) {
        if (wrongSheet(s) != 0) {
            return found(wrongSheet(s));
        }
        if (isLate(sheets[s].length)) {
            return found(Check.STATE);
        }
        PlainRoof t = roof;
        for (int i = 0; i < sheets[s].length; i++) {
            int told = sheets[s][i];
            if (!in(told, 0, 39)) {
                return 2 + i;
            }
            t = t.behind(told / 10, told % 10, 1);
        }
        return t.open() ? 0 : 1;
    }

    // ---- images

    private void take(PlainVault other) {
        roof = other.roof.twin();
        spots = other.spots.clone();
        hour = other.hour;
        z = other.z;
    }

    int image() {
        kept = new PlainVault();
        kept.take(this);
        return 1;
    }

    int undo() {
        if (kept == null) {
            return found(Check.NONE);
        }
        take(kept);
        return hour;
    }

    int tear() {
        int was = kept != null ? 1 : 0;
        kept = null;
        return was;
    }

    int count(int what) {
        int held = 0;
        for (int spot : spots) {
            held += spot >= 0 ? 1 : 0;
        }
        int[] told = {hour, roof.cisterns, roof.conditions, roof.levels(), roof.ranOff, tape.length(), z, held};
        return in(what, 0, 7) ? told[what] : found(Check.BEYOND);
    }

    int status(int which) {
        if (!in(which, -1, 6)) {
            return found(Check.BEYOND);
        }
        int all = 0;
        for (int i = 0; i < 7; i++) {
            all += which == -1 || which == i ? findings[i] : 0;
        }
        return all;
    }
}
