/**
 * A vault that rain opens: a roof of cisterns, a lock that gives when their levels stand as told, and hours of rain.
 * What each call answers stands in shared/DOC.md; the words in capitals in the comments here are that document's.
 */
public final class RainVault {
    private static final int BEYOND = -1000001;
    private static final int FULL = -1000002;
    private static final int WRONG_KIND = -1000003;
    private static final int NONE = -1000004;
    private static final int STATE = -1000005;
    private static final int MISSING = -1000006;
    private static final int SIZE = -1000007;
    private static final int FINDINGS = 7;

    private static final int MOST_CISTERNS = 8;
    private static final int MOST_CONDITIONS = 8;
    private static final int MOST_HEIGHT = 40;
    private static final int MOST_DIGIT = 9;
    private static final int MOST_HOUR = 9999;
    private static final int MOST_BUCKETS = 4;
    private static final int MOST_BYTES = 120;
    private static final int MOST_NUMBERS = 40;
    private static final int LONGEST_RAIN = 5;
    private static final int LONGEST_TRIAL = 20;
    private static final int LONGEST_SPELL = 100;
    private static final int SIDES = 4;
    private static final int SIGNS = 5;
    private static final int AMOUNT_OF_RAINS = 3;
    private static final int SPOTS = 10;

    /** What is told of a CISTERN, by the numbers that of() and change() have for it. */
    private static final int KIND = 0;
    private static final int HEIGHT = 1;
    private static final int LEVEL = 2;
    private static final int LEAK = 3;
    private static final int GUTTER = 4;
    private static final int CLOTH = 5;
    private static final int SHOWS = 6;
    private static final int CATCH = 7;
    private static final int FACTS = 11;
    private static final int[] LEAST_FACT = {0, 1, 0, 0, -1, 0, 0, 0, 0, 0, 0};
    private static final int[] MOST_FACT = {6, 40, 40, 9, 7, 1, 40, 9, 9, 9, 9};

    private static final int SIPHON = 1;
    private static final int SLOW = 2;
    private static final int TIPPED = 3;
    private static final int FALSE = 4;
    private static final int FROZEN = 5;
    private static final int ICE = 6;
    private static final int MOST_KIND = 6;
    /** For each KIND the set of all that it is one of: itself and those above it. */
    private static final int[] KINDS_OF = {0b1, 0b11, 0b101, 0b1011, 0b10101, 0b100001, 0b1100001};

    /** What is told of a CONDITION, by the numbers that lockOf() has for it. */
    private static final int SORT = 0;
    private static final int LEFT = 1;
    private static final int RIGHT = 2;
    private static final int HOLDS = 3;
    private static final int CONDITION_FACTS = 3;

    private static final int MORE_THAN = 0;
    private static final int AS_MUCH_AS = 1;
    private static final int EMPTY = 2;
    private static final int TO_THE_BRIM = 3;
    private static final int LESS_THAN_NUMBER = 4;

    private final Roof roof = new Roof();
    private final Roof kept = new Roof();
    /** Where all that only might be is tried, so that the roof itself stays as it is. */
    private final Roof trial = new Roof();
    private final Survey survey = new Survey(trial);
    private final Carrier carrier = new Carrier(trial);
    private final int[] tape = new int[MOST_BYTES];
    private final TextReader reader = new TextReader(tape, trial);
    private final Sheet[] sheets = {new Sheet(), new Sheet(), new Sheet(), new Sheet()};
    private final int[] findings = new int[FINDINGS];
    private int tapeLength = 0;
    private boolean isKept = false;

    public RainVault() {
    }

    // ---- the roof

    public int cistern(int kind, int height) {
        if (!isWithin(kind, 0, MOST_KIND) || !isWithin(height, 1, MOST_HEIGHT)) {
            return finding(BEYOND);
        }
        if (roof.cisterns >= MOST_CISTERNS) {
            return finding(FULL);
        }
        return roof.addCistern(kind, height);
    }

    public int of(int cistern, int what) {
        if (!roof.hasCistern(cistern) || !isWithin(what, 0, FACTS - 1)) {
            return finding(BEYOND);
        }
        return what == SHOWS ? roof.shown(cistern) : roof.get(cistern, what);
    }

    public int change(int cistern, int what, int v) {
        if (!roof.hasCistern(cistern) || !isWithin(what, 0, FACTS - 1) || !roof.mayBecome(cistern, what, v)) {
            return finding(BEYOND);
        }
        int was = roof.get(cistern, what);
        roof.set(cistern, what, v);
        return was;
    }

    public int cold(int v) {
        if (!isWithin(v, 0, 1)) {
            return finding(BEYOND);
        }
        int was = roof.isCold ? 1 : 0;
        roof.isCold = v == 1;
        return was;
    }

    public int catches(int cistern, int side, int amount) {
        if (!roof.hasCistern(cistern) || !isRain(side, amount)) {
            return finding(BEYOND);
        }
        return roof.caught(cistern, side, amount);
    }

    public int below(int cistern) {
        if (!roof.hasCistern(cistern)) {
            return finding(BEYOND);
        }
        return roof.reachedFrom(cistern);
    }

    // ---- the lock

    public int lock(int sort, int a, int b) {
        if (!isWithin(sort, MORE_THAN, LESS_THAN_NUMBER) || !isWithin(a, 0, MOST_CISTERNS - 1)
                || !isWithin(b, 0, mostRight(sort))) {
            return finding(BEYOND);
        }
        if (roof.conditions >= MOST_CONDITIONS) {
            return finding(FULL);
        }
        return roof.addCondition(sort, a, b);
    }

    public int lockOf(int condition, int what) {
        if (!isWithin(condition, 0, roof.conditions - 1) || !isWithin(what, SORT, HOLDS)) {
            return finding(BEYOND);
        }
        if (what == HOLDS) {
            return roof.holds(condition) ? 1 : 0;
        }
        return roof.conditionFact(condition, what);
    }

    public int pick(int condition) {
        if (!isWithin(condition, 0, roof.conditions - 1)) {
            return finding(BEYOND);
        }
        roof.removeCondition(condition);
        return roof.conditions;
    }

    public int holding() {
        int set = 0;
        for (int i = 0; i < roof.conditions; i++) {
            if (roof.holds(i)) {
                set |= 1 << i;
            }
        }
        return set;
    }

    public int open() {
        return roof.isOpen() ? 1 : 0;
    }

    // ---- hours

    public int rain(int side, int amount, int n) {
        if (!isRain(side, amount) || !isWithin(n, 1, LONGEST_SPELL)) {
            return finding(BEYOND);
        }
        if (isTooLate(n)) {
            return finding(STATE);
        }
        return roof.passHours(side, amount, n);
    }

    public int weather(int n) {
        if (!isWithin(n, 1, LONGEST_SPELL)) {
            return finding(BEYOND);
        }
        if (isTooLate(n)) {
            return finding(STATE);
        }
        int opens = 0;
        for (int i = 0; i < n; i++) {
            roof.passDrawnHour();
            if (roof.isOpen()) {
                opens++;
            }
        }
        return opens;
    }

    public int ahead(int side, int amount, int n, int what) {
        boolean isTold = isWithin(what, 0, 3) || isWithin(what, 4, 3 + roof.cisterns);
        if (!isRain(side, amount) || !isWithin(n, 0, LONGEST_SPELL) || !isTold) {
            return finding(BEYOND);
        }
        if (isTooLate(n)) {
            return finding(STATE);
        }
        trial.become(roof);
        int opens = trial.passHours(side, amount, n);
        switch (what) {
            case 0:
                return trial.isOpen() ? 1 : 0;
            case 1:
                return opens;
            case 2:
                return trial.levelsTogether();
            case 3:
                return trial.ranOff - roof.ranOff;
            default:
                return trial.get(what - 4, LEVEL);
        }
    }

    public int when(int side, int amount, int n) {
        if (!isRain(side, amount) || !isWithin(n, 1, LONGEST_SPELL)) {
            return finding(BEYOND);
        }
        if (isTooLate(n)) {
            return finding(STATE);
        }
        trial.become(roof);
        if (trial.isOpen()) {
            return 0;
        }
        for (int i = 1; i <= n; i++) {
            trial.passHour(side, amount);
            if (trial.isOpen()) {
                return i;
            }
        }
        return finding(NONE);
    }

    // ---- all rains

    public int rains(int n) {
        int fault = faultOfRains(n);
        if (fault != 0) {
            return finding(fault);
        }
        survey.lookThrough(roof, n);
        return survey.opening;
    }

    public int first(int n, int i) {
        int fault = isWithin(i, 0, n - 1) ? faultOfRains(n) : BEYOND;
        if (fault != 0) {
            return finding(fault);
        }
        survey.lookThrough(roof, n);
        return survey.opening == 0 ? finding(NONE) : at(survey.firstSigns, i);
    }

    public int driest(int n) {
        int fault = faultOfRains(n);
        if (fault != 0) {
            return finding(fault);
        }
        survey.lookThrough(roof, n);
        return survey.opening == 0 ? finding(NONE) : survey.fewestWet;
    }

    public int soonest() {
        if (isTooLate(LONGEST_RAIN)) {
            return finding(STATE);
        }
        for (int n = 0; n <= LONGEST_RAIN; n++) {
            survey.lookThrough(roof, n);
            if (survey.opening > 0) {
                return n;
            }
        }
        return finding(NONE);
    }

    public int needed(int n) {
        int fault = faultOfRains(n);
        if (fault != 0) {
            return finding(fault);
        }
        survey.lookThrough(roof, n);
        return survey.opening == 0 ? finding(NONE) : survey.commonSides;
    }

    // ---- heirs and thieves

    public int buckets() {
        trial.become(roof);
        int fewest = carrier.fewest();
        return fewest < 0 ? finding(NONE) : fewest;
    }

    public int carry(int i) {
        if (!isWithin(i, 0, MOST_BUCKETS - 1)) {
            return finding(BEYOND);
        }
        trial.become(roof);
        if (i >= carrier.fewest()) {
            return finding(NONE);
        }
        return at(carrier.way, i);
    }

    public int cloths(int side, int amount, int n) {
        int fault = faultOfTrial(side, amount, n);
        if (fault != 0) {
            return finding(fault);
        }
        for (int many = 0; many <= roof.cisterns; many++) {
            for (int set = 0; set < (1 << roof.cisterns); set++) {
                if (Integer.bitCount(set) == many) {
                    trial.become(roof);
                    trial.coverJust(set);
                    trial.passHours(side, amount, n);
                    if (trial.isOpen()) {
                        return set;
                    }
                }
            }
        }
        return finding(NONE);
    }

    public int guard(int side, int amount, int n) {
        int fault = faultOfTrial(side, amount, n);
        if (fault != 0) {
            return finding(fault);
        }
        trial.become(roof);
        trial.passHours(side, amount, n);
        if (!trial.isOpen()) {
            return finding(NONE);
        }
        for (int c = 0; c < roof.cisterns; c++) {
            trial.become(roof);
            trial.set(c, GUTTER, -1);
            trial.passHours(side, amount, n);
            if (!trial.isOpen()) {
                return c;
            }
        }
        return finding(NONE);
    }

    public int weak() {
        trial.become(roof);
        int all = carrier.fewest();
        int set = 0;
        for (int i = 0; i < roof.conditions; i++) {
            trial.become(roof);
            trial.removeCondition(i);
            if (carrier.fewest() != all) {
                set |= 1 << i;
            }
        }
        return set;
    }

    public int leaks(int cistern, int side, int amount, int n, int v) {
        boolean isThere = roof.hasCistern(cistern) && isWithin(v, 0, MOST_HEIGHT);
        int fault = isThere ? faultOfTrial(side, amount, n) : BEYOND;
        if (fault != 0) {
            return finding(fault);
        }
        int set = 0;
        for (int leak = 0; leak <= MOST_DIGIT; leak++) {
            trial.become(roof);
            trial.set(cistern, LEAK, leak);
            trial.passHours(side, amount, n);
            if (trial.get(cistern, LEVEL) == v) {
                set |= 1 << leak;
            }
        }
        return set;
    }

    public int sides(int amount, int n) {
        int fault = faultOfTrial(0, amount, n);
        if (fault != 0) {
            return finding(fault);
        }
        int set = 0;
        for (int side = 0; side < SIDES; side++) {
            trial.become(roof);
            trial.passHours(side, amount, n);
            if (trial.isOpen()) {
                set |= 1 << side;
            }
        }
        return set;
    }

    public int cat() {
        int many = roof.cisterns;
        if (many <= 0) {
            return finding(STATE);
        }
        int turned = roof.draw() % many;
        int to = roof.draw() % many;
        roof.set(turned, GUTTER, to);
        return to;
    }

    public int seed(int v) {
        int was = roof.z;
        roof.z = v;
        return was;
    }

    // ---- texts

    public int feed(int bytes, int n) {
        if (!isWithin(n, 1, 4)) {
            return finding(BEYOND);
        }
        if (tapeLength + n > MOST_BYTES) {
            return finding(FULL);
        }
        for (int left = n - 1; left >= 0; left--) {
            put(tape, tapeLength, (bytes >>> (8 * left)) & 255);
            tapeLength++;
        }
        return tapeLength;
    }

    public int wipe() {
        int had = tapeLength;
        tapeLength = 0;
        return had;
    }

    public int text() {
        trial.become(roof);
        int told = reader.read(tapeLength);
        tapeLength = 0;
        if (told >= 0) {
            roof.become(trial);
        }
        return told;
    }

    // ---- spots, sheets

    public int hold(int spot, int cistern) {
        if (!isWithin(spot, 0, SPOTS - 1) || !isWithin(cistern, -1, roof.cisterns - 1)) {
            return finding(BEYOND);
        }
        put(roof.spots, spot, cistern);
        return 1;
    }

    public int as(int spot, int kind) {
        if (!isWithin(spot, 0, SPOTS - 1) || !isWithin(kind, 0, MOST_KIND)) {
            return finding(BEYOND);
        }
        int held = at(roof.spots, spot);
        if (held < 0) {
            return finding(MISSING);
        }
        return roof.isOf(held, kind) ? held : finding(WRONG_KIND);
    }

    public int sheet(int s, int bits, int n) {
        Sheet sheet = sheetAt(s);
        if (sheet == null || bits != 0 && bits != 8 && bits != 16 && bits != 32) {
            return finding(BEYOND);
        }
        if (n < 0) {
            return finding(SIZE);
        }
        if (n > MOST_NUMBERS) {
            return finding(BEYOND);
        }
        sheet.begin(bits, bits == 0 ? 0 : n);
        return sheet.length;
    }

    public int write(int s, int i, int v) {
        Sheet sheet = sheetAt(s);
        if (sheet == null) {
            return finding(BEYOND);
        }
        if (sheet.isMissing()) {
            return finding(MISSING);
        }
        if (!isWithin(i, 0, sheet.length - 1)) {
            return finding(BEYOND);
        }
        sheet.putLowest(i, v);
        return 1;
    }

    public int copy(int s, int from, int t, int to, int n) {
        Sheet source = sheetAt(s);
        Sheet target = sheetAt(t);
        if (source == null || target == null) {
            return finding(BEYOND);
        }
        if (source.isMissing() || target.isMissing()) {
            return finding(MISSING);
        }
        if (source.bits != target.bits) {
            return finding(WRONG_KIND);
        }
        if (!source.hasRange(from, n) || !target.hasRange(to, n)) {
            return finding(BEYOND);
        }
        System.arraycopy(source.numbers, from, target.numbers, to, n);
        return n;
    }

    public int load(int s) {
        Sheet sheet = sheetAt(s);
        if (sheet == null) {
            return finding(BEYOND);
        }
        if (sheet.isMissing()) {
            return finding(MISSING);
        }
        int came = 0;
        while (came < sheet.length && roof.hasCistern(came) && roof.mayBecome(came, LEVEL, at(sheet.numbers, came))) {
            roof.set(came, LEVEL, at(sheet.numbers, came));
            came++;
        }
        return came;
    }

    public int rust(int s, int n) {
        Sheet sheet = sheetAt(s);
        if (sheet == null) {
            return finding(BEYOND);
        }
        if (sheet.isMissing()) {
            return finding(MISSING);
        }
        int fault = faultOfRains(n);
        if (fault != 0) {
            return finding(fault);
        }
        survey.begin(roof, n);
        int many = survey.howMany();
        int fitting = 0;
        for (int r = 0; r < many; r++) {
            survey.passRain(r);
            if (hasLevelsOf(trial, sheet)) {
                fitting++;
            }
        }
        return fitting;
    }

    public int judge(int s) {
        Sheet sheet = sheetAt(s);
        if (sheet == null) {
            return finding(BEYOND);
        }
        if (sheet.isMissing()) {
            return finding(MISSING);
        }
        if (isTooLate(sheet.length)) {
            return finding(STATE);
        }
        trial.become(roof);
        for (int i = 0; i < sheet.length; i++) {
            int told = at(sheet.numbers, i);
            if (!isWithin(told, 0, 10 * SIDES - 1)) {
                return 2 + i;
            }
            trial.passHour(told / 10, told % 10);
        }
        return trial.isOpen() ? 0 : 1;
    }

    // ---- images

    public int image() {
        kept.become(roof);
        isKept = true;
        return 1;
    }

    public int undo() {
        if (!isKept) {
            return finding(NONE);
        }
        roof.become(kept);
        return roof.hour;
    }

    public int tear() {
        int was = isKept ? 1 : 0;
        isKept = false;
        return was;
    }

    public int count(int what) {
        switch (what) {
            case 0:
                return roof.hour;
            case 1:
                return roof.cisterns;
            case 2:
                return roof.conditions;
            case 3:
                return roof.levelsTogether();
            case 4:
                return roof.ranOff;
            case 5:
                return tapeLength;
            case 6:
                return roof.z;
            case 7:
                return roof.spotsInUse();
            default:
                return finding(BEYOND);
        }
    }

    public int status(int which) {
        if (!isWithin(which, -1, FINDINGS - 1)) {
            return finding(BEYOND);
        }
        if (which >= 0) {
            return at(findings, which);
        }
        int all = 0;
        for (int i = 0; i < findings.length; i++) {
            all += findings[i];
        }
        return all;
    }

    // ---- what the calls share

    private int finding(int code) {
        int which = BEYOND - code;
        put(findings, which, at(findings, which) + 1);
        return code;
    }

    private boolean isTooLate(int hoursMore) {
        return roof.hour + hoursMore > MOST_HOUR;
    }

    /** The finding of a call about all RAINS of n hours, or 0. */
    private int faultOfRains(int n) {
        if (!isWithin(n, 0, LONGEST_RAIN)) {
            return BEYOND;
        }
        return isTooLate(n) ? STATE : 0;
    }

    /** The finding of a call that tries a rain of n HOURS in several ways, or 0. */
    private int faultOfTrial(int side, int amount, int n) {
        if (!isRain(side, amount) || !isWithin(n, 1, LONGEST_TRIAL)) {
            return BEYOND;
        }
        return isTooLate(n) ? STATE : 0;
    }

    private Sheet sheetAt(int s) {
        return s >= 0 && s < sheets.length ? sheets[s] : null;
    }

    private static boolean hasLevelsOf(Roof roof, Sheet sheet) {
        int both = Math.min(roof.cisterns, sheet.length);
        for (int c = 0; c < both; c++) {
            if (roof.get(c, LEVEL) != at(sheet.numbers, c)) {
                return false;
            }
        }
        return true;
    }

    private static boolean isRain(int side, int amount) {
        return isWithin(side, 0, SIDES - 1) && isWithin(amount, 0, MOST_DIGIT);
    }

    /** The most that b of a CONDITION of a SORT may be: with most SORTS it is the number of a CISTERN. */
    private static int mostRight(int sort) {
        return sort == LESS_THAN_NUMBER ? MOST_HEIGHT : MOST_CISTERNS - 1;
    }

    /** The SIDE of an hour's SIGN; a dry hour has none, and any will do for it. */
    private static int sideOf(int sign) {
        return sign > 0 ? sign - 1 : 0;
    }

    private static boolean isWithin(int v, int least, int most) {
        return v >= least && v <= most;
    }

    private static int at(int[] row, int i) {
        return i >= 0 && i < row.length ? row[i] : 0;
    }

    private static void put(int[] row, int i, int v) {
        if (i >= 0 && i < row.length) {
            row[i] = v;
        }
    }

    private static void copyRow(int[] from, int[] to) {
        System.arraycopy(from, 0, to, 0, Math.min(from.length, to.length));
    }

    /** All that an image keeps: CISTERNS, the LOCK, SPOTS, COLD, HOUR, draws and what ran off. */
    private static final class Roof {
        private final int[] facts = new int[MOST_CISTERNS * FACTS];
        private final int[] conditionFacts = new int[MOST_CONDITIONS * CONDITION_FACTS];
        private final int[] spots = {-1, -1, -1, -1, -1, -1, -1, -1, -1, -1};
        private int cisterns = 0;
        private int conditions = 0;
        private boolean isCold = false;
        private int hour = 0;
        private int ranOff = 0;
        private int z = 1;

        void become(Roof other) {
            copyRow(other.facts, facts);
            copyRow(other.conditionFacts, conditionFacts);
            copyRow(other.spots, spots);
            cisterns = other.cisterns;
            conditions = other.conditions;
            isCold = other.isCold;
            hour = other.hour;
            ranOff = other.ranOff;
            z = other.z;
        }

        boolean hasCistern(int c) {
            return c >= 0 && c < cisterns;
        }

        int get(int c, int what) {
            int i = c * FACTS + what;
            return i >= 0 && i < facts.length ? facts[i] : 0;
        }

        void set(int c, int what, int v) {
            int i = c * FACTS + what;
            if (i >= 0 && i < facts.length) {
                facts[i] = v;
            }
        }

        int addCistern(int kind, int height) {
            int c = cisterns;
            cisterns++;
            set(c, KIND, kind);
            set(c, HEIGHT, height);
            set(c, LEVEL, 0);
            set(c, LEAK, 1);
            set(c, GUTTER, -1);
            set(c, CLOTH, 0);
            for (int side = 0; side < SIDES; side++) {
                set(c, CATCH + side, 1);
            }
            return c;
        }

        /** Whether v can be what is told of a CISTERN; what it SHOWS can't be changed. */
        boolean mayBecome(int c, int what, int v) {
            int least = what == HEIGHT ? Math.max(1, get(c, LEVEL)) : at(LEAST_FACT, what);
            int most = what == LEVEL ? get(c, HEIGHT) : at(MOST_FACT, what);
            return what != SHOWS && isWithin(v, least, most);
        }

        /** Whether a CISTERN is of a KIND, or of one under it. */
        boolean isOf(int c, int wanted) {
            int kind = get(c, KIND);
            return kind >= 0 && kind < KINDS_OF.length && ((KINDS_OF[kind] >> wanted) & 1) == 1;
        }

        int caught(int c, int side, int amount) {
            if (get(c, CLOTH) == 1 || isCold && isOf(c, FROZEN)) {
                return 0;
            }
            int water = amount * get(c, CATCH + side);
            return isOf(c, SLOW) ? water / 2 : water;
        }

        private int leaked(int c) {
            if (isOf(c, ICE) || isCold && isOf(c, FROZEN)) {
                return 0;
            }
            return Math.min(get(c, LEAK), get(c, LEVEL));
        }

        int shown(int c) {
            int level = get(c, LEVEL);
            if (isOf(c, FALSE)) {
                return get(c, HEIGHT) - level;
            }
            return isOf(c, TIPPED) && level < 3 ? 0 : level;
        }

        private int runningOver(int c) {
            int level = get(c, LEVEL);
            int above = level - get(c, HEIGHT);
            if (isOf(c, SIPHON)) {
                return above >= 0 ? level : 0;
            }
            return Math.max(0, above);
        }

        /** The CISTERN to which water by a GUTTER comes, or -1: it is lost. */
        private int gutterEnd(int c) {
            int to = get(c, GUTTER);
            return hasCistern(to) && to != c ? to : -1;
        }

        int reachedFrom(int c) {
            int set = 0;
            int end = gutterEnd(c);
            for (int step = 0; step < MOST_CISTERNS && end >= 0; step++) {
                set |= 1 << end;
                end = gutterEnd(end);
            }
            return set;
        }

        void raise(int c, int water) {
            set(c, LEVEL, get(c, LEVEL) + water);
        }

        /** Water leaves a CISTERN by its GUTTER. */
        private void runOver(int c, int water) {
            int end = gutterEnd(c);
            raise(c, -water);
            if (end >= 0) {
                raise(end, water);
            } else {
                ranOff += water;
            }
        }

        /** Water that came when a CISTERN had run over already doesn't go by its GUTTER any more. */
        private void spill(int c) {
            int water = Math.max(0, get(c, LEVEL) - get(c, HEIGHT));
            raise(c, -water);
            ranOff += water;
        }

        void passHour(int side, int amount) {
            for (int c = 0; c < cisterns; c++) {
                raise(c, caught(c, side, amount));
            }
            for (int c = 0; c < cisterns; c++) {
                runOver(c, runningOver(c));
            }
            for (int c = 0; c < cisterns; c++) {
                spill(c);
            }
            for (int c = 0; c < cisterns; c++) {
                raise(c, -leaked(c));
            }
            hour++;
        }

        /** n HOURS: in how many it is OPEN as they end. */
        int passHours(int side, int amount, int n) {
            int opens = 0;
            for (int i = 0; i < n; i++) {
                passHour(side, amount);
                if (isOpen()) {
                    opens++;
                }
            }
            return opens;
        }

        void passDrawnHour() {
            int sign = draw() % SIGNS;
            int amount = sign == 0 ? 0 : draw() % 10;
            passHour(sideOf(sign), amount);
        }

        int draw() {
            z = z * 1103515245 + 12345;
            return z >>> 8;
        }

        void coverJust(int set) {
            for (int c = 0; c < cisterns; c++) {
                set(c, CLOTH, (set >> c) & 1);
            }
        }

        int levelsTogether() {
            int all = 0;
            for (int c = 0; c < cisterns; c++) {
                all += get(c, LEVEL);
            }
            return all;
        }

        void keepLevels(int[] row, int from) {
            for (int c = 0; c < cisterns; c++) {
                put(row, from + c, get(c, LEVEL));
            }
        }

        void takeLevels(int[] row, int from) {
            for (int c = 0; c < cisterns; c++) {
                set(c, LEVEL, at(row, from + c));
            }
        }

        int addCondition(int sort, int a, int b) {
            int i = conditions;
            conditions++;
            setCondition(i, sort, a, b);
            return i;
        }

        void removeCondition(int condition) {
            conditions--;
            for (int i = condition; i < conditions; i++) {
                setCondition(i, conditionFact(i + 1, SORT), conditionFact(i + 1, LEFT), conditionFact(i + 1, RIGHT));
            }
        }

        private void setCondition(int i, int sort, int a, int b) {
            put(conditionFacts, i * CONDITION_FACTS + SORT, sort);
            put(conditionFacts, i * CONDITION_FACTS + LEFT, a);
            put(conditionFacts, i * CONDITION_FACTS + RIGHT, b);
        }

        int conditionFact(int i, int what) {
            return at(conditionFacts, i * CONDITION_FACTS + what);
        }

        boolean holds(int i) {
            int a = conditionFact(i, LEFT);
            int b = conditionFact(i, RIGHT);
            if (!hasCistern(a)) {
                return false;
            }
            switch (conditionFact(i, SORT)) {
                case MORE_THAN:
                    return hasCistern(b) && shown(a) > shown(b);
                case AS_MUCH_AS:
                    return hasCistern(b) && shown(a) == shown(b);
                case EMPTY:
                    return shown(a) == 0;
                case TO_THE_BRIM:
                    return shown(a) == get(a, HEIGHT);
                default:
                    return shown(a) < b;
            }
        }

        boolean isOpen() {
            for (int i = 0; i < conditions; i++) {
                if (!holds(i)) {
                    return false;
                }
            }
            return true;
        }

        int spotsInUse() {
            int used = 0;
            for (int i = 0; i < spots.length; i++) {
                if (spots[i] >= 0) {
                    used++;
                }
            }
            return used;
        }
    }

    /** All RAINS of so many hours, gone through from the least on, and what is common to those that open. */
    private static final class Survey {
        private final Roof trial;
        private final int[] signs = new int[LONGEST_RAIN];
        /** LEVELS ahead of each hour and in the end, so that hours shared with the RAIN before aren't passed again. */
        private final int[] levels = new int[(LONGEST_RAIN + 1) * MOST_CISTERNS];
        private final int[] firstSigns = new int[LONGEST_RAIN];
        private int hours = 0;
        private int opening = 0;
        private int fewestWet = 0;
        private int commonSides = 0;

        Survey(Roof trial) {
            this.trial = trial;
        }

        void begin(Roof now, int n) {
            trial.become(now);
            hours = n;
            trial.keepLevels(levels, 0);
        }

        int howMany() {
            int many = 1;
            for (int i = 0; i < hours; i++) {
                many *= SIGNS;
            }
            return many;
        }

        /** Passes RAIN r on the trial roof; r goes up by one from 0 on. */
        void passRain(int r) {
            int changed = hours;
            int rest = r;
            for (int i = hours - 1; i >= 0; i--) {
                int sign = rest % SIGNS;
                rest /= SIGNS;
                if (r == 0 || sign != at(signs, i)) {
                    put(signs, i, sign);
                    changed = i;
                }
            }
            trial.takeLevels(levels, changed * MOST_CISTERNS);
            for (int i = changed; i < hours; i++) {
                int sign = at(signs, i);
                trial.passHour(sideOf(sign), sign == 0 ? 0 : AMOUNT_OF_RAINS);
                trial.keepLevels(levels, (i + 1) * MOST_CISTERNS);
            }
        }

        void lookThrough(Roof now, int n) {
            begin(now, n);
            opening = 0;
            fewestWet = n;
            commonSides = (1 << SIDES) - 1;
            int many = howMany();
            for (int r = 0; r < many; r++) {
                passRain(r);
                if (trial.isOpen()) {
                    note();
                }
            }
        }

        private void note() {
            if (opening == 0) {
                copyRow(signs, firstSigns);
            }
            opening++;
            int wet = 0;
            int sides = 0;
            for (int i = 0; i < hours; i++) {
                int sign = at(signs, i);
                if (sign > 0) {
                    wet++;
                    sides |= 1 << sideOf(sign);
                }
            }
            fewestWet = Math.min(fewestWet, wet);
            commonSides &= sides;
        }
    }

    /** Buckets carried by night: the fewest that open, and the way of them that is the least. */
    private static final class Carrier {
        /** More than there are ways of so few buckets into so few CISTERNS. */
        private static final int MOST_WAYS = 1000;
        private final Roof trial;
        private final int[] levels = new int[MOST_CISTERNS];
        private final int[] way = new int[MOST_BUCKETS];

        Carrier(Roof trial) {
            this.trial = trial;
        }

        /** The fewest buckets that open the trial roof as it stands, or -1, if there is no way with so few. */
        int fewest() {
            trial.keepLevels(levels, 0);
            for (int n = 0; n <= MOST_BUCKETS; n++) {
                boolean isLeft = true;
                beginWays();
                for (int i = 0; i < MOST_WAYS && isLeft; i++) {
                    if (carryOnTrial(n) && trial.isOpen()) {
                        return n;
                    }
                    isLeft = nextWay(n);
                }
            }
            return -1;
        }

        /** The ways of n buckets, each told by rising numbers of CISTERNS, are gone through from the least on. */
        private void beginWays() {
            for (int i = 0; i < way.length; i++) {
                way[i] = 0;
            }
        }

        private boolean nextWay(int n) {
            for (int i = n - 1; i >= 0; i--) {
                int c = at(way, i) + 1;
                if (trial.hasCistern(c)) {
                    for (int j = i; j < n; j++) {
                        put(way, j, c);
                    }
                    return true;
                }
            }
            return false;
        }

        /** Whether there is room for all of the buckets. */
        private boolean carryOnTrial(int n) {
            trial.takeLevels(levels, 0);
            for (int i = 0; i < n; i++) {
                int c = at(way, i);
                if (!trial.hasCistern(c) || trial.get(c, LEVEL) >= trial.get(c, HEIGHT)) {
                    return false;
                }
                trial.raise(c, 1);
            }
            return true;
        }
    }

    /** THE TAPE cut into TOKENS; behind the last one all are END, at the place behind the last byte. */
    private static final class Tokens {
        /** Sorts of TOKENS: the KINDS' own numbers are those of their WORDS, the other WORDS' go on from there. */
        private static final int HIGH_WORD = 7;
        private static final int LEVEL_WORD = 8;
        private static final int LEAK_WORD = 9;
        private static final int TO_WORD = 10;
        private static final int CATCH_WORD = 11;
        private static final int LOCK_WORD = 12;
        private static final int COLD_WORD = 13;
        private static final int WARM_WORD = 14;
        private static final int WORDS = 15;
        private static final int NUMBER = 15;
        private static final int SEMICOLON = 16;
        private static final int END = 17;
        /** Another WORD, or a byte that begins no TOKEN: it can't stand anywhere. */
        private static final int NOTHING = 18;
        /** Stands for every NUMBER that is too great for any place. */
        private static final int TOO_GREAT = 1000;

        private final int[] tape;
        private final int[] sorts = new int[MOST_BYTES + 1];
        private final int[] starts = new int[MOST_BYTES + 1];
        private final int[] values = new int[MOST_BYTES + 1];
        private int length = 0;
        private int place = 0;

        Tokens(int[] tape) {
            this.tape = tape;
        }

        void cut(int bytes) {
            length = Math.min(bytes, tape.length);
            place = 0;
            for (int i = 0; i < starts.length; i++) {
                while (place < length && at(tape, place) == ' ') {
                    place++;
                }
                starts[i] = place;
                put(sorts, i, cutToken(i));
            }
        }

        /** Goes behind the TOKEN that begins at the place now: its sort. */
        private int cutToken(int i) {
            if (place >= length) {
                return END;
            }
            int start = place;
            if (isLetter(at(tape, start))) {
                while (place < length && isLetter(at(tape, place))) {
                    place++;
                }
                return sortOfWord(start);
            }
            if (isDigit(at(tape, start))) {
                put(values, i, cutNumber());
                return NUMBER;
            }
            place++;
            return at(tape, start) == ';' ? SEMICOLON : NOTHING;
        }

        private int cutNumber() {
            int value = 0;
            while (place < length && isDigit(at(tape, place))) {
                value = Math.min(TOO_GREAT, 10 * value + at(tape, place) - '0');
                place++;
            }
            return value;
        }

        private int sortOfWord(int start) {
            for (int word = 0; word < WORDS; word++) {
                if (isFromTo(start, letters(word))) {
                    return word;
                }
            }
            return NOTHING;
        }

        private boolean isFromTo(int start, String letters) {
            if (place - start != letters.length()) {
                return false;
            }
            for (int i = 0; i < letters.length(); i++) {
                if (at(tape, start + i) != letters.charAt(i)) {
                    return false;
                }
            }
            return true;
        }

        private static String letters(int word) {
            switch (word) {
                case SIPHON:
                    return "siphon";
                case SLOW:
                    return "slow";
                case TIPPED:
                    return "tipped";
                case FALSE:
                    return "false";
                case FROZEN:
                    return "frozen";
                case ICE:
                    return "ice";
                case HIGH_WORD:
                    return "high";
                case LEVEL_WORD:
                    return "level";
                case LEAK_WORD:
                    return "leak";
                case TO_WORD:
                    return "to";
                case CATCH_WORD:
                    return "catch";
                case LOCK_WORD:
                    return "lock";
                case COLD_WORD:
                    return "cold";
                case WARM_WORD:
                    return "warm";
                default:
                    return "cistern";
            }
        }

        private static boolean isLetter(int b) {
            return b >= 'a' && b <= 'z';
        }

        private static boolean isDigit(int b) {
            return b >= '0' && b <= '9';
        }
    }

    /** Reads a TEXT from TOKENS; what it tells is made so on a draft, which begins as a copy of the roof. */
    private static final class TextReader {
        private final Tokens tokens;
        private final Roof draft;
        /** The TOKEN that is looked at; it stays at the first one that can't stand there. */
        private int now = 0;
        /** The NUMBER that was taken last. */
        private int taken = 0;

        TextReader(int[] tape, Roof draft) {
            this.tokens = new Tokens(tape);
            this.draft = draft;
        }

        /** How many ITEMS, or -1 less the FAULT. */
        int read(int bytes) {
            tokens.cut(bytes);
            now = 0;
            for (int items = 1; items <= MOST_BYTES && readItem(); items++) {
                if (sortNow() == Tokens.END) {
                    return items;
                }
                if (sortNow() != Tokens.SEMICOLON) {
                    break;
                }
                now++;
            }
            return -1 - at(tokens.starts, now);
        }

        private int sortNow() {
            return at(tokens.sorts, now);
        }

        private boolean readItem() {
            int sort = sortNow();
            if (sort <= MOST_KIND) {
                return readCistern(sort);
            }
            switch (sort) {
                case Tokens.CATCH_WORD:
                    return readCatch();
                case Tokens.LOCK_WORD:
                    return readLock();
                case Tokens.COLD_WORD:
                case Tokens.WARM_WORD:
                    draft.isCold = sort == Tokens.COLD_WORD;
                    now++;
                    return true;
                default:
                    return false;
            }
        }

        private boolean readCistern(int kind) {
            if (draft.cisterns >= MOST_CISTERNS) {
                return false;
            }
            now++;
            if (!takePart(Tokens.HIGH_WORD, 1, MOST_HEIGHT, 10)) {
                return false;
            }
            int height = taken;
            int c = draft.addCistern(kind, height);
            return takePart(Tokens.LEVEL_WORD, 0, height, 0) && setTaken(c, LEVEL)
                    && takePart(Tokens.LEAK_WORD, 0, MOST_DIGIT, 1) && setTaken(c, LEAK)
                    && takePart(Tokens.TO_WORD, 0, MOST_CISTERNS - 1, -1) && setTaken(c, GUTTER);
        }

        private boolean readCatch() {
            now++;
            if (!takeNumber(0, draft.cisterns - 1)) {
                return false;
            }
            int c = taken;
            for (int side = 0; side < SIDES; side++) {
                if (!takeNumber(0, MOST_DIGIT)) {
                    return false;
                }
                draft.set(c, CATCH + side, taken);
            }
            return true;
        }

        private boolean readLock() {
            if (draft.conditions >= MOST_CONDITIONS) {
                return false;
            }
            now++;
            if (!takeNumber(MORE_THAN, LESS_THAN_NUMBER)) {
                return false;
            }
            int sort = taken;
            if (!takeNumber(0, MOST_CISTERNS - 1)) {
                return false;
            }
            int a = taken;
            if (!takeNumber(0, mostRight(sort))) {
                return false;
            }
            draft.addCondition(sort, a, taken);
            return true;
        }

        /** A part that may be left out: its WORD and a NUMBER. */
        private boolean takePart(int word, int least, int most, int otherwise) {
            if (sortNow() == word) {
                now++;
                return takeNumber(least, most);
            }
            taken = otherwise;
            return true;
        }

        private boolean takeNumber(int least, int most) {
            int value = at(tokens.values, now);
            if (at(tokens.sorts, now) != Tokens.NUMBER || !isWithin(value, least, most)) {
                return false;
            }
            taken = value;
            now++;
            return true;
        }

        private boolean setTaken(int c, int what) {
            draft.set(c, what, taken);
            return true;
        }
    }

    /** A row of numbers of so many bits; of 0 bits while it is MISSING. */
    private static final class Sheet {
        private final int[] numbers = new int[MOST_NUMBERS];
        private int bits = 0;
        private int length = 0;

        void begin(int bitsEach, int n) {
            bits = bitsEach;
            length = n;
            for (int i = 0; i < numbers.length; i++) {
                numbers[i] = 0;
            }
        }

        boolean isMissing() {
            return bits == 0;
        }

        /** Whether n numbers stand from one on. */
        boolean hasRange(int from, int n) {
            int end = Math.min(length, numbers.length);
            return from >= 0 && n >= 0 && from <= end && n <= end - from;
        }

        void putLowest(int i, int v) {
            if (bits == 8) {
                put(numbers, i, (byte) v);
            } else if (bits == 16) {
                put(numbers, i, (short) v);
            } else {
                put(numbers, i, v);
            }
        }
    }
}
