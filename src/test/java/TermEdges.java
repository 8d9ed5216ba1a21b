import java.util.function.Supplier;

/** Boundary cases of the terms: findings, cisterns, hours, the lock, rains, draws, spots, sheets (texts: TextEdges). */
final class TermEdges {
    private static final String EIGHT = "ice;ice;ice;ice;ice;ice;ice;ice";
    private static final String EIGHT_LOCKS = "lock 2 7 0;lock 2 7 0;lock 2 7 0;lock 2 7 0;lock 2 7 0;lock 2 7 0;lock 2 7 0;lock 2 7 0";
    private static final String ALL_KINDS = "cistern;siphon;slow;tipped;false;frozen;ice";

    private TermEdges() {
    }

    static void run() {
        findings();
        noFinding();
        orderOfFindings();
        orderOfLateFindings();
        refusedCalls();
        quotients();
        sets();
        leastOfSeveral();
        cisterns();
        sizes();
        kinds();
        cold();
        caught();
        slow();
        frozen();
        leaked();
        ice();
        shows();
        falseOnes();
        tipped();
        runsOver();
        siphon();
        othersAsAbove();
        hourCatches();
        hourRunsOver();
        hourLosesWhatIsAbove();
        hourLeaks();
        hours();
        conditions();
        sorts();
        open();
        rains();
        rainsInOrder();
        draws();
        spots();
        sheets();
        sheetSigns();
    }

    private static void findings() {
        Edge.term(46, "Terms", "LOW is -1000001; LOW BEYOND, LOW - 1 FULL, LOW - 2 KIND, LOW - 3 NONE, LOW - 4 STATE, LOW - 5 MISSING, LOW - 6 SIZE.");
        Edge.run("", "status(7) = -1000001", "undo() = -1000004", "cat() = -1000005", "load(0) = -1000006", "sheet(0, 8, -1) = -1000007",
            "sheet(0, 8, 0)", "sheet(1, 16, 0)", "copy(0, 0, 1, 0, 0) = -1000003", "8* cistern(0, 1)", "cistern(0, 1) = -1000002",
            "status(0) = 1", "status(1) = 1", "status(2) = 1", "status(3) = 1", "status(4) = 1", "status(5) = 1", "status(6) = 1");
    }

    private static void noFinding() {
        Edge.term(30, "Terms", "What seed() and count(6) tell, z, may be any int: that is no finding.");
        Edge.run("", "seed(-1000000) = 1", "seed(BEYOND) = -1000000", "count(6) = BEYOND", "seed(SIZE) = BEYOND", "count(6) = SIZE",
            "seed(MIN) = SIZE", "count(6) = MIN", "seed(MAX) = MIN", "count(6) = MAX", "seed(0) = MAX", "count(6) = 0", "status(-1) = 0");
    }

    /** Each call has two or more that it could answer. */
    private static void orderOfFindings() {
        Edge.term(46, "Terms", "Each act tells its findings in the order in which they are asked (that of its words)");
        Supplier<RainVault> full = Edge.made(EIGHT + ";" + EIGHT_LOCKS, "30* feed(0, 4)", "change(7, 2, 5)",
            "hold(1, 0)", "sheet(0, 8, 2)", "sheet(1, 16, 2)");
        Edge.refused(full, "BEYOND", "cistern(7, 10)", "cistern(0, 0)", "lock(5, 0, 0)", "lock(0, 8, 0)", "lock(0, 0, 8)", "feed(0, 0)",
            "feed(0, 5)", "when(4, 0, 1)", "when(0, 10, 1)", "when(0, 0, 101)", "first(6, 0)", "first(5, 5)", "driest(6)", "needed(-1)", "carry(4)",
            "cloths(0, 0, 21)", "guard(4, 0, 1)", "as(10, 9)", "as(0, 7)", "as(1, 7)", "sheet(4, 9, -1)", "sheet(0, 9, -1)", "sheet(0, 9, 41)",
            "write(4, 9, 0)", "copy(0, 9, 4, 0, 1)", "copy(2, 0, 4, 0, 1)", "copy(4, 0, 2, 0, 1)", "load(4)", "rust(4, 6)", "judge(4)");
        Edge.refused(full, "FULL", "cistern(0, 10)", "lock(0, 0, 0)", "feed(0, 1)");
        Edge.refused(full, "MISSING", "as(0, 1)", "write(2, 9, 0)", "copy(0, 0, 2, 9, 1)", "copy(2, 9, 1, 0, 1)", "rust(2, 6)");
        Edge.refused(full, "KIND", "as(1, 1)", "copy(0, 9, 1, 0, 1)", "copy(0, 0, 1, 0, -1)");
        Edge.refused(full, "NONE", "when(0, 0, 1)", "first(5, 4)", "driest(5)", "soonest()", "needed(5)", "buckets()", "carry(3)",
            "cloths(0, 0, 1)", "guard(0, 0, 1)");
        Edge.refused(full, "SIZE", "sheet(0, 8, -1)", "sheet(0, 0, -1)");
    }

    private static void orderOfLateFindings() {
        Edge.term(46, "Terms", "Each act tells its findings in the order in which they are asked (that of its words)");
        Supplier<RainVault> late = Edge.late(9999, "ice level 1;lock 2 0 0", "sheet(0, 8, 2)", "write(0, 1, 40)");
        Edge.refused(late, "BEYOND", "rain(4, 0, 1)", "rain(0, 0, 101)", "weather(101)", "ahead(0, 0, 101, 0)", "ahead(0, 0, 1, 5)", "when(0, 0, 101)",
            "rains(6)", "first(6, 0)", "first(5, 5)", "driest(6)", "needed(6)", "cloths(0, 0, 21)", "guard(0, 0, 21)", "leaks(1, 0, 0, 1, 0)",
            "leaks(0, 0, 0, 1, 41)", "sides(10, 1)", "rust(0, 6)", "rust(4, 1)", "judge(4)");
        Edge.refused(late, "STATE", "rain(0, 0, 1)", "weather(1)", "ahead(0, 0, 1, 0)", "when(0, 0, 1)", "rains(1)", "first(1, 0)", "driest(1)",
            "soonest()", "needed(1)", "cloths(0, 0, 1)", "guard(0, 0, 1)", "leaks(0, 0, 0, 1, 0)", "sides(0, 1)", "rust(0, 1)", "judge(0)");
        Edge.refused(late, "MISSING", "rust(1, 1)", "rust(1, 6)", "judge(1)");
        Edge.refused(late, "NONE", "driest(0)", "needed(0)");
    }

    /** Each act once, on a vault that holds something of all. */
    private static void refusedCalls() {
        Edge.term(46, "Terms", "one that answers a finding changes nothing but status().");
        Supplier<RainVault> busy = Edge.made("siphon level 9 to 1;cistern level 10;lock 2 0 0;lock 3 7 0;cold", "seed(77)", "hold(3, 1)",
            "sheet(0, 8, 2)", "write(0, 0, 5)", "sheet(1, 16, 1)", "image()", "change(1, 2, 4)", "rain(0, 5, 2)", "feed(6906725, 3)");
        Edge.refused(busy, "BEYOND", "cistern(7, 1)", "of(2, 0)", "change(0, 2, 11)", "cold(2)", "catches(0, 4, 0)", "below(2)", "lock(5, 0, 0)",
            "lockOf(2, 0)", "pick(2)", "rain(0, 0, 0)", "weather(0)", "ahead(0, 0, 0, 6)", "when(0, 0, 0)", "rains(6)", "first(0, 0)", "driest(6)",
            "needed(6)", "carry(4)", "cloths(0, 0, 0)", "guard(0, 0, 0)", "leaks(2, 0, 0, 1, 0)", "sides(0, 0)", "feed(0, 5)", "hold(3, 2)",
            "as(3, 7)", "sheet(0, 8, 41)", "write(0, 2, 0)", "copy(0, 0, 0, 1, 2)", "load(4)", "rust(0, 6)", "judge(4)", "count(8)", "status(7)");
        Edge.refused(busy, "NONE", "when(0, 9, 100)", "first(5, 0)", "driest(5)", "soonest()", "needed(5)", "buckets()", "carry(0)",
            "cloths(0, 9, 20)", "guard(0, 9, 20)");
        Edge.refused(busy, "MISSING", "as(0, 0)", "write(2, 0, 0)", "copy(0, 0, 2, 0, 0)", "load(2)", "rust(2, 0)", "judge(2)");
        Edge.refused(busy, "KIND", "as(3, 1)", "copy(0, 0, 1, 0, 1)");
        Edge.refused(busy, "SIZE", "sheet(0, 8, -1)");
    }

    private static void quotients() {
        Edge.term(6, "Terms", "Quotients are cut.");
        Edge.run("slow", "catches(0, 0, 0) = 0", "catches(0, 0, 1) = 0", "catches(0, 0, 2) = 1", "catches(0, 0, 3) = 1", "catches(0, 0, 9) = 4",
            "rain(0, 1, 1) = 1", "of(0, 2) = 0");
    }

    private static void sets() {
        Edge.term(11, "Terms", "Sets are told as bits");
        Edge.run(EIGHT + ";" + EIGHT_LOCKS, "holding() = 255", "change(7, 2, 1)", "holding() = 0", "weak() = 0", "cloths(0, 0, 1) = NONE");
        Edge.run("ice to 7;ice;ice;ice;ice;ice;ice;ice", "below(0) = 128", "below(7) = 0", "sides(9, 20) = 15", "leaks(0, 0, 0, 1, 0) = 1023");
    }

    private static void leastOfSeveral() {
        Edge.term(25, "Terms", "of several that would do the least number counts, where nothing else is told.");
        Edge.run("ice;ice level 10 to 0;ice level 10 to 0;lock 4 1 40;lock 0 0 3;ice high 40;catch 3 2 2 2 2", "guard(0, 1, 1) = 1",
            "change(1, 4, -1)", "guard(0, 1, 1) = NONE", "change(3, 7, 1)", "guard(0, 1, 1) = 2");
        Edge.run("ice level 9;ice level 9;lock 4 0 11", "buckets() = 0", "cloths(0, 9, 1) = 0");
        Edge.run("ice;ice;lock 4 2 40;lock 2 0 0;ice", "cloths(0, 1, 1) = 1");
    }

    private static void cisterns() {
        Edge.term(2, "Terms 1", "CISTERNS 0, 1, .. (at most 8)");
        Edge.run("", "8* cistern(0, 10)", "count(1) = 8", "cistern(0, 10) = FULL", "of(7, 1) = 10", "of(8, 1) = BEYOND");
        Edge.told("ice", "ice;ice;ice;ice;ice;ice;ice", 7, "count(1) = 8", "cistern(0, 10) = FULL", "text() = -1");
    }

    private static void sizes() {
        Edge.term(2, "Terms 1", "HEIGHT (1 to 40; 10 at first), LEVEL (0 to HEIGHT; 0 at first), LEAK (0 to 9; 1 at first), "
            + "CATCH from each SIDE 0 to 3 (0 to 9; 1 at first), GUTTER (to a CISTERN, 0 to 7, there or not, or -1: off the roof, at first), "
            + "CLOTH over it or not (at first)");
        Edge.told("", "cistern", 1, "of(0, 1) = 10", "of(0, 2) = 0", "of(0, 3) = 1", "of(0, 4) = -1", "of(0, 5) = 0", "of(0, 7) = 1", "of(0, 8) = 1",
            "of(0, 9) = 1", "of(0, 10) = 1", "change(0, 4, 7) = -1", "rain(0, 9, 2)", "count(4) = 7", "of(0, 2) = 9");
    }

    private static void kinds() {
        Edge.term(35, "Terms 1", "0 CISTERN; 1 SIPHON, 2 SLOW, 5 FROZEN under CISTERN; 3 TIPPED under SIPHON; 4 FALSE under SLOW; 6 ICE under FROZEN.");
        Edge.run(ALL_KINDS, "hold(3, 3)", "hold(4, 4)", "hold(6, 6)", "as(3, 0) = 3", "as(3, 1) = 3", "as(3, 3) = 3", "as(3, 2) = KIND", "as(4, 0) = 4",
            "as(4, 2) = 4", "as(4, 1) = KIND", "as(4, 3) = KIND", "as(6, 0) = 6", "as(6, 5) = 6", "as(6, 4) = KIND");
        Edge.run(ALL_KINDS, "hold(0, 0)", "hold(1, 1)", "hold(5, 5)", "as(0, 0) = 0", "as(0, 6) = KIND", "as(1, 3) = KIND", "as(5, 6) = KIND");
    }

    private static void cold() {
        Edge.term(5, "Terms 1", "COLD: 0 or 1 (0 at first).");
        Edge.run("frozen", "catches(0, 0, 9) = 9", "cold(1) = 0", "catches(0, 0, 9) = 0", "cold(0) = 1", "catches(0, 0, 9) = 9", "cold(2) = BEYOND");
    }

    private static void caught() {
        Edge.term(6, "Terms 1", "CISTERN: AMOUNT times CATCH, 0 under a CLOTH.");
        Edge.run("cistern;catch 0 9 0 1 9", "catches(0, 0, 9) = 81", "catches(0, 1, 9) = 0", "catches(0, 2, 0) = 0", "catches(0, 3, 9) = 81",
            "change(0, 5, 1)", "catches(0, 0, 9) = 0", "catches(0, 3, 9) = 0", "rain(0, 9, 1)", "of(0, 2) = 0", "count(4) = 0");
    }

    private static void slow() {
        Edge.term(6, "Terms 1", "SLOW: half of what a CISTERN does (cut).");
        Edge.run("slow;catch 0 9 1 3 0", "catches(0, 0, 9) = 40", "catches(0, 1, 1) = 0", "catches(0, 2, 1) = 1", "catches(0, 3, 9) = 0",
            "change(0, 5, 1)", "catches(0, 0, 9) = 0");
    }

    private static void frozen() {
        Edge.term(13, "Terms 1", "FROZEN: as a CISTERN, but 0 if it is COLD.");
        Edge.run("frozen level 5 leak 9", "catches(0, 0, 9) = 9", "cold(1) = 0", "catches(0, 0, 9) = 0", "rain(0, 9, 100)", "of(0, 2) = 5",
            "cold(0) = 1", "rain(0, 0, 1)", "of(0, 2) = 0", "change(0, 5, 1)", "catches(0, 0, 9) = 0");
        Edge.run("frozen high 3 level 3 leak 9;cistern level 10 to 0;cold", "rain(0, 2, 1)", "of(0, 2) = 3", "count(4) = 2");
    }

    private static void leaked() {
        Edge.term(13, "Terms 1", "LEAKS: CISTERN: LEAK, LEVEL at most.");
        Edge.run("cistern level 9 leak 9;cistern level 8 leak 9;cistern level 10 leak 9;cistern leak 9;cistern level 4 leak 0", "rain(0, 0, 1)",
            "of(0, 2) = 0", "of(1, 2) = 0", "of(2, 2) = 1", "of(3, 2) = 0", "of(4, 2) = 4", "count(4) = 0");
    }

    private static void ice() {
        Edge.term(13, "Terms 1", "ICE: 0.");
        Edge.run("ice level 9 leak 9", "rain(0, 0, 100)", "of(0, 2) = 9", "cold(1)", "rain(0, 9, 100)", "of(0, 2) = 9", "cold(0)", "rain(0, 9, 1)",
            "of(0, 2) = 10", "catches(0, 0, 9) = 9");
    }

    private static void shows() {
        Edge.term(3, "Terms 1", "SHOWS (what the lock sees): CISTERN: LEVEL.");
        Edge.run("cistern high 40;lock 2 0 0;lock 3 0 0", "of(0, 6) = 0", "holding() = 1", "change(0, 2, 40)", "of(0, 6) = 40", "holding() = 2");
    }

    private static void falseOnes() {
        Edge.term(3, "Terms 1", "FALSE: HEIGHT less LEVEL.");
        Edge.run("false high 40;lock 2 0 0;lock 3 0 0", "of(0, 6) = 40", "holding() = 2", "change(0, 2, 40)", "of(0, 6) = 0", "holding() = 1",
            "change(0, 2, 39)", "of(0, 6) = 1");
        Edge.run("false high 1", "of(0, 6) = 1", "change(0, 2, 1)", "of(0, 6) = 0", "change(0, 1, 40)", "of(0, 6) = 39");
    }

    private static void tipped() {
        Edge.term(3, "Terms 1", "TIPPED: as a SIPHON, but 0 below 3.");
        Edge.run("tipped;siphon", "of(0, 6) = 0", "change(0, 2, 2)", "of(0, 6) = 0", "change(0, 2, 3)", "of(0, 6) = 3", "change(0, 2, 10)",
            "of(0, 6) = 10", "change(1, 2, 2)", "of(1, 6) = 2", "of(0, 2) = 10");
        Edge.run("tipped high 2 level 2;lock 3 0 0;lock 2 0 0", "holding() = 2");
    }

    private static void runsOver() {
        Edge.term(13, "Terms 1", "CISTERN: what is above HEIGHT.");
        Edge.run("cistern leak 0;cistern level 9 leak 0;cistern level 10 leak 0", "rain(0, 1, 1)", "of(0, 2) = 1", "of(1, 2) = 10", "of(2, 2) = 10",
            "count(4) = 1");
    }

    private static void siphon() {
        Edge.term(13, "Terms 1", "SIPHON: all, if LEVEL is HEIGHT or more; else nothing.");
        Edge.run("siphon level 8 leak 0;siphon level 9 leak 0;siphon level 10 leak 0;siphon high 1 leak 0", "rain(0, 1, 1)", "of(0, 2) = 9",
            "of(1, 2) = 0", "of(2, 2) = 0", "of(3, 2) = 0", "count(4) = 22");
        Edge.run("siphon level 10;siphon level 9", "rain(0, 0, 1)", "of(0, 2) = 0", "of(1, 2) = 8", "count(4) = 10");
    }

    private static void othersAsAbove() {
        Edge.term(13, "Terms 1", "(Others as the KIND above.)");
        Edge.run("tipped level 9 leak 0;false level 10 leak 3;ice level 10;frozen level 10 leak 2", "catches(0, 0, 9) = 9", "catches(1, 0, 9) = 4",
            "catches(2, 0, 9) = 9", "rain(0, 2, 1)", "of(0, 2) = 0", "of(1, 2) = 7", "of(2, 2) = 10", "of(3, 2) = 8", "count(4) = 16", "of(2, 6) = 10",
            "of(3, 6) = 8");
        Edge.run("ice;cold", "catches(0, 0, 9) = 0");
    }

    private static void hourCatches() {
        Edge.term(13, "Terms 2", "AN HOUR of rain (SIDE and AMOUNT, 0 to 9): (a) all CATCH.");
        Edge.run("ice high 40;catch 0 1 2 3 4;" + EIGHT.substring(4), "rain(0, 9, 1)", "of(0, 2) = 9", "of(7, 2) = 9", "rain(3, 7, 1)", "of(0, 2) = 37",
            "rain(1, 0, 1)", "of(0, 2) = 37", "of(7, 2) = 10", "count(4) = 42");
        Edge.refused(Edge.made("ice"), "BEYOND", "rain(-1, 0, 1)", "rain(4, 0, 1)", "rain(0, -1, 1)", "rain(0, 10, 1)");
    }

    private static void hourRunsOver() {
        Edge.term(13, "Terms 2", "what does comes to the CISTERN of its GUTTER at once (lost, if there is none, or GUTTER is itself).");
        Edge.run("ice level 10 to 1;ice level 10 to 2;ice level 10", "rain(0, 1, 1)", "of(2, 2) = 10", "count(4) = 3");
        Edge.run("ice level 10 to 0", "rain(0, 1, 1)", "of(0, 2) = 10", "count(4) = 1");
        Edge.run("siphon level 9 leak 0 to 0", "rain(0, 1, 1)", "of(0, 2) = 0", "count(4) = 10");
        Edge.run("ice level 10 to 7", "rain(0, 1, 1)", "of(0, 2) = 10", "count(4) = 1");
        Edge.run("ice level 10 to 1", "rain(0, 1, 1)", "count(4) = 1", "cistern(6, 40) = 1", "rain(0, 1, 1)", "of(1, 2) = 2", "count(4) = 1");
        Edge.run("siphon level 9 leak 0 to 1;siphon level 3 leak 0 to 2;ice high 40", "rain(0, 1, 1)", "of(0, 2) = 0", "of(1, 2) = 0", "of(2, 2) = 15",
            "count(4) = 0");
    }

    private static void hourLosesWhatIsAbove() {
        Edge.term(13, "Terms 2", "(c) Those now above HEIGHT (whose water came later) lose what is above.");
        Edge.run("ice level 9;ice level 10 to 0", "rain(0, 1, 1)", "of(0, 2) = 10", "of(1, 2) = 10", "count(4) = 1");
        Edge.run("ice level 8;ice level 10 to 0", "rain(0, 1, 1)", "of(0, 2) = 10", "count(4) = 0");
        Edge.run("siphon level 8 leak 0;ice level 10 to 0", "rain(0, 1, 1)", "of(0, 2) = 10", "count(4) = 0", "rain(0, 0, 1)", "of(0, 2) = 0",
            "count(4) = 10");
        Edge.run("siphon level 9 leak 0;catch 0 0 0 0 0;siphon level 9 leak 0 to 0", "rain(0, 1, 1)", "of(0, 2) = 10", "of(1, 2) = 0", "count(4) = 9");
    }

    private static void hourLeaks() {
        Edge.term(13, "Terms 2", "(d) All LEAK (what is lost by (b), (c) runs off the roof, what LEAKS doesn't).");
        Edge.run("cistern level 10 leak 9;cistern level 1 leak 9 to 0", "rain(0, 1, 1)", "of(0, 2) = 1", "of(1, 2) = 0", "count(4) = 1");
        Edge.run("cistern level 10 leak 9 to 1;cistern leak 0", "rain(0, 0, 1)", "of(0, 2) = 1", "of(1, 2) = 0", "count(4) = 0");
    }

    private static void hours() {
        Edge.term(13, "Terms 2", "HOUR is one more (0 at first; 9999 at most).");
        Edge.run("", "count(0) = 0", "rain(0, 0, 1)", "count(0) = 1", "weather(1)", "count(0) = 2", "ahead(0, 0, 100, 0)", "count(0) = 2");
        Edge.run(Edge.late(9998, ""), "rain(0, 0, 1) = 1", "count(0) = 9999", "rain(0, 0, 1) = STATE", "weather(1) = STATE", "count(0) = 9999");
    }

    private static void conditions() {
        Edge.term(8, "Terms 2", "THE LOCK: CONDITIONS 0, 1, .. (at most 8)");
        Edge.run("", "8* lock(2, 7, 0)", "count(2) = 8", "lock(2, 7, 0) = FULL", "lockOf(7, 1) = 7", "lockOf(8, 1) = BEYOND");
        Edge.told("lock 2 0 0", "lock 2 0 0;lock 2 0 0;lock 2 0 0;lock 2 0 0;lock 2 0 0;lock 2 0 0;lock 2 0 0", 7, "count(2) = 8",
            "lock(2, 7, 0) = FULL");
    }

    private static void sorts() {
        Edge.term(9, "Terms 2", "0 a SHOWS more than b, 1 a SHOWS as much as b, 2 a SHOWS 0, 3 a SHOWS HEIGHT (of a), 4 a SHOWS less than b as a number (0 to 40).");
        Supplier<RainVault> made = Edge.made("ice high 40 level 5;ice level 5;lock 0 0 1;lock 1 0 1;lock 2 0 1;lock 3 0 1;lock 4 0 5");
        Edge.run(made, "holding() = 2", "change(0, 2, 4)", "holding() = 16", "change(0, 2, 6)", "holding() = 1", "change(0, 2, 0)", "holding() = 20",
            "change(0, 2, 40)", "holding() = 9", "change(0, 2, 10)", "holding() = 1", "change(0, 2, 39)", "holding() = 1");
        Edge.run("ice high 40;lock 4 0 0;lock 4 0 40;lock 0 0 0;lock 1 0 0", "holding() = 10", "change(0, 2, 40)", "holding() = 8", "change(0, 2, 39)",
            "holding() = 10");
    }

    private static void open() {
        Edge.term(12, "Terms 2", "(no CONDITIONS: OPEN; one of a CISTERN that isn't there never holds; b counts with SORTS 0, 1, 4 alone).");
        Edge.run("", "open() = 1", "holding() = 0");
        Edge.run("lock 0 0 1;lock 1 0 0;lock 2 0 0;lock 3 0 0;lock 4 0 40;lock 4 7 40", "open() = 0", "holding() = 0");
        Edge.run("ice level 1;lock 0 0 1;lock 1 0 1;lock 2 1 0;lock 3 1 0;lock 4 1 40;lock 1 1 1;lock 0 1 0", "holding() = 0", "cistern(0, 1) = 1",
            "holding() = 53");
        Edge.run("ice;lock 2 0 7;lock 4 0 7", "open() = 1", "change(0, 2, 6)", "holding() = 2");
        Edge.run("ice level 10;lock 3 0 7", "open() = 1");
    }

    private static void rains() {
        Edge.term(17, "Terms 2", "rows of n SIGNS: 0 dry, 1 to 4 a rain of AMOUNT 3 from SIDE 0 to 3");
        Edge.run("ice;lock 2 0 0", "rains(0) = 1", "rains(1) = 1");
        Edge.run("ice high 3;lock 3 0 0", "rains(0) = 0", "rains(1) = 4", "change(0, 1, 4)", "rains(1) = 0");
        for (int side = 0; side < 4; side++) {
            Edge.run("ice high 3;catch 0 0 0 0 0;lock 3 0 0", "change(0, " + (7 + side) + ", 1)", "rains(1) = 1", "first(1, 0) = " + (side + 1),
                "needed(1) = " + (1 << side));
        }
    }

    private static void rainsInOrder() {
        Edge.term(18, "Terms 2", "gone through from the least on (the first hour first).");
        Edge.run("ice high 3;lock 3 0 0", "first(2, 0) = 0", "first(2, 1) = 1", "first(5, 0) = 0", "first(5, 3) = 0", "first(5, 4) = 1");
        Edge.run("cistern high 3 leak 3;siphon high 3 leak 0 to 0;catch 0 0 0 0 0;ice high 3;catch 2 0 0 0 1;lock 3 2 0", "first(2, 0) = 0", "first(2, 1) = 4");
        Edge.run("cistern high 9 level 1;catch 0 0 0 0 0;ice high 3;catch 1 0 1 0 0;lock 2 0 0;lock 2 1 0", "first(1, 0) = 0", "rains(0) = 0");
    }

    private static void draws() {
        Edge.term(14, "Terms 2", "z is told (1 at first); each makes it z * 1103515245 + 12345 (an int), and gives z >>> 8.");
        Edge.run("ice", "count(6) = 1", "cat() = 0", "count(6) = -1770082073", "cat() = 0", "count(6) = -999580867");
        Edge.run(EIGHT, "seed(-1)", "cat() = 4", "of(1, 4) = 4", "count(6) = 288979989");
        Edge.run(EIGHT, "seed(MAX)", "cat() = 4", "of(1, 4) = 4", "count(6) = -1858503659");
        Edge.run(EIGHT, "seed(MIN)", "cat() = 6", "of(0, 4) = 6", "count(6) = 1406932606");
        Edge.run(EIGHT, "seed(0)", "cat() = 6", "of(0, 4) = 6", "count(6) = -740551042");
    }

    private static void spots() {
        Edge.term(34, "Terms 3", "SPOTS 0 to 9 hold a CISTERN or nothing (at first).");
        Edge.run("ice", "as(0, 0) = MISSING", "as(9, 0) = MISSING", "count(7) = 0", "hold(0, 0) = 1", "hold(9, 0) = 1", "as(0, 0) = 0", "as(9, 6) = 0",
            "count(7) = 2", "hold(10, 0) = BEYOND", "hold(-1, 0) = BEYOND", "as(10, 0) = BEYOND");
    }

    private static void sheets() {
        Edge.term(36, "Terms 3", "SHEETS 0 to 3: rows of at most 40 numbers of 8, 16 or 32 bits");
        Edge.run("", "write(0, 0, 0) = MISSING", "write(3, 0, 0) = MISSING", "write(4, 0, 0) = BEYOND", "sheet(0, 8, 40) = 40", "sheet(3, 32, 40) = 40",
            "sheet(1, 16, 41) = BEYOND", "write(1, 0, 0) = MISSING", "write(3, 39, 1) = 1", "write(3, 40, 1) = BEYOND", "sheet(4, 8, 1) = BEYOND");
    }

    private static void sheetSigns() {
        Edge.term(37, "Terms 3", "(told with their sign: of 8 bits 255 is -1)");
        Edge.run("ice high 40 level 7", "sheet(0, 8, 1)", "write(0, 0, 255) = 1", "load(0) = 0", "of(0, 2) = 7", "judge(0) = 2", "write(0, 0, 256) = 1",
            "load(0) = 1", "of(0, 2) = 0", "sheet(0, 16, 1)", "write(0, 0, 65535) = 1", "load(0) = 0", "write(0, 0, 65546) = 1", "load(0) = 1",
            "of(0, 2) = 10");
    }
}
