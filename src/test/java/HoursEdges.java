import java.util.function.Supplier;

/** Boundary cases of promises 13 to 16: hours. */
final class HoursEdges {
    private static final String[] BEYOND_RAIN = {"(-1, 0, 1", "(4, 0, 1", "(MIN, 0, 1", "(MAX, 0, 1", "(0, -1, 1", "(0, 10, 1",
        "(0, MIN, 1", "(0, MAX, 1"};

    private HoursEdges() {
    }

    static void run() {
        rain();
        rainAsHoursEnd();
        rainBeyond();
        rainState();
        weather();
        weatherDraws();
        weatherBeyond();
        weatherState();
        aheadOfNoHours();
        aheadOfManyHours();
        aheadRunsOff();
        aheadLevel();
        aheadChangesNothing();
        aheadBeyond();
        aheadState();
        when();
        whenNow();
        whenBeyond();
        whenState();
        whenNone();
    }

    /** All that is wrong with SIDE or AMOUNT of a call that begins with these. */
    static String[] wrongRains(String name, String rest) {
        String[] calls = new String[BEYOND_RAIN.length];
        for (int i = 0; i < calls.length; i++) {
            calls[i] = name + BEYOND_RAIN[i] + rest;
        }
        return calls;
    }

    private static void rain() {
        Edge.promise(13, "n HOURS (1 to 100) of a rain");
        Edge.run("", "rain(0, 0, 1) = 1", "count(0) = 1", "rain(3, 9, 100) = 100", "count(0) = 101");
        Edge.run("lock 2 0 0", "rain(0, 0, 1) = 0", "rain(3, 9, 100) = 0", "count(0) = 101");
        Edge.run("cistern high 40 leak 0", "rain(3, 9, 1) = 1", "of(0, 2) = 9", "rain(0, 0, 1) = 1", "of(0, 2) = 9", "rain(0, 1, 31) = 31",
            "of(0, 2) = 40", "count(4) = 0", "rain(0, 1, 1) = 1", "count(4) = 1");
    }

    private static void rainAsHoursEnd() {
        Edge.promise(13, "in how many of these THE LOCK is OPEN as they end.");
        Edge.run("cistern leak 9;lock 2 0 0", "rain(0, 9, 1) = 1", "rain(0, 9, 100) = 100");
        Edge.run("cistern leak 0;lock 2 0 0", "open() = 1", "rain(0, 1, 1) = 0", "rain(0, 0, 100) = 0");
        Edge.run("cistern level 1;lock 2 0 0", "open() = 0", "rain(0, 0, 1) = 1");
        Edge.run("siphon level 9 leak 0;lock 2 0 0", "rain(0, 1, 1) = 1", "rain(0, 1, 9) = 0", "rain(0, 1, 1) = 1", "rain(0, 1, 100) = 10");
    }

    private static void rainBeyond() {
        Edge.promise(13, "BEYOND.");
        Supplier<RainVault> made = Edge.made("cistern level 5 leak 2;lock 2 0 0");
        Edge.refused(made, "BEYOND", wrongRains("rain", ")"));
        Edge.refused(made, "BEYOND", "rain(0, 0, 0)", "rain(0, 0, -1)", "rain(0, 0, 101)", "rain(0, 0, MIN)", "rain(0, 0, MAX)");
    }

    private static void rainState() {
        Edge.promise(13, "STATE: HOUR would be above 9999.");
        Edge.run(Edge.late(9998, ""), "rain(0, 0, 1) = 1", "count(0) = 9999", "rain(0, 0, 1) = STATE", "count(0) = 9999");
        Edge.run(Edge.late(9899, ""), "rain(0, 0, 100) = 100", "count(0) = 9999");
        Edge.refused(Edge.late(9999, "cistern level 5"), "STATE", "rain(0, 0, 1)", "rain(3, 9, 100)");
        Edge.refused(Edge.late(9998, "cistern level 5"), "STATE", "rain(0, 9, 2)");
        Edge.refused(Edge.late(9900, "cistern level 5"), "STATE", "rain(0, 9, 100)");
    }

    private static void weather() {
        Edge.promise(14, "n HOURS (1 to 100) by draws");
        Edge.run("", "weather(1) = 1", "count(0) = 1", "weather(100) = 100", "count(0) = 101");
        Edge.run("lock 2 0 0", "weather(1) = 0", "weather(100) = 0", "count(0) = 101");
        Edge.run("cistern level 1;catch 0 0 0 0 0;lock 2 0 0", "weather(1) = 1", "of(0, 2) = 0");
    }

    private static void weatherDraws() {
        Edge.promise(14, "0 dry, 1 to 4 a rain from SIDE 0 to 3 with AMOUNT the rest of the next draw by 10");
        String roof = "cistern high 40 leak 0;catch 0 1 0 0 0;cistern high 40 leak 0;catch 1 0 1 0 0;cistern high 40 leak 0;"
            + "catch 2 0 0 1 0;cistern high 40 leak 0;catch 3 0 0 0 1";
        Edge.run(roof, "seed(-740551042)", "weather(1) = 1", "count(3) = 0", "count(6) = -1492899873");
        Edge.run(roof, "seed(MIN)", "weather(1) = 1", "count(3) = 0", "count(6) = 1406932606");
        Edge.run(roof, "seed(5)", "weather(1) = 1", "of(3, 2) = 6", "count(3) = 6", "count(6) = -1593238901");
        Edge.run(roof, "seed(-1)", "weather(1) = 1", "of(1, 2) = 8", "count(3) = 8", "count(6) = 288979989");
        Edge.run(roof, "seed(0)", "weather(1) = 1", "of(2, 2) = 8", "count(3) = 8", "count(6) = -740551042");
        Edge.run(roof, "seed(-1770082073)", "weather(1) = 1", "of(0, 2) = 3", "count(3) = 3", "count(6) = -999580867");
        Edge.run(roof, "seed(52)", "weather(1) = 1", "of(3, 2) = 9", "count(3) = 9", "count(6) = 1558410194");
        Edge.run(roof, "seed(MAX)", "weather(1) = 1", "of(3, 2) = 6", "count(3) = 6", "count(6) = -1858503659");
    }

    private static void weatherBeyond() {
        Edge.promise(14, "BEYOND.");
        Edge.refused(Edge.made("cistern level 5;lock 2 0 0"), "BEYOND", "weather(0)", "weather(-1)", "weather(101)", "weather(MIN)",
            "weather(MAX)");
    }

    private static void weatherState() {
        Edge.promise(14, "STATE likewise.");
        Edge.run(Edge.late(9998, ""), "weather(1) = 1", "count(0) = 9999", "weather(1) = STATE", "count(0) = 9999");
        Edge.run(Edge.late(9899, ""), "weather(100) = 100", "count(0) = 9999");
        Edge.refused(Edge.late(9999, "cistern level 5"), "STATE", "weather(1)", "weather(100)");
        Edge.refused(Edge.late(9998, "cistern level 5"), "STATE", "weather(2)");
        Edge.refused(Edge.late(9900, "cistern level 5"), "STATE", "weather(100)");
    }

    private static void aheadOfNoHours() {
        Edge.promise(15, "A rain AHEAD of n HOURS (0 to 100");
        Edge.run("cistern high 1 level 1;siphon level 10;lock 3 0 0", "rain(0, 9, 1) = 0", "change(0, 2, 1)", "change(1, 2, 10)",
            "ahead(0, 9, 0, 0) = 1", "ahead(0, 9, 0, 1) = 0", "ahead(0, 9, 0, 2) = 11", "ahead(0, 9, 0, 3) = 0", "ahead(0, 9, 0, 4) = 1",
            "ahead(0, 9, 0, 5) = 10");
        Edge.run("lock 2 0 0", "ahead(0, 0, 0, 0) = 0", "ahead(0, 0, 0, 1) = 0");
    }

    private static void aheadOfManyHours() {
        Edge.promise(15, "what 0 whether it is OPEN then, 1 in how many it is, 2 LEVELS of all together");
        Edge.run("cistern high 40 leak 0;cistern leak 0;lock 4 0 40", "ahead(3, 1, 1, 1) = 1", "ahead(3, 1, 39, 0) = 1",
            "ahead(3, 1, 40, 0) = 0", "ahead(3, 1, 100, 0) = 0", "ahead(3, 1, 100, 1) = 39", "ahead(3, 1, 100, 2) = 50",
            "ahead(0, 9, 100, 1) = 4", "ahead(0, 0, 100, 1) = 100");
    }

    private static void aheadRunsOff() {
        Edge.promise(15, "3 what runs off the roof (lost by (b), (c))");
        Edge.run("cistern high 40 level 9 leak 9", "ahead(0, 0, 1, 3) = 0", "ahead(0, 9, 100, 3) = 0");
        Edge.run("cistern high 1 level 1 leak 0", "rain(0, 9, 1) = 1", "count(4) = 9", "ahead(0, 0, 1, 3) = 0", "ahead(0, 1, 1, 3) = 1",
            "ahead(0, 9, 100, 3) = 900", "count(4) = 9");
        Edge.run("cistern level 10 leak 0;cistern level 10 leak 0 to 0", "ahead(0, 1, 1, 3) = 2");
        Edge.run("ice;ice;ice;ice;ice;ice;ice;ice;catch 0 9 9 9 9;catch 7 9 9 9 9", "ahead(2, 9, 100, 3) = 21520");
    }

    private static void aheadLevel() {
        Edge.promise(15, "4 + CISTERN its LEVEL.");
        Edge.run("ice;ice level 1;ice level 2;ice level 3;ice level 4;ice level 5;ice level 6;ice level 7", "ahead(0, 0, 0, 4) = 0",
            "ahead(0, 0, 0, 11) = 7", "ahead(0, 2, 1, 4) = 2", "ahead(0, 2, 1, 11) = 9", "ahead(0, 9, 100, 11) = 10");
    }

    private static void aheadChangesNothing() {
        Edge.promise(15, "nothing changes");
        RainVault x = Edge.run("cistern high 1 level 1 to 1;siphon level 9;lock 2 1 0");
        String seen = Check.seen(x);
        for (int what = 0; what <= 5; what++) {
            x.ahead(0, 9, 100, what);
            Edge.same("after ahead(0, 9, 100, " + what + ")", Check.seen(x), seen);
        }
        Edge.due("status(0)", x.status(0), 0);
        Edge.due("status(4)", x.status(4), 0);
    }

    private static void aheadBeyond() {
        Edge.promise(15, "BEYOND: no such CISTERN, too.");
        Supplier<RainVault> made = Edge.made("cistern level 5;lock 2 0 0");
        Edge.refused(made, "BEYOND", wrongRains("ahead", ", 0)"));
        Edge.refused(made, "BEYOND", "ahead(0, 0, -1, 0)", "ahead(0, 0, 101, 0)", "ahead(0, 0, MIN, 0)", "ahead(0, 0, MAX, 0)",
            "ahead(0, 0, 0, -1)", "ahead(0, 0, 0, 5)", "ahead(0, 0, 0, 11)", "ahead(0, 0, 0, 12)", "ahead(0, 0, 0, MIN)", "ahead(0, 0, 0, MAX)");
        Edge.refused(Edge.made(""), "BEYOND", "ahead(0, 0, 0, 4)", "ahead(0, 0, 1, 11)");
        Edge.refused(Edge.made("ice;ice;ice;ice;ice;ice;ice;ice"), "BEYOND", "ahead(0, 0, 0, 12)", "ahead(0, 0, 0, -1)");
    }

    private static void aheadState() {
        Edge.promise(15, "STATE.");
        Edge.refused(Edge.late(9999, "cistern"), "STATE", "ahead(0, 0, 1, 0)", "ahead(0, 0, 100, 4)");
        Edge.refused(Edge.late(9900, "cistern"), "STATE", "ahead(0, 0, 100, 0)");
        Edge.run(Edge.late(9999, "cistern"), "ahead(0, 0, 0, 0) = 1", "ahead(0, 0, 0, 4) = 0");
        Edge.run(Edge.late(9900, "cistern"), "ahead(0, 0, 99, 1) = 99");
    }

    private static void when() {
        Edge.promise(16, "The first of n HOURS (1 to 100) of a rain AHEAD by the end of which it is OPEN");
        String roof = "cistern high 40 leak 0 to 1;cistern high 40 leak 0 to 2;catch 1 0 0 0 0;cistern high 20 leak 0";
        Edge.run(roof + ";catch 2 0 0 0 0;lock 3 2 0", "when(0, 1, 100) = 100", "when(0, 9, 12) = 12", "when(0, 9, 100) = 12", "count(0) = 0");
        Edge.run("cistern level 1;lock 2 0 0", "when(0, 0, 1) = 1", "when(0, 0, 100) = 1", "when(3, 9, 1) = NONE");
    }

    private static void whenNow() {
        Edge.promise(16, "(0: now).");
        Edge.run("", "when(0, 0, 1) = 0", "when(3, 9, 100) = 0");
        Edge.run("cistern leak 0;lock 2 0 0", "when(0, 9, 1) = 0", "ahead(0, 9, 1, 0) = 0");
    }

    private static void whenBeyond() {
        Edge.promise(16, "BEYOND.");
        Supplier<RainVault> made = Edge.made("cistern level 5");
        Edge.refused(made, "BEYOND", wrongRains("when", ")"));
        Edge.refused(made, "BEYOND", "when(0, 0, 0)", "when(0, 0, -1)", "when(0, 0, 101)", "when(0, 0, MIN)", "when(0, 0, MAX)");
    }

    private static void whenState() {
        Edge.promise(16, "STATE.");
        Edge.refused(Edge.late(9999, "cistern;lock 3 0 0"), "STATE", "when(0, 0, 1)", "when(0, 9, 100)");
        Edge.refused(Edge.late(9998, "cistern;lock 3 0 0"), "STATE", "when(0, 9, 2)");
        Edge.refused(Edge.late(9900, "cistern level 9;lock 3 0 0"), "STATE", "when(0, 9, 100)");
        Edge.run(Edge.late(9998, "cistern level 9 leak 0;lock 3 0 0"), "when(0, 1, 1) = 1", "when(0, 0, 1) = NONE");
        Edge.run(Edge.late(9899, "cistern level 9 leak 0;lock 3 0 0"), "when(0, 1, 100) = 1");
    }

    private static void whenNone() {
        Edge.promise(16, "NONE.");
        String roof = "cistern high 40 leak 0 to 1;cistern high 40 leak 0 to 2;catch 1 0 0 0 0;cistern high 20 leak 0;catch 2 0 0 0 0;lock 3 2 0";
        Edge.refused(Edge.made(roof), "NONE", "when(0, 1, 99)", "when(0, 9, 11)", "when(0, 0, 100)");
        Edge.refused(Edge.made("lock 2 0 0"), "NONE", "when(0, 0, 1)", "when(0, 0, 100)");
    }
}
