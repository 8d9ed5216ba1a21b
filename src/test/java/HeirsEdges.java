import java.util.function.Supplier;

/** Boundary cases of promises 22 to 30: heirs and thieves. */
final class HeirsEdges {
    private static final String EIGHT = "ice;ice;ice;ice;ice;ice;ice;ice";
    private static final String[] WRONG_HOURS = {"0", "-1", "21", "100", "MIN", "MAX"};

    private HeirsEdges() {
    }

    static void run() {
        buckets();
        bucketsHeight();
        bucketsNone();
        carry();
        carryBeyond();
        carryNotSoMany();
        carryDontDo();
        cloths();
        clothsTheLeast();
        clothsHours();
        clothsBeyond();
        clothsState();
        clothsNone();
        guard();
        guardBeyond();
        guardState();
        guardNone();
        weak();
        leaks();
        leaksHours();
        leaksBeyond();
        leaksState();
        sides();
        sidesBeyond();
        sidesState();
        cat();
        catState();
        seed();
    }

    private static void buckets() {
        Edge.promise(22, "The fewest buckets (0 to 4");
        Edge.run("", "buckets() = 0");
        Edge.run("ice;lock 2 0 0", "buckets() = 0");
        Edge.run("ice level 9;lock 3 0 0", "buckets() = 1", "change(0, 2, 6) = 9", "buckets() = 4", "of(0, 2) = 6");
        Edge.run(EIGHT + ";lock 0 4 0;lock 0 5 1;lock 0 6 2;lock 0 7 3", "buckets() = 4", "count(3) = 0");
    }

    private static void bucketsHeight() {
        Edge.promise(22, "each one more of LEVEL in some CISTERN, HEIGHT at most) by which it is OPEN now.");
        Edge.run("ice high 1;ice high 1 level 1;lock 0 0 1", "buckets() = NONE", "change(1, 2, 0) = 1", "buckets() = 1");
        Edge.run("ice high 40 level 39;ice high 40 level 40;lock 1 0 1", "buckets() = 1");
        Edge.run("ice high 1 level 1;ice high 4;lock 1 1 0;lock 3 0 0", "buckets() = 1");
        Edge.run("siphon level 9;lock 3 0 0", "buckets() = 1");
    }

    private static void bucketsNone() {
        Edge.promise(22, "NONE: not with 4.");
        Edge.refused(Edge.made("ice level 5;lock 3 0 0"), "NONE", "buckets()");
        Edge.refused(Edge.made("ice;lock 3 0 0"), "NONE", "buckets()");
        Edge.refused(Edge.made("ice level 1;lock 2 0 0"), "NONE", "buckets()");
        Edge.refused(Edge.made("lock 2 0 0"), "NONE", "buckets()");
    }

    private static void carry() {
        Edge.promise(23, "(by numbers of CISTERNS; of several ways the one with the least first, then next, ..).");
        Edge.run("ice level 6;lock 3 0 0", "carry(0) = 0", "carry(1) = 0", "carry(2) = 0", "carry(3) = 0");
        Edge.run(EIGHT + ";lock 0 7 0;lock 0 6 1;lock 0 5 2;lock 0 4 3", "carry(0) = 4", "carry(1) = 5", "carry(2) = 6", "carry(3) = 7");
        Edge.run("ice high 1;false high 1;lock 1 0 1", "buckets() = 1", "carry(0) = 0", "carry(1) = NONE");
        Edge.run("ice;ice;ice level 1;ice level 1;lock 1 0 1;lock 0 2 0;lock 0 3 0", "carry(0) = NONE");
        Edge.run("tipped level 1;tipped;lock 0 0 1", "carry(0) = 0", "carry(1) = 0", "carry(2) = NONE", "of(0, 2) = 1");
    }

    private static void carryBeyond() {
        Edge.promise(23, "BEYOND: i (0 to 3).");
        Edge.refused(Edge.made("ice level 6;lock 3 0 0"), "BEYOND", "carry(-1)", "carry(4)", "carry(MIN)", "carry(MAX)");
        Edge.refused(Edge.made("lock 2 0 0"), "BEYOND", "carry(-1)", "carry(4)");
    }

    private static void carryNotSoMany() {
        Edge.promise(23, "NONE: there are not so many");
        Edge.refused(Edge.made(""), "NONE", "carry(0)", "carry(3)");
        Edge.refused(Edge.made("ice level 9;lock 3 0 0"), "NONE", "carry(1)", "carry(3)");
        Edge.refused(Edge.made("ice level 7;lock 3 0 0"), "NONE", "carry(3)");
    }

    private static void carryDontDo() {
        Edge.promise(23, "or they don't do.");
        Edge.refused(Edge.made("ice level 5;lock 3 0 0"), "NONE", "carry(0)", "carry(3)");
        Edge.refused(Edge.made("lock 2 0 0"), "NONE", "carry(0)", "carry(3)");
    }

    private static void cloths() {
        Edge.promise(24, "The fewest CLOTHS, as a set of CISTERNS (these just have one)");
        Edge.run("", "cloths(0, 9, 20) = 0");
        Edge.run(EIGHT + ";lock 2 0 0", "cloths(0, 1, 1) = 1");
        Edge.run(EIGHT + ";lock 2 7 0", "cloths(0, 1, 1) = 128");
        Edge.run(EIGHT + ";lock 2 0 0;lock 2 1 0;lock 2 2 0;lock 2 3 0;lock 2 4 0;lock 2 5 0;lock 2 6 0;lock 2 7 0",
            "cloths(0, 1, 1) = 255", "cloths(0, 0, 20) = 0", "of(7, 5) = 0");
        Edge.run("ice;ice;lock 0 1 0", "change(1, 5, 1)", "cloths(0, 1, 1) = 1", "of(0, 5) = 0", "of(1, 5) = 1");
        Edge.run("ice;lock 0 0 1;ice", "change(1, 5, 1)", "cloths(0, 1, 1) = 2", "pick(0) = 0", "cloths(0, 1, 1) = 0");
    }

    private static void clothsTheLeast() {
        Edge.promise(24, "of several the least.");
        Edge.run("ice high 40;ice high 40;ice level 10 to 0;ice level 10 to 0;lock 1 0 1", "cloths(0, 1, 1) = 5", "change(3, 2, 0)",
            "cloths(0, 1, 1) = 1");
        Edge.run("ice level 10 to 3;ice level 10 to 3;ice level 10 to 3;catch 2 2 2 2 2;ice high 40;catch 3 0 0 0 0;lock 4 3 3",
            "cloths(0, 1, 1) = 4");
        Edge.run("ice level 8;ice to 0;ice to 0;lock 4 0 10", "change(1, 2, 10)", "change(2, 2, 10)", "cloths(0, 1, 1) = 3");
    }

    private static void clothsHours() {
        Edge.promise(24, "by which a rain of n HOURS (1 to 20) AHEAD leaves it OPEN");
        Edge.run("ice high 20;lock 3 0 0", "cloths(3, 1, 20) = 0", "cloths(3, 1, 19) = NONE", "cloths(3, 9, 3) = 0", "count(0) = 0");
        Edge.run("ice;lock 4 0 9", "cloths(0, 9, 1) = 1", "cloths(0, 8, 1) = 0");
    }

    private static void clothsBeyond() {
        Edge.promise(24, "BEYOND.");
        wrongTrials("cloths");
    }

    private static void wrongTrials(String name) {
        Supplier<RainVault> made = Edge.made("cistern level 10 to 1;cistern;lock 2 1 0");
        Edge.refused(made, "BEYOND", HoursEdges.wrongRains(name, ")"));
        for (String n : WRONG_HOURS) {
            Edge.refused(made, "BEYOND", name + "(0, 0, " + n + ")");
        }
    }

    private static void clothsState() {
        Edge.promise(24, "STATE.");
        Edge.refused(Edge.late(9999, "cistern"), "STATE", "cloths(0, 0, 1)", "cloths(0, 0, 20)");
        Edge.refused(Edge.late(9980, "cistern;lock 4 0 0"), "STATE", "cloths(0, 0, 20)");
        Edge.run(Edge.late(9979, "cistern"), "cloths(0, 0, 20) = 0");
        Edge.run(Edge.late(9998, "cistern"), "cloths(0, 0, 1) = 0", "cloths(0, 0, 2) = STATE");
    }

    private static void clothsNone() {
        Edge.promise(24, "NONE.");
        Edge.refused(Edge.made("lock 2 0 0"), "NONE", "cloths(0, 0, 1)", "cloths(0, 9, 20)");
        Edge.refused(Edge.made("ice level 1;lock 2 0 0"), "NONE", "cloths(0, 0, 1)");
        Edge.refused(Edge.made(EIGHT + ";lock 3 7 0"), "NONE", "cloths(0, 9, 1)");
    }

    private static void guard() {
        Edge.promise(25, "The CISTERN whose GUTTER alone, turned off the roof, makes a rain of n HOURS (1 to 20) AHEAD not leave it OPEN.");
        Edge.run("ice high 1 to 1;ice high 38;catch 1 0 0 0 0;lock 3 1 0", "guard(0, 2, 20) = 0", "guard(0, 2, 19) = NONE", "of(0, 4) = 1");
        Edge.run("ice level 10 to 1;ice;catch 1 0 0 0 0;lock 0 1 2;ice high 1;catch 2 0 0 0 0", "guard(3, 1, 1) = 0");
        Edge.run("ice;ice;ice;ice;ice;ice;ice;ice level 10 to 6;lock 4 0 2;lock 0 6 0", "guard(0, 1, 1) = 7");
        Edge.run("ice level 10 to 2;ice level 10 to 2;ice high 4;catch 2 0 0 0 0;lock 3 2 0", "guard(0, 2, 1) = 0", "guard(0, 4, 1) = NONE",
            "of(0, 4) = 2", "of(1, 4) = 2");
    }

    private static void guardBeyond() {
        Edge.promise(25, "BEYOND.");
        wrongTrials("guard");
    }

    private static void guardState() {
        Edge.promise(25, "STATE.");
        Edge.refused(Edge.late(9999, "cistern"), "STATE", "guard(0, 0, 1)", "guard(0, 0, 20)");
        Edge.refused(Edge.late(9980, "cistern"), "STATE", "guard(0, 0, 20)");
        Edge.run(Edge.late(9979, "ice high 1 to 1;ice high 38;catch 1 0 0 0 0;lock 3 1 0"), "guard(0, 2, 20) = 0");
    }

    private static void guardNone() {
        Edge.promise(25, "NONE: none, or it doesn't anyhow.");
        Edge.refused(Edge.made(""), "NONE", "guard(0, 9, 20)");
        Edge.refused(Edge.made(EIGHT), "NONE", "guard(0, 9, 20)");
        Edge.refused(Edge.made("ice level 10 to 1;ice;lock 3 1 0"), "NONE", "guard(0, 1, 1)", "guard(0, 0, 20)", "guard(0, 9, 20)");
    }

    private static void weak() {
        Edge.promise(26, "CONDITIONS each of which alone, taken off, changes what buckets() answers (a number, or NONE), as a set.");
        Edge.run("", "weak() = 0", "status(-1) = 0");
        Edge.run("ice;lock 2 0 0", "weak() = 0");
        Edge.run("lock 2 0 0", "weak() = 1", "status(-1) = 0", "count(2) = 1");
        Edge.run("lock 2 0 0;lock 2 0 0", "weak() = 0");
        Edge.run("ice level 6;lock 3 0 0", "weak() = 1", "change(0, 2, 5) = 6", "weak() = 1");
        String seven = "lock 4 0 40;lock 4 0 40;lock 4 0 40;lock 4 0 40;lock 4 0 40;lock 4 0 40;lock 4 0 40;";
        Edge.run("ice;" + seven + "lock 3 0 0", "weak() = 128", "lockOf(7, 0) = 3", "count(2) = 8");
        Edge.run("ice;" + seven + "lock 4 0 40", "weak() = 0");
        Edge.run("ice;lock 3 0 0;" + seven.substring(0, seven.length() - 1), "weak() = 1");
        Edge.run(EIGHT + ";lock 0 4 0;lock 0 5 1;lock 0 6 2;lock 0 7 3", "weak() = 15");
    }

    private static void leaks() {
        Edge.promise(27, "LEAKS (0 to 9) of a CISTERN with which");
        Edge.run("cistern level 9", "leaks(0, 0, 0, 1, 9) = 1", "leaks(0, 0, 0, 1, 0) = 512", "leaks(0, 0, 0, 1, 10) = 0", "of(0, 3) = 1");
        Edge.run("ice", "leaks(0, 3, 9, 1, 9) = 1023");
        Edge.run("frozen level 4;cold", "leaks(0, 3, 9, 20, 4) = 1023", "cold(0) = 1", "leaks(0, 0, 0, 1, 0) = 1008");
        Edge.run("ice;ice;ice;ice;ice;ice;ice;cistern", "leaks(7, 0, 9, 1, 0) = 512", "leaks(7, 0, 9, 1, 9) = 1");
    }

    private static void leaksHours() {
        Edge.promise(27, "behind n HOURS (1 to 20) of a rain AHEAD, its LEVEL is v (0 to 40), as a set.");
        Edge.run("cistern high 40", "leaks(0, 0, 2, 20, 40) = 1", "leaks(0, 0, 2, 20, 20) = 2", "leaks(0, 0, 2, 20, 0) = 1020",
            "leaks(0, 0, 9, 20, 40) = 1", "leaks(0, 0, 9, 20, 31) = 0", "leaks(0, 0, 9, 1, 0) = 512", "count(0) = 0");
        Edge.run("cistern high 40 level 40", "leaks(0, 0, 0, 20, 40) = 1", "leaks(0, 0, 0, 20, 20) = 2", "leaks(0, 0, 0, 20, 0) = 1020");
    }

    private static void leaksBeyond() {
        Edge.promise(27, "BEYOND.");
        Supplier<RainVault> made = Edge.made("cistern level 5;ice");
        Edge.refused(made, "BEYOND", "leaks(-1, 0, 0, 1, 0)", "leaks(2, 0, 0, 1, 0)", "leaks(8, 0, 0, 1, 0)", "leaks(MIN, 0, 0, 1, 0)",
            "leaks(MAX, 0, 0, 1, 0)", "leaks(0, 0, 0, 1, -1)", "leaks(0, 0, 0, 1, 41)", "leaks(0, 0, 0, 1, MIN)", "leaks(0, 0, 0, 1, MAX)");
        Edge.refused(made, "BEYOND", "leaks(0, -1, 0, 1, 0)", "leaks(0, 4, 0, 1, 0)", "leaks(0, MAX, 0, 1, 0)", "leaks(0, 0, -1, 1, 0)",
            "leaks(0, 0, 10, 1, 0)", "leaks(0, 0, MIN, 1, 0)");
        for (String n : WRONG_HOURS) {
            Edge.refused(made, "BEYOND", "leaks(0, 0, 0, " + n + ", 0)");
        }
        Edge.refused(Edge.made(""), "BEYOND", "leaks(0, 0, 0, 1, 0)");
        Edge.refused(Edge.made(EIGHT), "BEYOND", "leaks(8, 0, 0, 1, 0)");
    }

    private static void leaksState() {
        Edge.promise(27, "STATE.");
        Edge.refused(Edge.late(9999, "ice"), "STATE", "leaks(0, 0, 0, 1, 0)", "leaks(0, 0, 0, 20, 40)");
        Edge.refused(Edge.late(9980, "ice"), "STATE", "leaks(0, 0, 0, 20, 0)");
        Edge.run(Edge.late(9979, "ice"), "leaks(0, 0, 0, 20, 0) = 1023");
    }

    private static void sides() {
        Edge.promise(28, "SIDES from which a rain of an AMOUNT, n HOURS (1 to 20) AHEAD, leaves it OPEN, as a set.");
        Edge.run("", "sides(0, 1) = 15", "sides(9, 20) = 15");
        Edge.run("lock 2 0 0", "sides(0, 1) = 0", "sides(9, 20) = 0");
        Edge.run("ice high 20;catch 0 1 0 0 2;lock 3 0 0", "sides(1, 20) = 9", "sides(1, 19) = 8", "sides(1, 10) = 8", "sides(1, 9) = 0",
            "sides(9, 3) = 9", "sides(0, 20) = 0", "count(0) = 0");
    }

    private static void sidesBeyond() {
        Edge.promise(28, "BEYOND.");
        Supplier<RainVault> made = Edge.made("cistern level 5");
        Edge.refused(made, "BEYOND", "sides(-1, 1)", "sides(10, 1)", "sides(MIN, 1)", "sides(MAX, 1)");
        for (String n : WRONG_HOURS) {
            Edge.refused(made, "BEYOND", "sides(0, " + n + ")");
        }
    }

    private static void sidesState() {
        Edge.promise(28, "STATE.");
        Edge.refused(Edge.late(9999, "ice"), "STATE", "sides(0, 1)", "sides(9, 20)");
        Edge.refused(Edge.late(9980, "ice"), "STATE", "sides(9, 20)");
        Edge.run(Edge.late(9979, "ice"), "sides(9, 20) = 15");
    }

    private static void cat() {
        Edge.promise(29, "GUTTER of the CISTERN that is the rest of a draw by how many there are becomes the rest of the next draw by as many: that.");
        Edge.run("ice to 5", "cat() = 0", "of(0, 4) = 0", "count(6) = -1770082073");
        Edge.run(EIGHT, "seed(-1)", "cat() = 4", "of(1, 4) = 4", "of(0, 4) = -1", "of(4, 4) = -1", "count(6) = 288979989");
        Edge.run("ice;ice;ice;ice;ice", "seed(-1)", "cat() = 3", "of(2, 4) = 3", "of(3, 4) = -1");
        Edge.run("ice;ice;ice;ice;ice", "seed(-740551042)", "cat() = 3", "of(0, 4) = 3", "count(6) = -698016724", "status(-1) = 0");
    }

    private static void catState() {
        Edge.promise(29, "STATE: there is none.");
        Edge.refused(Edge.made(""), "STATE", "cat()");
        Edge.refused(Edge.made("lock 2 0 0", "image()", "seed(77)"), "STATE", "cat()");
    }

    private static void seed() {
        Edge.promise(30, "z becomes v: what it was.");
        Edge.run("", "seed(0) = 1", "seed(MAX) = 0", "seed(MIN) = MAX", "seed(-1) = MIN", "count(6) = -1", "seed(5) = -1", "status(-1) = 0");
    }
}
