import java.util.function.Supplier;

/** Boundary cases of promises 17 to 21: all rains. */
final class RainsEdges {
    /** Each of four CISTERNS is filled by one hour from its SIDE alone. */
    private static final String FOUR_SIDES = "ice high 3;catch 0 1 0 0 0;ice high 3;catch 1 0 1 0 0;ice high 3;catch 2 0 0 1 0;"
        + "ice high 3;catch 3 0 0 0 1;lock 3 0 0;lock 3 1 0;lock 3 2 0;lock 3 3 0";
    private static final String FIVE_HOURS = "ice high 15;lock 3 0 0";

    private RainsEdges() {
    }

    static void run() {
        rains();
        rainsBeyond();
        rainsState();
        first();
        firstHours();
        firstBeyond();
        firstState();
        firstNone();
        driest();
        driestOfSeveral();
        driestBeyond();
        driestState();
        driestNone();
        soonest();
        soonestState();
        soonestNone();
        needed();
        neededBeyond();
        neededState();
        neededNone();
    }

    private static void rains() {
        Edge.promise(17, "In how many RAINS of n hours (0 to 5) it is OPEN in the end.");
        Edge.run("", "rains(0) = 1", "rains(1) = 5", "rains(2) = 25", "rains(3) = 125", "rains(4) = 625", "rains(5) = 3125");
        Edge.run("ice;lock 2 0 0", "rains(0) = 1", "rains(1) = 1", "rains(5) = 1");
        Edge.run("ice high 1;lock 3 0 0", "rains(0) = 0", "rains(1) = 4", "rains(5) = 3124");
        Edge.run(FIVE_HOURS, "rains(4) = 0", "rains(5) = 1024");
        Edge.run(FOUR_SIDES, "rains(3) = 0", "rains(4) = 24", "rains(5) = 360");
        Edge.run("cistern;lock 4 0 0", "rains(0) = 0", "rains(5) = 0", "count(0) = 0");
    }

    private static void rainsBeyond() {
        Edge.promise(17, "BEYOND.");
        Edge.refused(Edge.made("cistern;lock 3 0 0"), "BEYOND", "rains(-1)", "rains(6)", "rains(MIN)", "rains(MAX)");
    }

    private static void rainsState() {
        Edge.promise(17, "STATE.");
        Edge.refused(Edge.late(9999, "cistern"), "STATE", "rains(1)", "rains(5)");
        Edge.refused(Edge.late(9995, "cistern"), "STATE", "rains(5)");
        Edge.run(Edge.late(9999, ""), "rains(0) = 1");
        Edge.run(Edge.late(9994, ""), "rains(5) = 3125");
    }

    private static void first() {
        Edge.promise(18, "The first of these");
        Edge.run("", "first(1, 0) = 0", "first(5, 0) = 0", "first(5, 4) = 0");
        Edge.run("ice high 3;catch 0 0 0 0 1;lock 3 0 0", "first(1, 0) = 4", "first(5, 0) = 0", "first(5, 3) = 0", "first(5, 4) = 4");
        Edge.run("ice high 15;catch 0 0 0 0 1;lock 3 0 0", "first(5, 0) = 4", "first(5, 2) = 4", "first(5, 4) = 4");
        Edge.run(FOUR_SIDES, "first(4, 0) = 1", "first(4, 1) = 2", "first(4, 2) = 3", "first(4, 3) = 4", "first(5, 0) = 0", "first(5, 4) = 4");
    }

    private static void firstHours() {
        Edge.promise(18, "its SIGN of hour i (0 to n - 1).");
        Edge.run(FIVE_HOURS, "first(5, 0) = 1", "first(5, 4) = 1");
        Edge.run("", "first(1, 0) = 0");
        Edge.refused(Edge.made(""), "BEYOND", "first(0, 0)", "first(1, 1)", "first(5, 5)", "first(5, -1)", "first(0, -1)");
    }

    private static void firstBeyond() {
        Edge.promise(18, "BEYOND.");
        Edge.refused(Edge.made("cistern;lock 2 0 0"), "BEYOND", "first(-1, 0)", "first(6, 0)", "first(6, 5)", "first(MIN, 0)", "first(MAX, 0)",
            "first(MIN, MAX)", "first(3, 3)", "first(3, MIN)", "first(3, MAX)", "first(-1, -2)");
    }

    private static void firstState() {
        Edge.promise(18, "STATE.");
        Edge.refused(Edge.late(9999, "cistern"), "STATE", "first(1, 0)", "first(5, 4)");
        Edge.refused(Edge.late(9995, "cistern;lock 4 0 0"), "STATE", "first(5, 0)");
        Edge.run(Edge.late(9994, "cistern"), "first(5, 4) = 0");
    }

    private static void firstNone() {
        Edge.promise(18, "NONE.");
        Edge.refused(Edge.made(FIVE_HOURS), "NONE", "first(1, 0)", "first(4, 0)", "first(4, 3)");
        Edge.refused(Edge.made("lock 2 0 0"), "NONE", "first(5, 0)");
    }

    private static void driest() {
        Edge.promise(19, "The one of these with fewest hours that aren't dry");
        Edge.run("", "driest(0) = 0", "driest(5) = 0");
        Edge.run(FIVE_HOURS, "driest(5) = 5");
        Edge.run("ice high 1;lock 3 0 0", "driest(1) = 1", "driest(5) = 1");
        Edge.run(FOUR_SIDES, "driest(4) = 4", "driest(5) = 4");
    }

    private static void driestOfSeveral() {
        Edge.promise(19, "(of several the first): how many.");
        Edge.run("ice high 9;catch 0 1 0 0 3;lock 3 0 0", "driest(3) = 1", "first(3, 2) = 4");
        Edge.run("ice high 6;catch 0 1 0 0 2;ice high 6 level 6;lock 1 0 1", "driest(2) = 1", "first(2, 0) = 0", "first(2, 1) = 4");
        Edge.run("ice high 40;catch 0 0 0 1 2;ice level 9;catch 1 0 0 0 0;lock 1 0 1", "driest(2) = 2", "first(2, 0) = 3", "first(2, 1) = 4");
    }

    private static void driestBeyond() {
        Edge.promise(19, "BEYOND.");
        Edge.refused(Edge.made("cistern;lock 3 0 0"), "BEYOND", "driest(-1)", "driest(6)", "driest(MIN)", "driest(MAX)");
    }

    private static void driestState() {
        Edge.promise(19, "STATE.");
        Edge.refused(Edge.late(9999, "cistern"), "STATE", "driest(1)", "driest(5)");
        Edge.refused(Edge.late(9995, "cistern;lock 4 0 0"), "STATE", "driest(5)");
        Edge.run(Edge.late(9999, "cistern"), "driest(0) = 0");
        Edge.run(Edge.late(9994, "cistern"), "driest(5) = 0");
    }

    private static void driestNone() {
        Edge.promise(19, "NONE.");
        Edge.refused(Edge.made(FIVE_HOURS), "NONE", "driest(0)", "driest(4)");
        Edge.refused(Edge.made("lock 2 0 0"), "NONE", "driest(5)");
    }

    private static void soonest() {
        Edge.promise(20, "The least n (0 to 5) with which any does.");
        Edge.run("", "soonest() = 0");
        Edge.run("ice high 1;lock 3 0 0", "soonest() = 1");
        Edge.run(FIVE_HOURS, "soonest() = 5", "change(0, 2, 15) = 0", "soonest() = 0");
        Edge.run(FOUR_SIDES, "soonest() = 4", "count(0) = 0");
        Edge.run("ice;lock 2 0 0", "soonest() = 0");
    }

    private static void soonestState() {
        Edge.promise(20, "STATE.");
        Edge.refused(Edge.late(9995, FIVE_HOURS), "STATE", "soonest()");
        Edge.refused(Edge.late(9999, FIVE_HOURS), "STATE", "soonest()");
        Edge.refused(Edge.late(9999, "lock 2 0 0"), "STATE", "soonest()");
        Edge.run(Edge.late(9994, FIVE_HOURS), "soonest() = 5");
    }

    private static void soonestNone() {
        Edge.promise(20, "NONE.");
        Edge.refused(Edge.made("ice high 16;lock 3 0 0"), "NONE", "soonest()");
        Edge.refused(Edge.made("lock 2 0 0"), "NONE", "soonest()");
        Edge.refused(Edge.late(9994, "ice high 16;lock 3 0 0"), "NONE", "soonest()");
    }

    private static void needed() {
        Edge.promise(21, "SIDES from which no RAIN of n hours (0 to 5) opens it that has none of that SIDE, as a set: those that are needed.");
        Edge.run("", "needed(0) = 0", "needed(5) = 0");
        Edge.run(FOUR_SIDES, "needed(4) = 15", "needed(5) = 15");
        Edge.run(FIVE_HOURS, "needed(5) = 0");
        Edge.run("ice high 3;catch 0 1 0 0 0;lock 3 0 0", "needed(1) = 1", "needed(5) = 1", "change(0, 2, 3) = 0", "needed(0) = 0", "needed(1) = 0");
        Edge.run("ice high 3;catch 0 0 0 0 1;lock 3 0 0", "needed(1) = 8", "needed(5) = 8", "change(0, 7, 1) = 0", "needed(5) = 0");
    }

    private static void neededBeyond() {
        Edge.promise(21, "BEYOND.");
        Edge.refused(Edge.made("cistern;lock 3 0 0"), "BEYOND", "needed(-1)", "needed(6)", "needed(MIN)", "needed(MAX)");
    }

    private static void neededState() {
        Edge.promise(21, "STATE.");
        Edge.refused(Edge.late(9999, "cistern"), "STATE", "needed(1)", "needed(5)");
        Edge.refused(Edge.late(9995, "cistern;lock 4 0 0"), "STATE", "needed(5)");
        Edge.run(Edge.late(9999, "cistern"), "needed(0) = 0");
        Edge.run(Edge.late(9994, "cistern"), "needed(5) = 0");
    }

    private static void neededNone() {
        Edge.promise(21, "NONE: no RAIN opens it.");
        Supplier<RainVault> made = Edge.made(FOUR_SIDES);
        Edge.refused(made, "NONE", "needed(0)", "needed(3)");
        Edge.refused(Edge.made("lock 2 0 0"), "NONE", "needed(0)", "needed(5)");
    }
}
