import java.util.function.Supplier;

/** Boundary cases of promises 8 to 12: the lock. */
final class LockEdges {
    private static final String EIGHT = "lock 2 0 0;lock 2 1 0;lock 2 2 0;lock 2 3 0;lock 2 4 0;lock 2 5 0;lock 2 6 0;lock 2 7 0";

    private LockEdges() {
    }

    static void run() {
        newCondition();
        numberOfSortFour();
        lockBeyond();
        lockFull();
        lockOf();
        lockOfBeyond();
        pick();
        pickBeyond();
        holding();
        open();
    }

    private static void newCondition() {
        Edge.promise(8, "A new CONDITION (SORT 0 to 4, a 0 to 7, b 0 to 7");
        Edge.run("", "lock(0, 0, 0) = 0", "lock(0, 7, 7) = 1", "lock(3, 7, 7) = 2", "lock(2, 7, 7) = 3", "lock(1, 0, 7) = 4",
            "lock(4, 7, 7) = 5", "lock(4, 0, 0) = 6", "lock(3, 0, 0) = 7", "count(2) = 8", "lockOf(0, 0) = 0", "lockOf(0, 1) = 0",
            "lockOf(0, 2) = 0", "lockOf(1, 1) = 7", "lockOf(1, 2) = 7", "lockOf(7, 0) = 3");
    }

    private static void numberOfSortFour() {
        Edge.promise(8, "with SORT 4 0 to 40): its number.");
        Edge.run("cistern high 40 level 40", "lock(4, 0, 40) = 0", "lockOf(0, 2) = 40", "lockOf(0, 3) = 0", "change(0, 2, 39) = 40",
            "lockOf(0, 3) = 1", "lock(4, 0, 0) = 1", "change(0, 2, 0) = 39", "lockOf(1, 3) = 0", "lock(4, 0, 8) = 2", "lockOf(2, 2) = 8");
        Edge.refused(Edge.made("cistern"), "BEYOND", "lock(4, 0, 41)", "lock(4, 0, -1)", "lock(4, 0, MIN)", "lock(4, 0, MAX)");
    }

    private static void lockBeyond() {
        Edge.promise(8, "BEYOND.");
        String[] calls = {"lock(-1, 0, 0)", "lock(5, 0, 0)", "lock(MIN, 0, 0)", "lock(MAX, 0, 0)", "lock(0, -1, 0)",
            "lock(0, 8, 0)", "lock(4, 8, 0)", "lock(2, -1, 0)", "lock(0, MIN, 0)", "lock(0, MAX, 0)", "lock(0, 0, -1)", "lock(0, 0, 8)",
            "lock(1, 0, 8)", "lock(2, 0, 8)", "lock(3, 0, 8)", "lock(2, 0, -1)", "lock(3, 0, 40)", "lock(0, 0, MIN)", "lock(0, 0, MAX)"};
        Edge.refused(Edge.made(""), "BEYOND", calls);
        Edge.refused(Edge.made("cistern;lock 2 0 0"), "BEYOND", calls);
        Edge.refused(Edge.made(EIGHT), "BEYOND", calls);
    }

    private static void lockFull() {
        Edge.promise(8, "FULL.");
        Edge.refused(Edge.made(EIGHT), "FULL", "lock(0, 0, 0)", "lock(4, 7, 40)", "lock(3, 7, 7)");
        Edge.run(EIGHT, "pick(3) = 7", "lock(0, 1, 2) = 7", "lock(0, 1, 2) = FULL", "lockOf(7, 0) = 0", "lockOf(3, 1) = 4", "count(2) = 8");
    }

    private static void lockOf() {
        Edge.promise(9, "3 1 if it holds, else 0.");
        Edge.run("cistern;lock 2 0 7;lock 3 0 7;lock 2 1 0;lock 4 0 0", "lockOf(0, 3) = 1", "lockOf(1, 3) = 0", "lockOf(2, 3) = 0",
            "lockOf(3, 3) = 0", "change(0, 2, 10) = 0", "lockOf(0, 3) = 0", "lockOf(1, 3) = 1", "lockOf(0, 2) = 7", "status(-1) = 0");
        Edge.run(EIGHT, "lockOf(7, 0) = 2", "lockOf(7, 1) = 7", "lockOf(7, 2) = 0", "lockOf(7, 3) = 0");
    }

    private static void lockOfBeyond() {
        Edge.promise(9, "BEYOND.");
        Edge.refused(Edge.made("cistern;lock 2 0 0;lock 3 0 0"), "BEYOND", "lockOf(-1, 0)", "lockOf(2, 0)", "lockOf(8, 0)",
            "lockOf(MIN, 0)", "lockOf(MAX, 0)", "lockOf(0, -1)", "lockOf(0, 4)", "lockOf(1, 4)", "lockOf(0, MIN)", "lockOf(0, MAX)");
        Edge.refused(Edge.made("cistern"), "BEYOND", "lockOf(0, 0)", "lockOf(0, 3)");
        Edge.refused(Edge.made(EIGHT), "BEYOND", "lockOf(8, 0)", "lockOf(-1, 3)");
    }

    private static void pick() {
        Edge.promise(10, "A CONDITION is taken off (those behind it get numbers one less): how many are left.");
        Edge.run(EIGHT, "pick(0) = 7", "lockOf(0, 1) = 1", "lockOf(6, 1) = 7", "pick(6) = 6", "lockOf(5, 1) = 6", "lockOf(6, 1) = BEYOND",
            "pick(2) = 5", "lockOf(1, 1) = 2", "lockOf(2, 1) = 4", "count(2) = 5");
        Edge.run("lock 3 5 4", "pick(0) = 0", "count(2) = 0", "open() = 1", "lock(1, 2, 3) = 0", "lockOf(0, 0) = 1", "lockOf(0, 1) = 2",
            "lockOf(0, 2) = 3");
    }

    private static void pickBeyond() {
        Edge.promise(10, "BEYOND.");
        Edge.refused(Edge.made(""), "BEYOND", "pick(0)", "pick(-1)");
        Edge.refused(Edge.made("lock 2 0 0;lock 3 0 0"), "BEYOND", "pick(-1)", "pick(2)", "pick(8)", "pick(MIN)", "pick(MAX)");
        Edge.refused(Edge.made(EIGHT), "BEYOND", "pick(8)");
        Edge.refused(Edge.made("lock 2 0 0", "pick(0)"), "BEYOND", "pick(0)");
    }

    private static void holding() {
        Edge.promise(11, "CONDITIONS that hold now, as a set.");
        Edge.run("", "holding() = 0");
        Edge.run("cistern;lock 3 0 0", "holding() = 0");
        Supplier<RainVault> eight = Edge.made("ice;ice;ice;ice;ice;ice;ice;ice;" + EIGHT);
        Edge.run(eight, "holding() = 255", "change(7, 2, 1) = 0", "holding() = 127", "change(0, 2, 1) = 0", "holding() = 126",
            "change(7, 2, 0) = 1", "holding() = 254");
    }

    private static void open() {
        Edge.promise(12, "1 if THE LOCK is OPEN, else 0.");
        Edge.run("", "open() = 1", "lock(2, 0, 0) = 0", "open() = 0", "cistern(0, 1) = 0", "open() = 1", "change(0, 2, 1) = 0", "open() = 0");
        Supplier<RainVault> eight = Edge.made("ice;ice;ice;ice;ice;ice;ice;ice;" + EIGHT);
        Edge.run(eight, "open() = 1", "change(7, 2, 1) = 0", "open() = 0", "pick(7) = 7", "open() = 1", "change(0, 2, 1) = 0", "open() = 0");
    }
}
