import java.util.function.Supplier;

/** Boundary cases of promises 1 to 7: a new object, the roof. */
final class RoofEdges {
    private static final String EIGHT = "ice;ice;ice;ice;ice;ice;ice;ice";

    private RoofEdges() {
    }

    static void run() {
        newObject();
        newObjectIsEmpty();
        newCistern();
        cisternBeyond();
        cisternFull();
        ofCistern();
        ofBeyond();
        changeKind();
        changeHeight();
        changeLevel();
        changeLeak();
        changeGutter();
        changeCloth();
        changeCatch();
        changeTellsWhatItWas();
        changeBeyond();
        cold();
        coldBeyond();
        catches();
        catchesBeyond();
        below();
        belowItself();
        belowBeyond();
    }

    private static void newObject() {
        Edge.promise(1, "All as at first");
        for (int round = 0; round < 2; round++) {
            Edge.run("", "count(0) = 0", "count(1) = 0", "count(2) = 0", "count(3) = 0", "count(4) = 0", "count(5) = 0",
                "count(6) = 1", "count(7) = 0", "status(-1) = 0", "status(0) = 0", "status(6) = 0", "cold(0) = 0");
            Edge.run("cistern level 9;cold", "seed(7)", "weather(100)", "hold(0, 0)", "sheet(0, 8, 3)", "feed(1, 1)", "image()",
                "of(9, 9) = BEYOND");
        }
    }

    private static void newObjectIsEmpty() {
        Edge.promise(1, "no CISTERNS, CONDITIONS; THE TAPE is empty, no image is kept.");
        Supplier<RainVault> made = Edge.made("");
        Edge.refused(made, "BEYOND", "of(0, 0)", "change(0, 0, 0)", "catches(0, 0, 0)", "below(0)", "lockOf(0, 0)", "pick(0)",
            "ahead(0, 0, 0, 4)", "leaks(0, 0, 0, 1, 0)", "hold(0, 0)");
        Edge.refused(made, "MISSING", "as(0, 0)", "as(9, 6)", "write(0, 0, 0)", "copy(0, 0, 0, 0, 0)", "load(0)", "rust(0, 0)",
            "judge(0)", "judge(3)");
        Edge.refused(made, "NONE", "undo()", "carry(0)", "guard(0, 0, 1)");
        Edge.refused(made, "STATE", "cat()");
        Edge.run(made, "holding() = 0", "open() = 1", "ahead(0, 0, 0, 0) = 1", "ahead(3, 9, 100, 1) = 100",
            "ahead(3, 9, 100, 2) = 0", "ahead(3, 9, 100, 3) = 0", "when(0, 0, 1) = 0", "rains(0) = 1", "rains(5) = 3125",
            "first(5, 4) = 0", "driest(5) = 0", "soonest() = 0", "needed(5) = 0", "buckets() = 0", "cloths(0, 0, 1) = 0",
            "weak() = 0", "sides(0, 1) = 15", "wipe() = 0", "text() = -1", "tear() = 0", "hold(0, -1) = 1", "count(7) = 0",
            "rain(3, 9, 100) = 100", "weather(100) = 100", "count(0) = 200", "count(4) = 0");
    }

    private static void newCistern() {
        Edge.promise(2, "A new CISTERN: its number.");
        Edge.run("", "cistern(0, 1) = 0", "cistern(6, 40) = 1", "of(0, 0) = 0", "of(0, 1) = 1", "of(1, 0) = 6", "of(1, 1) = 40",
            "cistern(0, 40) = 2", "cistern(6, 1) = 3", "cistern(1, 10) = 4", "cistern(2, 10) = 5", "cistern(3, 10) = 6",
            "cistern(5, 39) = 7", "of(7, 0) = 5", "of(7, 1) = 39", "count(1) = 8");
        Edge.run("", "image()", "cistern(0, 9) = 0", "change(0, 4, 5) = -1", "change(0, 7, 9) = 1", "change(0, 2, 9) = 0",
            "undo() = 0", "cistern(1, 8) = 0", "of(0, 2) = 0", "of(0, 3) = 1", "of(0, 4) = -1", "of(0, 5) = 0", "of(0, 7) = 1");
    }

    private static void cisternBeyond() {
        Edge.promise(2, "BEYOND.");
        String[] calls = {"cistern(-1, 10)", "cistern(7, 10)", "cistern(MIN, 10)", "cistern(MAX, 10)", "cistern(0, 0)",
            "cistern(0, 41)", "cistern(6, -1)", "cistern(0, MIN)", "cistern(0, MAX)", "cistern(-1, 0)"};
        Edge.refused(Edge.made(""), "BEYOND", calls);
        Edge.refused(Edge.made("siphon level 3"), "BEYOND", calls);
        Edge.refused(Edge.made(EIGHT), "BEYOND", calls);
    }

    private static void cisternFull() {
        Edge.promise(2, "FULL.");
        Edge.refused(Edge.made(EIGHT), "FULL", "cistern(0, 10)", "cistern(6, 40)", "cistern(0, 1)");
        Edge.run("ice;ice;ice;ice;ice;ice;ice", "image()", "cistern(0, 1) = 7", "cistern(0, 1) = FULL", "undo() = 0",
            "cistern(0, 1) = 7", "cistern(0, 1) = FULL", "count(1) = 8", "status(1) = 2");
    }

    private static void ofCistern() {
        Edge.promise(3, "4 GUTTER, 5 CLOTH (1, 0), 6 SHOWS, 7 + SIDE CATCH.");
        Edge.run("false high 40 level 40 leak 0;tipped high 1 level 1 leak 9 to 7;catch 1 9 0 1 8", "of(0, 0) = 4", "of(0, 1) = 40",
            "of(0, 2) = 40", "of(0, 3) = 0", "of(0, 4) = -1", "of(0, 5) = 0", "of(0, 6) = 0", "of(0, 7) = 1", "of(0, 10) = 1",
            "of(1, 0) = 3", "of(1, 1) = 1", "of(1, 2) = 1", "of(1, 3) = 9", "of(1, 4) = 7", "change(1, 5, 1) = 0", "of(1, 5) = 1",
            "of(1, 6) = 0", "of(1, 7) = 9", "of(1, 8) = 0", "of(1, 9) = 1", "of(1, 10) = 8", "status(-1) = 0");
        Edge.run(EIGHT, "change(7, 10, 9) = 1", "of(7, 10) = 9", "of(7, 9) = 1", "of(6, 10) = 1", "of(0, 0) = 6");
    }

    private static void ofBeyond() {
        Edge.promise(3, "BEYOND.");
        Edge.refused(Edge.made("cistern;slow"), "BEYOND", "of(-1, 0)", "of(2, 0)", "of(7, 0)", "of(8, 0)", "of(MIN, 0)",
            "of(MAX, 0)", "of(390451572, 4)", "of(0, -1)", "of(0, 11)", "of(1, 11)", "of(0, MIN)", "of(0, MAX)", "of(-1, 11)");
        Edge.refused(Edge.made(EIGHT), "BEYOND", "of(-1, 10)", "of(8, 0)", "of(7, 11)", "of(7, -1)");
    }

    private static void changeKind() {
        Edge.promise(4, "KIND (what 0)");
        Edge.run("cistern", "change(0, 0, 6) = 0", "of(0, 0) = 6", "change(0, 0, 0) = 6", "of(0, 0) = 0");
        Edge.refused(Edge.made("cistern"), "BEYOND", "change(0, 0, -1)", "change(0, 0, 7)", "change(0, 0, MIN)", "change(0, 0, MAX)");
    }

    private static void changeHeight() {
        Edge.promise(4, "HEIGHT (1; not below LEVEL)");
        Edge.run("cistern", "change(0, 1, 40) = 10", "of(0, 1) = 40", "change(0, 1, 1) = 40", "of(0, 1) = 1");
        Edge.run("cistern level 4", "change(0, 1, 4) = 10", "of(0, 1) = 4", "of(0, 2) = 4", "change(0, 2, 0) = 4", "change(0, 1, 1) = 4");
        Edge.refused(Edge.made("cistern"), "BEYOND", "change(0, 1, 0)", "change(0, 1, -1)", "change(0, 1, 41)", "change(0, 1, MIN)",
            "change(0, 1, MAX)");
        Edge.refused(Edge.made("cistern level 4"), "BEYOND", "change(0, 1, 3)", "change(0, 1, 0)", "change(0, 1, 41)");
        Edge.refused(Edge.made("ice high 40 level 40"), "BEYOND", "change(0, 1, 39)", "change(0, 1, 41)");
    }

    private static void changeLevel() {
        Edge.promise(4, "LEVEL (2; HEIGHT at most)");
        Edge.run("cistern", "change(0, 2, 10) = 0", "of(0, 2) = 10", "change(0, 2, 0) = 10", "of(0, 2) = 0", "count(4) = 0");
        Edge.run("siphon high 1", "change(0, 2, 1) = 0", "of(0, 2) = 1");
        Edge.refused(Edge.made("cistern level 5"), "BEYOND", "change(0, 2, 11)", "change(0, 2, -1)", "change(0, 2, 40)",
            "change(0, 2, MIN)", "change(0, 2, MAX)");
        Edge.refused(Edge.made("cistern high 40"), "BEYOND", "change(0, 2, 41)");
        Edge.refused(Edge.made("cistern high 1"), "BEYOND", "change(0, 2, 2)");
    }

    private static void changeLeak() {
        Edge.promise(4, "LEAK (3)");
        Edge.run("cistern", "change(0, 3, 9) = 1", "of(0, 3) = 9", "change(0, 3, 0) = 9", "of(0, 3) = 0");
        Edge.refused(Edge.made("cistern"), "BEYOND", "change(0, 3, -1)", "change(0, 3, 10)", "change(0, 3, MIN)", "change(0, 3, MAX)");
    }

    private static void changeGutter() {
        Edge.promise(4, "GUTTER (4; -1 to 7)");
        Edge.run("cistern", "change(0, 4, 7) = -1", "of(0, 4) = 7", "change(0, 4, 0) = 7", "of(0, 4) = 0", "change(0, 4, -1) = 0",
            "of(0, 4) = -1", "status(-1) = 0");
        Edge.refused(Edge.made("cistern to 3"), "BEYOND", "change(0, 4, -2)", "change(0, 4, 8)", "change(0, 4, MIN)", "change(0, 4, MAX)");
    }

    private static void changeCloth() {
        Edge.promise(4, "CLOTH (5; 0, 1)");
        Edge.run("cistern", "change(0, 5, 1) = 0", "of(0, 5) = 1", "change(0, 5, 1) = 1", "change(0, 5, 0) = 1", "of(0, 5) = 0");
        Edge.refused(Edge.made("cistern"), "BEYOND", "change(0, 5, -1)", "change(0, 5, 2)", "change(0, 5, MIN)", "change(0, 5, MAX)");
    }

    private static void changeCatch() {
        Edge.promise(4, "CATCH (7 + SIDE)");
        for (int what = 7; what <= 10; what++) {
            String change = "change(1, " + what + ", ";
            Edge.run("cistern;cistern", change + "9) = 1", "of(1, " + what + ") = 9", change + "0) = 9", "of(1, " + what + ") = 0", change + "9) = 0");
            Edge.refused(Edge.made("cistern;cistern"), "BEYOND", change + "-1)", change + "10)", change + "MIN)", change + "MAX)");
        }
        Edge.run("cistern", "change(0, 7, 9) = 1", "change(0, 10, 0) = 1", "of(0, 7) = 9", "of(0, 8) = 1", "of(0, 9) = 1", "of(0, 10) = 0");
    }

    private static void changeTellsWhatItWas() {
        Edge.promise(4, "of a CISTERN becomes v: what it was.");
        Edge.run(EIGHT, "change(7, 2, 10) = 0", "change(7, 2, 10) = 10", "of(7, 2) = 10", "of(6, 2) = 0", "change(0, 10, 9) = 1",
            "of(1, 0) = 6", "of(0, 10) = 9");
    }

    private static void changeBeyond() {
        Edge.promise(4, "BEYOND.");
        Edge.refused(Edge.made("cistern;slow level 2"), "BEYOND", "change(-1, 0, 0)", "change(2, 0, 0)", "change(8, 0, 0)",
            "change(MIN, 0, 0)", "change(MAX, 0, 0)", "change(390451572, 4, 3)", "change(0, -1, 0)", "change(1, 6, 2)",
            "change(0, 6, 0)", "change(0, 11, 0)", "change(1, 11, 1)", "change(0, MIN, 0)", "change(0, MAX, 0)");
        Edge.refused(Edge.made(EIGHT), "BEYOND", "change(8, 0, 0)", "change(-1, 10, 2)", "change(7, 11, 0)", "change(7, 6, 0)");
    }

    private static void cold() {
        Edge.promise(5, "COLD becomes v (0, 1): what it was.");
        Edge.run("", "cold(0) = 0", "cold(1) = 0", "cold(1) = 1", "cold(0) = 1", "cold(0) = 0");
    }

    private static void coldBeyond() {
        Edge.promise(5, "BEYOND.");
        Edge.refused(Edge.made(""), "BEYOND", "cold(-1)", "cold(2)", "cold(MIN)", "cold(MAX)");
        Edge.refused(Edge.made("frozen;cold"), "BEYOND", "cold(-1)", "cold(2)", "cold(MIN)", "cold(MAX)");
    }

    private static void catches() {
        Edge.promise(6, "What comes in of a rain of an AMOUNT (0 to 9) from a SIDE.");
        Edge.run("cistern high 1 level 1;catch 0 9 0 1 9;slow;catch 1 9 1 0 9", "catches(0, 0, 0) = 0", "catches(0, 0, 9) = 81",
            "catches(0, 1, 9) = 0", "catches(0, 2, 9) = 9", "catches(0, 3, 9) = 81", "catches(0, 3, 1) = 9", "catches(1, 0, 9) = 40",
            "catches(1, 1, 1) = 0", "catches(1, 1, 2) = 1", "catches(1, 3, 0) = 0", "of(0, 2) = 1", "count(0) = 0");
    }

    private static void catchesBeyond() {
        Edge.promise(6, "BEYOND.");
        Edge.refused(Edge.made("cistern;slow"), "BEYOND", "catches(-1, 0, 0)", "catches(2, 0, 0)", "catches(8, 0, 0)",
            "catches(MIN, 0, 0)", "catches(MAX, 0, 0)", "catches(0, -1, 0)", "catches(0, 4, 0)", "catches(0, MIN, 0)",
            "catches(0, MAX, 0)", "catches(0, 0, -1)", "catches(0, 0, 10)", "catches(0, 0, MIN)", "catches(0, 0, MAX)");
    }

    private static void below() {
        Edge.promise(7, "CISTERNS into which the water of one can run by GUTTERS, one behind the other, as a set");
        Edge.run("ice;ice", "below(0) = 0", "below(1) = 0");
        Edge.run("ice to 1;ice to 2;ice to 3;ice to 4;ice to 5;ice to 6;ice to 7;ice", "below(0) = 254", "below(6) = 128", "below(7) = 0");
        Edge.run("ice to 7", "below(0) = 0");
        Edge.run("ice to 7;ice;ice;ice;ice;ice;ice", "below(0) = 0", "cistern(0, 10) = 7", "below(0) = 128");
    }

    private static void belowItself() {
        Edge.promise(7, "(itself, if it comes back)");
        Edge.run("ice to 1;ice to 0;ice to 1", "below(0) = 3", "below(1) = 3", "below(2) = 3");
        Edge.run("ice to 1;ice to 2;ice to 3;ice to 4;ice to 5;ice to 6;ice to 7;ice to 0", "below(0) = 255", "below(7) = 255");
        Edge.run("ice to 1;ice to 2;ice to 3;ice to 4;ice to 5;ice to 6;ice to 7;ice to 6", "below(0) = 254", "below(6) = 192");
        Edge.run("ice to 0;ice to 0", "below(0) = 0", "below(1) = 1");
    }

    private static void belowBeyond() {
        Edge.promise(7, "BEYOND.");
        Edge.refused(Edge.made("ice to 1;ice to 0"), "BEYOND", "below(-1)", "below(2)", "below(7)", "below(8)", "below(MIN)", "below(MAX)");
    }
}
