import java.util.function.Supplier;

/** Boundary cases of promises 42 to 46: images. */
final class ImageEdges {
    private static final String EIGHT = "ice;ice;ice;ice;ice;ice;ice;ice";

    private ImageEdges() {
    }

    static void run() {
        image();
        imageOfAll();
        undo();
        undoNone();
        tear();
        count();
        countAtMost();
        countBeyond();
        status();
        statusUndone();
        statusBeyond();
    }

    private static void image() {
        Edge.promise(42, "All but THE TAPE and SHEETS is kept: 1.");
        Edge.run("", "image() = 1", "image() = 1", "cistern(0, 10) = 0", "lock(2, 0, 0) = 0", "hold(0, 0) = 1", "cold(1) = 0", "seed(9) = 1",
            "rain(0, 9, 100)", "feed(6906725, 3) = 3", "sheet(0, 8, 1) = 1", "write(0, 0, 4) = 1", "undo() = 0", "count(0) = 0", "count(1) = 0",
            "count(2) = 0", "count(3) = 0", "count(4) = 0", "count(5) = 3", "count(6) = 1", "count(7) = 0", "cold(0) = 0", "text() = 1",
            "load(0) = 1", "of(0, 2) = 4");
    }

    private static void imageOfAll() {
        Edge.promise(42, "All but THE TAPE and SHEETS is kept");
        RainVault x = Edge.run("siphon high 40 level 40 leak 9 to 7;catch 0 9 0 9 0;ice;ice;ice;ice;ice;ice;false level 10;lock 4 7 40;lock 0 7 7;"
            + "lock 3 0 0;lock 2 7 0;lock 1 1 2;lock 1 1 3;lock 1 1 4;lock 1 7 7;cold", "seed(MIN)", "hold(0, 7)", "hold(9, 0)", "change(7, 5, 1)",
            "rain(0, 9, 3)", "image() = 1");
        String seen = Check.seen(x);
        Edge.run(() -> x, "rain(1, 9, 100)", "weather(7)", "8* pick(0)", "cold(0) = 1", "hold(9, -1)", "hold(1, 1)", "lock(4, 0, 0) = 0", "4* cat()");
        for (int c = 0; c < 8; c++) {
            Edge.run(() -> x, "change(" + c + ", 0, 0)", "change(" + c + ", 2, 1)", "change(" + c + ", 1, 1)", "change(" + c + ", 3, 5)",
                "change(" + c + ", 4, 3)", "change(" + c + ", 5, 1)", "change(" + c + ", 7, 4)", "change(" + c + ", 10, 4)");
        }
        Edge.run(() -> x, "undo() = 3");
        Edge.same("all that was kept", Check.seen(x), seen);
    }

    private static void undo() {
        Edge.promise(43, "It becomes what was kept latest (which stays): HOUR.");
        Edge.run("", "image()", "rain(0, 0, 5)", "image()", "rain(0, 0, 7)", "undo() = 5", "undo() = 5", "rain(0, 0, 1)", "undo() = 5", "count(0) = 5");
        Edge.run("", "image()", "undo() = 0", "cistern(0, 10) = 0", "undo() = 0", "count(1) = 0");
        Edge.run(Edge.late(9998, ""), "image()", "rain(0, 0, 1) = 1", "rain(0, 0, 1) = STATE", "undo() = 9998", "rain(0, 0, 1) = 1", "image()",
            "undo() = 9999", "rain(0, 0, 1) = STATE");
    }

    private static void undoNone() {
        Edge.promise(43, "NONE: nothing is kept.");
        Edge.refused(Edge.made(""), "NONE", "undo()");
        Edge.refused(Edge.made("ice level 3", "image()", "change(0, 2, 4)", "tear()"), "NONE", "undo()");
    }

    private static void tear() {
        Edge.promise(44, "Nothing is kept: 1 if something was, else 0.");
        Edge.run("", "tear() = 0", "image()", "tear() = 1", "tear() = 0", "undo() = NONE", "image()", "image()", "tear() = 1", "tear() = 0",
            "status(-1) = 1");
        Edge.run("ice level 4", "image()", "change(0, 2, 5)", "tear() = 1", "of(0, 2) = 5", "undo() = NONE", "of(0, 2) = 5", "image()", "undo() = 0",
            "of(0, 2) = 5");
    }

    private static void count() {
        Edge.promise(45, "0 HOUR, 1 CISTERNS, 2 CONDITIONS, 3 LEVELS of all together, 4 what ran off the roof ever");
        Edge.run("", "count(0) = 0", "count(1) = 0", "count(2) = 0", "count(3) = 0", "count(4) = 0", "count(5) = 0", "count(6) = 1", "count(7) = 0");
        Edge.run("cistern high 1 leak 9;siphon level 10", "rain(0, 9, 1)", "count(0) = 1", "count(3) = 0", "count(4) = 27", "image()", "rain(0, 9, 1)",
            "count(3) = 8", "count(4) = 35", "undo() = 1", "count(4) = 27");
    }

    private static void countAtMost() {
        Edge.promise(45, "5 bytes of THE TAPE, 6 z, 7 SPOTS that hold something.");
        Edge.run("ice", "30* feed(0, 4)", "count(5) = 120", "seed(MIN)", "count(6) = MIN", "seed(BEYOND)", "count(6) = BEYOND", "status(-1) = 0",
            "hold(0, 0)", "hold(1, 0)", "hold(2, 0)", "hold(3, 0)", "hold(4, 0)", "hold(5, 0)", "hold(6, 0)", "hold(7, 0)", "hold(8, 0)",
            "hold(9, 0)", "count(7) = 10", "hold(9, 0)", "count(7) = 10", "hold(9, -1)", "count(7) = 9");
        Edge.run("cistern high 40 level 40;ice high 40 level 40;ice high 40 level 40;ice high 40 level 40;ice high 40 level 40;ice high 40 level 40;"
            + "ice high 40 level 40;ice high 40 level 40", "count(1) = 8", "count(3) = 320");
    }

    private static void countBeyond() {
        Edge.promise(45, "BEYOND: another what.");
        Edge.refused(Edge.made("ice level 3;lock 2 0 0"), "BEYOND", "count(-1)", "count(8)", "count(MIN)", "count(MAX)");
    }

    private static void status() {
        Edge.promise(46, "How many acts answered a finding ever");
        Edge.run("", "status(-1) = 0", "status(0) = 0", "status(1) = 0", "status(2) = 0", "status(3) = 0", "status(4) = 0", "status(5) = 0",
            "status(6) = 0", "2* of(0, 0) = BEYOND", "status(0) = 2", "sheet(0, 8, -1) = SIZE", "status(6) = 1", "as(0, 0) = MISSING", "status(5) = 1",
            "cat() = STATE", "status(4) = 1", "undo() = NONE", "status(3) = 1", "sheet(0, 8, 1)", "sheet(1, 16, 1)", "copy(0, 0, 1, 0, 1) = KIND",
            "status(2) = 1", "30* feed(0, 4)", "feed(0, 1) = FULL", "status(1) = 1", "status(0) = 2", "status(-1) = 8");
        Edge.run("cistern to 3", "change(0, 4, -1) = 3", "change(0, 4, -1) = -1", "hold(0, -1) = 1",
            "text() = -1", "seed(SIZE) = 1", "seed(1) = SIZE", "seed(SIZE)", "count(6) = SIZE", "status(-1) = 0");
        Edge.run("lock 2 0 0", "weak() = 1", "status(-1) = 0", "soonest() = NONE", "buckets() = NONE", "carry(0) = NONE", "status(3) = 3");
    }

    private static void statusUndone() {
        Edge.promise(46, "(undo() takes none back)");
        Edge.run("", "image()", "of(0, 0) = BEYOND", "undo() = 0", "status(0) = 1", "status(-1) = 1", "tear()", "undo() = NONE", "status(-1) = 2");
    }

    private static void statusBeyond() {
        Edge.promise(46, "BEYOND (counted from then on): another one.");
        Supplier<RainVault> made = Edge.made(EIGHT);
        Edge.refused(made, "BEYOND", "status(-2)", "status(7)", "status(MIN)", "status(MAX)");
        Edge.run("", "status(7) = BEYOND", "status(0) = 1", "status(-1) = 1", "status(-2) = BEYOND", "status(0) = 2", "status(-1) = 2", "status(6) = 0");
    }
}
