import java.util.function.Supplier;

/** Boundary cases of promises 34 to 41: spots and sheets. */
final class SheetEdges {
    private static final String EIGHT = "ice;ice;ice;ice;ice;ice;ice;ice";
    private static final String[] WRONG_SHEETS = {"-1", "4", "MIN", "MAX"};
    /** A roof and two sheets that hold something, of 8 and of 16 bits; sheet 2 is MISSING. */
    private static final Supplier<RainVault> BUSY = Edge.made("ice level 3;siphon;lock 2 1 0", "sheet(0, 8, 3)", "write(0, 0, 5)",
        "write(0, 1, 6)", "write(0, 2, 7)", "sheet(1, 16, 2)", "write(1, 0, 9)", "sheet(3, 8, 0)", "hold(4, 1)");

    private SheetEdges() {
    }

    static void run() {
        hold();
        holdNothing();
        holdBeyond();
        as();
        asBeyond();
        asMissing();
        asKind();
        sheet();
        sheetMissing();
        sheetBeyond();
        sheetSize();
        sheetTooLong();
        write();
        writeBeyond();
        writeMissing();
        writeNoNumber();
        copy();
        copyAsTheyWere();
        copyBeyond();
        copyMissing();
        copyKind();
        copyNotSoMany();
        load();
        loadEnds();
        loadBeyond();
        loadMissing();
        rust();
        rustBoth();
        rustNoSheet();
        rustMissing();
        rustBeyond();
        rustState();
        judge();
        judgeNoHour();
        judgeBeyond();
        judgeMissing();
        judgeState();
    }

    private static void wrongSheets(String name, String rest) {
        for (String s : WRONG_SHEETS) {
            Edge.refused(BUSY, "BEYOND", name + "(" + s + rest);
        }
    }

    private static void hold() {
        Edge.promise(34, "A SPOT holds a CISTERN");
        Edge.run(EIGHT, "hold(0, 7) = 1", "hold(9, 0) = 1", "as(0, 0) = 7", "as(9, 0) = 0", "count(7) = 2", "hold(0, 0) = 1", "as(0, 0) = 0",
            "count(7) = 2");
        Edge.run("ice", "hold(0, 0) = 1", "hold(1, 0) = 1", "hold(2, 0) = 1", "hold(3, 0) = 1", "hold(4, 0) = 1", "hold(5, 0) = 1",
            "hold(6, 0) = 1", "hold(7, 0) = 1", "hold(8, 0) = 1", "hold(9, 0) = 1", "count(7) = 10");
    }

    private static void holdNothing() {
        Edge.promise(34, "or nothing (-1): 1.");
        Edge.run("", "hold(0, -1) = 1", "hold(9, -1) = 1", "count(7) = 0");
        Edge.run("ice", "hold(9, 0) = 1", "hold(9, -1) = 1", "count(7) = 0", "as(9, 0) = MISSING");
    }

    private static void holdBeyond() {
        Edge.promise(34, "BEYOND.");
        Edge.refused(BUSY, "BEYOND", "hold(-1, 0)", "hold(10, 0)", "hold(MIN, 0)", "hold(MAX, 0)", "hold(4, -2)", "hold(4, 2)", "hold(4, 8)",
            "hold(4, MIN)", "hold(4, MAX)", "hold(10, -1)");
        Edge.refused(Edge.made(""), "BEYOND", "hold(0, 0)", "hold(10, -1)", "hold(-1, -1)");
        Edge.refused(Edge.made(EIGHT), "BEYOND", "hold(0, 8)");
    }

    private static void as() {
        Edge.promise(35, "What a SPOT holds as one of a kind (0 to 6): the number of the CISTERN.");
        Edge.run("ice;ice;ice;ice;ice;ice;ice;cistern", "hold(0, 7)", "hold(9, 6)", "as(0, 0) = 7", "as(9, 0) = 6", "as(9, 6) = 6", "as(9, 5) = 6",
            "change(6, 0, 0) = 6", "as(9, 0) = 6", "as(9, 6) = KIND");
    }

    private static void asBeyond() {
        Edge.promise(35, "BEYOND.");
        Edge.refused(BUSY, "BEYOND", "as(-1, 0)", "as(10, 0)", "as(MIN, 0)", "as(MAX, 0)", "as(4, -1)", "as(4, 7)", "as(4, MIN)", "as(4, MAX)",
            "as(4, 32)", "as(0, 7)", "as(0, -1)");
    }

    private static void asMissing() {
        Edge.promise(35, "MISSING: it holds nothing.");
        Edge.refused(BUSY, "MISSING", "as(0, 0)", "as(9, 6)", "as(3, 1)", "as(5, 2)");
        Edge.refused(Edge.made("ice", "hold(0, 0)", "hold(0, -1)"), "MISSING", "as(0, 0)", "as(0, 1)");
    }

    private static void asKind() {
        Edge.promise(35, "KIND: it isn't of that kind, nor of one under it.");
        Edge.refused(BUSY, "KIND", "as(4, 2)", "as(4, 3)", "as(4, 4)", "as(4, 5)", "as(4, 6)");
        int[] above = {0b1, 0b11, 0b101, 0b1011, 0b10101, 0b100001, 0b1100001};
        for (int kind = 0; kind < 7; kind++) {
            for (int wanted = 0; wanted < 7; wanted++) {
                String due = (above[kind] >> wanted & 1) == 1 ? "0" : "KIND";
                Edge.run("", "cistern(" + kind + ", 10) = 0", "hold(0, 0) = 1", "as(0, " + wanted + ") = " + due);
            }
        }
    }

    private static void sheet() {
        Edge.promise(36, "A sheet has n numbers, all 0, of 8, 16 or 32 bits");
        for (int bits = 8; bits <= 32; bits *= 2) {
            Edge.run("ice level 7", "sheet(0, " + bits + ", 40) = 40", "write(0, 39, 1) = 1", "write(0, 40, 1) = BEYOND",
                "sheet(3, " + bits + ", 1) = 1", "write(3, 0, 3) = 1", "write(3, 1, 1) = BEYOND", "load(0) = 1", "of(0, 2) = 0", "load(3) = 1",
                "of(0, 2) = 3", "sheet(3, " + bits + ", 1) = 1", "load(3) = 1", "of(0, 2) = 0", "sheet(3, " + bits + ", 0) = 0",
                "write(3, 0, 1) = BEYOND", "load(3) = 0", "copy(0, 39, 3, 0, 1) = BEYOND", "copy(0, 40, 3, 0, 0) = 0");
        }
        Edge.run("ice", "sheet(0, 8, 2) = 2", "write(0, 1, 9) = 1", "sheet(0, 8, 1) = 1", "sheet(0, 8, 2) = 2", "judge(0) = 0", "rust(0, 0) = 1");
    }

    private static void sheetMissing() {
        Edge.promise(36, "bits 0: it is MISSING: n (0 if it is MISSING).");
        Edge.run("ice", "sheet(0, 0, 0) = 0", "sheet(0, 0, 40) = 0", "sheet(0, 8, 40) = 40", "sheet(0, 0, 40) = 0", "write(0, 0, 0) = MISSING",
            "load(0) = MISSING", "sheet(0, 8, 0) = 0", "load(0) = 0", "sheet(0, 0, 1) = 0", "judge(0) = MISSING");
    }

    private static void sheetBeyond() {
        Edge.promise(36, "BEYOND: no such sheet, other bits.");
        wrongSheets("sheet", ", 8, 1)");
        wrongSheets("sheet", ", 8, -1)");
        Edge.refused(BUSY, "BEYOND", "sheet(0, -8, 1)", "sheet(0, 1, 1)", "sheet(0, 7, 1)", "sheet(0, 9, 1)", "sheet(0, 15, 1)", "sheet(0, 17, 1)",
            "sheet(0, 24, 1)", "sheet(0, 31, 1)", "sheet(0, 33, 1)", "sheet(0, 64, 1)", "sheet(0, MIN, 1)", "sheet(0, MAX, 1)", "sheet(0, 9, -1)",
            "sheet(0, 264, 1)");
    }

    private static void sheetSize() {
        Edge.promise(36, "SIZE: n is below 0 (also with bits 0).");
        Edge.refused(BUSY, "SIZE", "sheet(0, 8, -1)", "sheet(0, 16, -1)", "sheet(0, 32, MIN)", "sheet(0, 0, -1)", "sheet(0, 0, MIN)",
            "sheet(2, 8, -1)", "sheet(2, 0, -1)", "sheet(3, 8, -40)");
    }

    private static void sheetTooLong() {
        Edge.promise(36, "BEYOND: n is above 40 (also with bits 0).");
        Edge.refused(BUSY, "BEYOND", "sheet(0, 8, 41)", "sheet(0, 16, 41)", "sheet(0, 32, MAX)", "sheet(0, 0, 41)", "sheet(0, 0, MAX)",
            "sheet(2, 8, 41)");
    }

    private static void write() {
        Edge.promise(37, "Number i of a sheet becomes v (its lowest bits): 1.");
        Edge.run("ice high 40", "sheet(0, 8, 40)", "write(0, 0, 9) = 1", "write(0, 39, 9) = 1", "load(0) = 1", "of(0, 2) = 9");
        bits(8, 256, "127", "128", "255", "-1", "-128", "MAX");
        bits(16, 65536, "32767", "32768", "65535", "-1", "-32768", "255", "256", "MAX");
        bits(32, 0, "MAX", "MIN", "-1", "255", "256", "65535", "65536");
        Edge.run("ice high 40", "sheet(0, 8, 1)", "write(0, 0, MIN) = 1", "load(0) = 1", "of(0, 2) = 0");
        Edge.run("ice high 40", "sheet(0, 16, 1)", "write(0, 0, MIN) = 1", "load(0) = 1", "of(0, 2) = 0");
    }

    /** Numbers one round more than 5 and 40 are those; the others told are none that a LEVEL can be. */
    private static void bits(int bits, int round, String... none) {
        Edge.run("ice high 40", "sheet(0, " + bits + ", 1)", "write(0, 0, " + (round + 5) + ") = 1", "load(0) = 1", "of(0, 2) = 5",
            "write(0, 0, " + (round + 40) + ") = 1", "load(0) = 1", "of(0, 2) = 40", "write(0, 0, " + (5 - round) + ") = 1", "load(0) = 1",
            "of(0, 2) = 5");
        for (String v : none) {
            Edge.run("ice high 40 level 3", "sheet(0, " + bits + ", 1)", "write(0, 0, " + v + ") = 1", "load(0) = 0", "of(0, 2) = 3", "judge(0) = 2");
        }
    }

    private static void writeBeyond() {
        Edge.promise(37, "BEYOND: no such sheet.");
        wrongSheets("write", ", 0, 0)");
        wrongSheets("write", ", -1, 0)");
    }

    private static void writeMissing() {
        Edge.promise(37, "MISSING.");
        Edge.refused(BUSY, "MISSING", "write(2, 0, 0)", "write(2, -1, 0)", "write(2, 40, 5)");
    }

    private static void writeNoNumber() {
        Edge.promise(37, "BEYOND: no such number.");
        Edge.refused(BUSY, "BEYOND", "write(0, -1, 4)", "write(0, 3, 4)", "write(0, 39, 4)", "write(0, 40, 4)", "write(0, MIN, 4)",
            "write(0, MAX, 4)", "write(3, 0, 4)", "write(1, 2, 4)");
    }

    private static void copy() {
        Edge.promise(38, "n numbers of a sheet from one on come to another one from one on");
        Supplier<RainVault> made = Edge.made("ice high 40;ice high 40;ice high 40", "sheet(0, 8, 40)", "sheet(3, 8, 40)", "write(0, 0, 1)",
            "write(0, 1, 2)", "write(0, 2, 3)", "write(0, 38, 38)", "write(0, 39, 39)");
        Edge.run(made, "copy(0, 0, 3, 0, 40) = 40", "load(3) = 3", "of(0, 2) = 1", "of(2, 2) = 3", "copy(3, 38, 0, 0, 2) = 2", "load(0) = 3",
            "of(0, 2) = 38", "of(1, 2) = 39", "of(2, 2) = 3");
        Edge.run(made, "copy(0, 0, 3, 0, 0) = 0", "copy(0, 40, 3, 0, 0) = 0", "copy(0, 0, 3, 40, 0) = 0", "load(3) = 3", "count(3) = 0");
        Edge.run(made, "copy(0, 39, 3, 2, 1) = 1", "load(3) = 3", "of(2, 2) = 39", "count(3) = 39");
    }

    private static void copyAsTheyWere() {
        Edge.promise(38, "(as they all were): n.");
        Supplier<RainVault> made = Edge.made("ice;ice;ice;ice", "sheet(0, 8, 4)", "write(0, 0, 1)", "write(0, 1, 2)", "write(0, 2, 3)",
            "write(0, 3, 4)");
        Edge.run(made, "copy(0, 0, 0, 1, 3) = 3", "load(0) = 4", "of(0, 2) = 1", "of(1, 2) = 1", "of(2, 2) = 2", "of(3, 2) = 3");
        Edge.run(made, "copy(0, 1, 0, 0, 3) = 3", "load(0) = 4", "of(0, 2) = 2", "of(1, 2) = 3", "of(2, 2) = 4", "of(3, 2) = 4");
        Edge.run(made, "copy(0, 0, 0, 0, 4) = 4", "load(0) = 4", "of(0, 2) = 1", "of(3, 2) = 4");
    }

    private static void copyBeyond() {
        Edge.promise(38, "BEYOND: no such sheet (either).");
        wrongSheets("copy", ", 0, 0, 0, 1)");
        for (String t : WRONG_SHEETS) {
            Edge.refused(BUSY, "BEYOND", "copy(0, 0, " + t + ", 0, 1)", "copy(2, 0, " + t + ", 0, 1)", "copy(" + t + ", 0, 2, 0, -1)");
        }
    }

    private static void copyMissing() {
        Edge.promise(38, "MISSING: one is.");
        Edge.refused(BUSY, "MISSING", "copy(0, 0, 2, 0, 0)", "copy(2, 0, 0, 0, 0)", "copy(2, 0, 2, 0, 0)", "copy(1, -1, 2, 0, 1)");
    }

    private static void copyKind() {
        Edge.promise(38, "KIND: they are not of as many bits.");
        Edge.refused(BUSY, "KIND", "copy(0, 0, 1, 0, 1)", "copy(1, 0, 0, 0, 1)", "copy(0, 0, 1, 0, 0)", "copy(0, -1, 1, 0, 41)", "copy(1, 0, 3, 0, 1)");
        Edge.refused(Edge.made("ice", "sheet(0, 16, 1)", "sheet(1, 32, 1)"), "KIND", "copy(0, 0, 1, 0, 1)", "copy(1, 0, 0, 0, 1)");
    }

    private static void copyNotSoMany() {
        Edge.promise(38, "BEYOND: one has not so many, or from, to or n is below 0.");
        Supplier<RainVault> made = Edge.made("ice level 1;ice level 2", "sheet(0, 8, 3)", "write(0, 0, 5)", "write(0, 1, 6)", "sheet(1, 8, 2)",
            "write(1, 0, 7)");
        Edge.refused(made, "BEYOND", "copy(0, 0, 1, 0, 3)", "copy(1, 0, 0, 0, 3)", "copy(0, 2, 1, 0, 2)", "copy(0, 0, 1, 1, 2)",
            "copy(0, 3, 1, 0, 1)", "copy(0, 0, 1, 2, 1)", "copy(0, 4, 1, 0, 0)", "copy(0, 0, 1, 3, 0)", "copy(0, 0, 0, 0, 4)");
        Edge.refused(made, "BEYOND", "copy(0, -1, 1, 0, 1)", "copy(0, 0, 1, -1, 1)", "copy(0, 0, 1, 0, -1)", "copy(0, -1, 1, 0, 0)",
            "copy(0, 0, 1, -1, 0)", "copy(0, 1, 1, 1, -1)");
        Edge.refused(made, "BEYOND", "copy(0, MAX, 1, 0, 1)", "copy(0, 0, 1, MAX, 1)", "copy(0, 0, 1, 0, MAX)", "copy(0, 1, 1, 1, MAX)",
            "copy(0, MAX, 1, MAX, MAX)", "copy(0, MIN, 1, 0, 1)", "copy(0, 0, 1, MIN, 1)", "copy(0, 0, 1, 0, MIN)", "copy(0, MIN, 1, MIN, MIN)");
    }

    private static void load() {
        Edge.promise(39, "Numbers of a sheet, from its begin on, become LEVELS of CISTERNS 0, 1, ..: how many came.");
        Edge.run("ice level 4", "sheet(0, 8, 0)", "load(0) = 0", "of(0, 2) = 4");
        Edge.run(EIGHT, "sheet(0, 8, 8)", "write(0, 0, 10)", "write(0, 7, 10)", "load(0) = 8", "of(0, 2) = 10", "of(1, 2) = 0", "of(7, 2) = 10",
            "count(3) = 20");
        Edge.run("ice level 4;ice level 5", "sheet(0, 8, 1)", "load(0) = 1", "of(0, 2) = 0", "of(1, 2) = 5");
    }

    private static void loadEnds() {
        Edge.promise(39, "It ends at the first that isn't 0 to HEIGHT, or for which there is no CISTERN.");
        Edge.run("", "sheet(0, 8, 1)", "load(0) = 0");
        Edge.run(EIGHT, "sheet(0, 8, 40)", "load(0) = 8");
        Edge.run("ice level 4;ice level 5", "sheet(0, 8, 3)", "write(0, 0, -1)", "load(0) = 0", "of(0, 2) = 4", "of(1, 2) = 5", "write(0, 0, 11)",
            "load(0) = 0", "of(0, 2) = 4", "write(0, 0, 10)", "write(0, 1, 11)", "load(0) = 1", "of(0, 2) = 10", "of(1, 2) = 5", "write(0, 1, 10)",
            "load(0) = 2", "of(1, 2) = 10");
        Edge.run("ice high 1", "sheet(0, 32, 2)", "write(0, 0, MIN)", "load(0) = 0", "write(0, 0, 2)", "load(0) = 0", "write(0, 0, 1)", "load(0) = 1");
    }

    private static void loadBeyond() {
        Edge.promise(39, "BEYOND: no such sheet.");
        wrongSheets("load", ")");
    }

    private static void loadMissing() {
        Edge.promise(39, "MISSING.");
        Edge.refused(BUSY, "MISSING", "load(2)");
        Edge.refused(Edge.made("ice level 2"), "MISSING", "load(0)", "load(3)");
    }

    private static void rust() {
        Edge.promise(40, "Rust: in how many RAINS of n hours (0 to 5)");
        Edge.run("ice level 2;catch 0 0 0 0 1", "sheet(0, 8, 1)", "write(0, 0, 2)", "rust(0, 0) = 1", "rust(0, 1) = 4", "rust(0, 5) = 1024",
            "write(0, 0, 5)", "rust(0, 0) = 0", "rust(0, 1) = 1", "rust(0, 5) = 1280", "write(0, 0, 17)", "rust(0, 5) = 0", "of(0, 2) = 2",
            "count(0) = 0");
    }

    private static void rustBoth() {
        Edge.promise(40, "the LEVELS of CISTERNS 0, 1, .. in the end are the numbers of a sheet (as far as there are both).");
        Edge.run("", "sheet(0, 8, 0)", "rust(0, 0) = 1", "rust(0, 5) = 3125", "sheet(0, 8, 40)", "write(0, 0, 9)", "rust(0, 0) = 1", "rust(0, 5) = 3125");
        Edge.run("ice;ice", "sheet(0, 8, 0)", "rust(0, 0) = 1", "rust(0, 5) = 3125", "sheet(0, 8, 1)", "change(1, 2, 9)", "rust(0, 0) = 1");
        Edge.run(EIGHT, "sheet(0, 8, 40)", "write(0, 8, 9)", "rust(0, 0) = 1", "rust(0, 5) = 1", "write(0, 7, 9)", "rust(0, 0) = 0", "rust(0, 5) = 0");
        Edge.run("ice", "sheet(0, 8, 1)", "write(0, 0, 256)", "rust(0, 0) = 1", "write(0, 0, -1)", "rust(0, 0) = 0", "rust(0, 5) = 0");
    }

    private static void rustNoSheet() {
        Edge.promise(40, "BEYOND: no such sheet.");
        wrongSheets("rust", ", 0)");
        wrongSheets("rust", ", 6)");
    }

    private static void rustMissing() {
        Edge.promise(40, "MISSING.");
        Edge.refused(BUSY, "MISSING", "rust(2, 0)", "rust(2, 5)", "rust(2, 6)", "rust(2, -1)");
    }

    private static void rustBeyond() {
        Edge.promise(40, "BEYOND: n.");
        Edge.refused(BUSY, "BEYOND", "rust(0, -1)", "rust(0, 6)", "rust(0, MIN)", "rust(0, MAX)", "rust(3, 6)");
    }

    private static void rustState() {
        Edge.promise(40, "STATE.");
        Edge.refused(Edge.late(9999, "ice", "sheet(0, 8, 1)"), "STATE", "rust(0, 1)", "rust(0, 5)");
        Edge.refused(Edge.late(9995, "ice", "sheet(0, 8, 0)"), "STATE", "rust(0, 5)");
        Edge.run(Edge.late(9999, "ice", "sheet(0, 8, 1)"), "rust(0, 0) = 1");
        Edge.run(Edge.late(9994, "ice", "sheet(0, 8, 1)"), "rust(0, 5) = 1");
    }

    private static void judge() {
        Edge.promise(41, "numbers of a sheet are hours AHEAD (10 times SIDE, and AMOUNT; 0 to 39): 0 if it is OPEN in the end; 1 if not");
        Edge.run("", "sheet(0, 8, 0)", "judge(0) = 0", "sheet(0, 8, 40)", "judge(0) = 0");
        Edge.run("lock 2 0 0", "sheet(0, 8, 0)", "judge(0) = 1", "sheet(0, 8, 40)", "judge(0) = 1");
        Edge.run("ice high 9;catch 0 0 0 0 1;lock 3 0 0", "sheet(0, 8, 1)", "judge(0) = 1", "write(0, 0, 39)", "judge(0) = 0", "write(0, 0, 38)",
            "judge(0) = 1", "write(0, 0, 29)", "judge(0) = 1", "write(0, 0, 9)", "judge(0) = 1", "of(0, 2) = 0", "count(0) = 0");
        for (int side = 0; side < 4; side++) {
            for (int amount = 1; amount <= 9; amount += 4) {
                Edge.run("ice high " + amount + ";catch 0 0 0 0 0;lock 3 0 0", "change(0, " + (7 + side) + ", 1)", "sheet(0, 8, 1)",
                    "write(0, 0, " + (10 * side + amount) + ")", "judge(0) = 0", "write(0, 0, " + (10 * side + amount - 1) + ")", "judge(0) = 1");
            }
        }
        Edge.run("ice high 40;catch 0 1 0 0 0;lock 3 0 0", "sheet(0, 16, 40)", "judge(0) = 1", "write(0, 0, 9)", "write(0, 10, 9)", "write(0, 20, 9)",
            "write(0, 30, 9)", "judge(0) = 1", "write(0, 39, 4)", "judge(0) = 0", "write(0, 39, 14)", "judge(0) = 1");
    }

    private static void judgeNoHour() {
        Edge.promise(41, "else (a number isn't one) 2 and its place.");
        Edge.run("", "sheet(0, 8, 40)", "write(0, 39, 40)", "judge(0) = 41", "write(0, 39, -1)", "judge(0) = 41", "write(0, 1, 40)", "judge(0) = 3",
            "write(0, 0, -1)", "judge(0) = 2", "write(0, 0, 39)", "judge(0) = 3", "write(0, 1, 0)", "judge(0) = 41", "write(0, 39, 39)", "judge(0) = 0");
        Edge.run("lock 2 0 0", "sheet(0, 32, 1)", "write(0, 0, MIN)", "judge(0) = 2", "write(0, 0, MAX)", "judge(0) = 2", "write(0, 0, 40)",
            "judge(0) = 2", "status(-1) = 0");
    }

    private static void judgeBeyond() {
        Edge.promise(41, "BEYOND: no such sheet.");
        wrongSheets("judge", ")");
    }

    private static void judgeMissing() {
        Edge.promise(41, "MISSING.");
        Edge.refused(BUSY, "MISSING", "judge(2)");
        Edge.refused(Edge.late(9999, ""), "MISSING", "judge(0)");
    }

    private static void judgeState() {
        Edge.promise(41, "STATE.");
        Edge.refused(Edge.late(9999, "ice", "sheet(0, 8, 1)"), "STATE", "judge(0)");
        Edge.refused(Edge.late(9960, "ice", "sheet(0, 8, 40)"), "STATE", "judge(0)");
        Edge.run(Edge.late(9999, "ice", "sheet(0, 8, 0)"), "judge(0) = 0");
        Edge.run(Edge.late(9959, "ice", "sheet(0, 8, 40)"), "judge(0) = 0");
    }
}
