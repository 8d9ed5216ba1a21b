import java.util.function.Supplier;

/** Boundary cases of promises 31 to 33: texts. */
final class TextEdges {
    private static final String ROOF = "cistern level 3;slow high 5 level 2;lock 2 0 0";

    private TextEdges() {
    }

    static void run() {
        feed();
        feedBeyond();
        feedFull();
        wipe();
        textIsEmptyThen();
        howManyItems();
        itemByItem();
        faultChangesNothing();
        tape();
        tokensLong();
        words();
        numbers();
        blanks();
        signs();
        high();
        level();
        leak();
        to();
        partsInOrder();
        catches();
        locks();
        coldOrWarm();
        faultPlace();
        faultNoToken();
        faultNinth();
        faultTooEarly();
    }

    private static void feed() {
        Edge.promise(31, "THE TAPE gets the n lowest bytes of a number behind it, the highest of these first (n 1 to 4): how many it has.");
        Edge.run("", "feed(1668246628, 4) = 4", "text() = 1", "cold(0) = 1");
        Edge.run("", "feed(1667460972, 4) = 4", "feed(100, 1) = 5", "count(5) = 5", "text() = -1");
        Edge.run("", "feed(2019782508, 3) = 3", "feed(-156, 1) = 4", "text() = 1", "cold(1) = 1");
        Edge.run("", "feed(538976288, 1) = 1", "feed(538976288, 2) = 3", "feed(538976288, 3) = 6", "feed(MIN, 4) = 10", "text() = -7");
        Edge.run("", "feed(-1, 1) = 1", "feed(0, 4) = 5", "feed(MAX, 4) = 9", "text() = -1");
    }

    private static void feedBeyond() {
        Edge.promise(31, "BEYOND: n.");
        Edge.refused(Edge.made(""), "BEYOND", "feed(0, 0)", "feed(0, -1)", "feed(0, 5)", "feed(0, MIN)", "feed(0, MAX)");
        Edge.refused(Edge.made("", "30* feed(538976288, 4)"), "BEYOND", "feed(0, 0)", "feed(0, 5)", "feed(0, MAX)");
    }

    private static void feedFull() {
        Edge.promise(31, "FULL.");
        Edge.run("", "30* feed(538976288, 4)", "count(5) = 120", "feed(32, 1) = FULL", "count(5) = 120", "wipe() = 120", "feed(32, 1) = 1");
        Edge.run("", "29* feed(538976288, 4)", "feed(32, 3) = 119", "feed(32, 2) = FULL", "feed(32, 1) = 120");
        Edge.refused(Edge.made("", "30* feed(538976288, 4)"), "FULL", "feed(0, 1)", "feed(0, 4)");
        Edge.refused(Edge.made("", "29* feed(538976288, 4)", "feed(32, 1)"), "FULL", "feed(0, 4)");
        Edge.refused(Edge.made("", "29* feed(538976288, 4)", "feed(32, 3)"), "FULL", "feed(0, 2)", "feed(0, 3)", "feed(0, 4)");
    }

    private static void wipe() {
        Edge.promise(32, "THE TAPE is empty: how many it had.");
        Edge.run("", "wipe() = 0", "feed(0, 1) = 1", "wipe() = 1", "wipe() = 0", "count(5) = 0", "30* feed(0, 4)", "wipe() = 120",
            "count(5) = 0", "text() = -1");
    }

    private static void textIsEmptyThen() {
        Edge.promise(33, "THE TAPE is a TEXT, and empty then");
        Edge.told("", "ice", 1, "count(5) = 0", "text() = -1", "count(1) = 1");
        Edge.told(ROOF, "", -1);
        Edge.told("", "cold;".repeat(23) + "cold ", 24, "count(5) = 0", "wipe() = 0");
    }

    private static void howManyItems() {
        Edge.promise(33, "how many ITEMS.");
        Edge.told("", "cold", 1);
        Edge.told("", "cold;".repeat(23) + "warm", 24, "cold(0) = 0");
        Edge.told("", "ice;ice;ice;ice;ice;ice;ice;ice;" + "cold;".repeat(17) + "ice", -118);
        Edge.told("", "ice;ice;ice;ice;ice;ice;ice;" + "cold;".repeat(17) + "ice", 25, "count(1) = 8");
    }

    private static void itemByItem() {
        Edge.promise(33, "all that it tells is so, item by item");
        Edge.told("", "catch 0 1 1 1 1;ice", -7);
        Edge.told("", "ice;catch 0 9 8 7 6;catch 0 0 1 2 3;cold;warm;cold", 6, "of(0, 7) = 0", "of(0, 10) = 3", "cold(1) = 1");
        Edge.told(ROOF, "ice level 1;catch 2 0 0 0 9;lock 3 2 0", 3, "count(1) = 3", "of(2, 10) = 9", "lockOf(1, 1) = 2", "of(0, 2) = 3");
    }

    private static void faultChangesNothing() {
        Edge.promise(33, "With a FAULT: -1 less the FAULT (nothing changes but that THE TAPE is empty; no finding).");
        Edge.told(ROOF, "cold;ice;catch 0 9 9 9 9;catch 2 9 9 9 9;lock 3 0 0;lock", -57);
        Edge.told(ROOF, "cold;;", -6);
        Edge.told("ice;ice;ice;ice;ice;ice;ice", "cold;ice high 40 level 40;ice", -27);
        Edge.told(ROOF, "gold", -1, "feed(6906725, 3) = 3", "text() = 1", "count(1) = 3");
    }

    private static void tape() {
        Edge.term(33, "Terms 3", "A TEXT is read from THE TAPE (bytes, at most 120).");
        Edge.told("", "ice" + " ".repeat(117), 1, "count(1) = 1");
        Edge.told("", " ".repeat(117) + "ice", 1, "count(1) = 1");
        Edge.told("", "a".repeat(120), -1);
        Edge.told("", "ice high " + "0".repeat(110) + "9", 1, "of(0, 1) = 9");
        Edge.told("", "ice high " + "9".repeat(111), -10);
        Edge.told("", ";".repeat(120), -1);
    }

    private static void tokensLong() {
        Edge.term(33, "Terms 3", "TOKENS, each as long as can be");
        Edge.told("", "ice high10", 1, "of(0, 1) = 10");
        Edge.told("", "ice high1 0", -11);
        Edge.told("", "icehigh 9", -1);
        Edge.told("", "ices", -1);
        Edge.told("", "ic", -1);
        Edge.told("", "ice1", -4);
        Edge.told("", "coldwarm", -1);
        Edge.told("", "ice high9level8leak7to6;lock4 7 40;catch0 1 2 3 4", 3, "of(0, 1) = 9", "of(0, 2) = 8", "of(0, 3) = 7", "of(0, 4) = 6",
            "lockOf(0, 2) = 40", "of(0, 10) = 4");
    }

    private static void words() {
        Edge.term(33, "Terms 3", "WORDS (letters a to z)");
        Edge.told("", "z", -1);
        Edge.told("", "a", -1);
        Edge.told("", "Ice", -1);
        Edge.told("", "icE", -1);
        Edge.told("", "ice high 3A", -11);
        Edge.told("", "ice{", -4);
        Edge.told("", "ice`", -4);
        Edge.told("", "{ice", -1);
        Edge.told("", "`ice", -1);
    }

    private static void numbers() {
        Edge.term(33, "Terms 3", "NUMBERS (digits, 999 at most)");
        Edge.told("", "ice high 999", -10);
        Edge.told("", "ice high 1000", -10);
        Edge.told("", "ice high 4294967306", -10);
        Edge.told("", "ice high 18446744073709551626", -10);
        Edge.told("", "ice level 4294967296", -11);
        Edge.told("", "ice high 010 level 00", 1, "of(0, 1) = 10", "of(0, 2) = 0");
        Edge.told("", "ice high -1", -10);
        Edge.told("", "ice high /", -10);
        Edge.told("", "ice high :", -10);
        Edge.told("", "ice high 1:", -11);
        Edge.told("", "ice high 1/", -11);
    }

    private static void blanks() {
        Edge.term(33, "Terms 3", "blanks may stand between.");
        Edge.told("", "  ice   high   9  ;  cold  ", 2, "of(0, 1) = 9", "cold(1) = 1");
        Edge.told("", "ice;cold", 2);
        Edge.told("", "ic e", -1);
        Edge.told("", "ice high 1 1", -12);
        Edge.told("", "ice\thigh 1", -4);
        Edge.told("", "ice\n", -4);
        Edge.told("", "ice\u00a0", -4);
    }

    private static void signs() {
        Edge.term(33, "Terms 3", "TEXT: ITEM { ; ITEM }.");
        Edge.told(ROOF, ";", -1);
        Edge.told(ROOF, ";ice", -1);
        Edge.told(ROOF, "ice;", -5);
        Edge.told(ROOF, "ice;;", -5);
        Edge.told(ROOF, "ice;;ice", -5);
        Edge.told(ROOF, "ice ice", -5);
        Edge.told(ROOF, "ice:ice", -4);
        Edge.told(ROOF, "ice 5", -5);
        Edge.told(ROOF, "5", -1);
        Edge.told(ROOF, "high 5", -1);
        Edge.told("", "ice;ice", 2);
    }

    private static void high() {
        Edge.term(33, "Terms 3", "perhaps high and a NUMBER (1 to 40)");
        Edge.told("", "cistern", 1, "of(0, 1) = 10");
        Edge.told("", "cistern high 1", 1, "of(0, 1) = 1");
        Edge.told("", "cistern high 40", 1, "of(0, 1) = 40");
        Edge.told(ROOF, "cistern high 0", -14);
        Edge.told(ROOF, "cistern high 41", -14);
        Edge.told(ROOF, "cistern high", -13);
        Edge.told(ROOF, "cistern high;", -13);
        Edge.told(ROOF, "cistern high level 3", -14);
    }

    private static void level() {
        Edge.term(33, "Terms 3", "perhaps level and a NUMBER (0 to its HEIGHT)");
        Edge.told("", "siphon level 0", 1, "of(0, 2) = 0");
        Edge.told("", "siphon level 10", 1, "of(0, 2) = 10", "of(0, 1) = 10");
        Edge.told("", "siphon high 40 level 40;siphon high 1 level 1", 2, "of(0, 2) = 40", "of(1, 2) = 1");
        Edge.told(ROOF, "siphon level 11", -14);
        Edge.told(ROOF, "siphon high 5 level 6", -21);
        Edge.told(ROOF, "siphon high 40 level 41", -22);
        Edge.told(ROOF, "siphon high 40;siphon level 11", -29);
        Edge.told(ROOF, "siphon level", -13);
    }

    private static void leak() {
        Edge.term(33, "Terms 3", "perhaps leak and a NUMBER (0 to 9)");
        Edge.told("", "slow leak 0;slow leak 9;slow", 3, "of(0, 3) = 0", "of(1, 3) = 9", "of(2, 3) = 1");
        Edge.told(ROOF, "slow leak 10", -11);
        Edge.told(ROOF, "slow leak", -10);
        Edge.told(ROOF, "slow leak to 3", -11);
    }

    private static void to() {
        Edge.term(33, "Terms 3", "perhaps to and a NUMBER (0 to 7): a new CISTERN");
        Edge.told("", "false to 0;false to 7;false", 3, "of(0, 4) = 0", "of(1, 4) = 7", "of(2, 4) = -1");
        Edge.told(ROOF, "false to 8", -10);
        Edge.told(ROOF, "false to", -9);
        Edge.told(ROOF, "false to;", -9);
        Edge.told(ROOF, "false to -1", -10);
    }

    private static void partsInOrder() {
        Edge.term(33, "Terms 3", "ITEM: cistern, siphon, slow, frozen, tipped, false or ice, perhaps high");
        Edge.told("", "cistern;siphon;slow;tipped;false;frozen;ice", 7, "of(0, 0) = 0", "of(1, 0) = 1", "of(2, 0) = 2", "of(3, 0) = 3",
            "of(4, 0) = 4", "of(5, 0) = 5", "of(6, 0) = 6", "of(6, 1) = 10", "of(6, 2) = 0", "of(6, 3) = 1", "of(6, 4) = -1", "of(6, 7) = 1");
        Edge.told(ROOF, "ice level 3 high 5", -13);
        Edge.told(ROOF, "ice leak 3 level 5", -12);
        Edge.told(ROOF, "ice to 3 leak 5", -10);
        Edge.told(ROOF, "ice high 5 high 5", -12);
        Edge.told(ROOF, "ice level 5 level 5", -13);
        Edge.told(ROOF, "ice leak 5 leak 5", -12);
        Edge.told(ROOF, "ice to 5 to 5", -10);
    }

    private static void catches() {
        Edge.term(33, "Terms 3", "catch, a NUMBER (a CISTERN there by then), four NUMBERS (0 to 9)");
        Edge.told("", "ice;catch 0 9 0 0 9", 2, "of(0, 7) = 9", "of(0, 8) = 0", "of(0, 10) = 9");
        Edge.told("", "ice;ice;ice;ice;ice;ice;ice;ice;catch 7 0 9 9 0", 9, "of(7, 7) = 0", "of(7, 8) = 9", "of(6, 7) = 1");
        Edge.told("", "catch 0 1 1 1 1", -7);
        Edge.told(ROOF, "catch 2 1 1 1 1", -7);
        Edge.told(ROOF, "catch 2 1 1 1 1;ice", -7);
        Edge.told(ROOF, "catch 8 1 1 1 1", -7);
        Edge.told(ROOF, "catch 0 10 1 1 1", -9);
        Edge.told(ROOF, "catch 0 1 10 1 1", -11);
        Edge.told(ROOF, "catch 0 1 1 10 1", -13);
        Edge.told(ROOF, "catch 0 1 1 1 10", -15);
        Edge.told(ROOF, "catch 0 1 1 1", -14);
        Edge.told(ROOF, "catch 0 1 1 1;ice", -14);
        Edge.told(ROOF, "catch 0 1 1 1 1 1", -17);
        Edge.told(ROOF, "catch", -6);
    }

    private static void locks() {
        Edge.term(33, "Terms 3", "lock, a NUMBER (SORT 0 to 4), a NUMBER (a, 0 to 7), a NUMBER (b: 0 to 7, with SORT 4 0 to 40): a new CONDITION");
        Edge.told("", "lock 0 0 0;lock 3 7 7;lock 4 7 40;lock 4 0 0", 4, "count(2) = 4", "lockOf(1, 2) = 7", "lockOf(2, 2) = 40", "lockOf(3, 2) = 0");
        Edge.told(ROOF, "lock 5 0 0", -6);
        Edge.told(ROOF, "lock 0 8 0", -8);
        Edge.told(ROOF, "lock 4 8 0", -8);
        Edge.told(ROOF, "lock 0 0 8", -10);
        Edge.told(ROOF, "lock 1 0 8", -10);
        Edge.told(ROOF, "lock 2 0 8", -10);
        Edge.told(ROOF, "lock 3 0 8", -10);
        Edge.told(ROOF, "lock 4 0 41", -10);
        Edge.told(ROOF, "lock 4 0", -9);
        Edge.told(ROOF, "lock 4", -7);
        Edge.told(ROOF, "lock", -5);
        Edge.told(ROOF, "lock 4 0;", -9);
        Edge.told(ROOF, "lock 4 0 4 0", -12);
    }

    private static void coldOrWarm() {
        Edge.term(33, "Terms 3", "cold or warm.");
        Edge.told("", "cold", 1, "cold(0) = 1");
        Edge.told("cold", "warm", 1, "cold(0) = 0");
        Edge.told("cold", "cold", 1, "cold(0) = 1");
        Edge.told("", "warm", 1, "cold(0) = 0");
        Edge.told(ROOF, "cold warm", -6);
        Edge.told(ROOF, "warm 1", -6);
        Edge.told(ROOF, "col", -1);
    }

    private static void faultPlace() {
        Edge.term(33, "Terms 3", "FAULT: the place (from 0) of the first byte of the first TOKEN that can't stand there (a NUMBER that isn't as told, another WORD");
        Edge.told(ROOF, "rain", -1);
        Edge.told(ROOF, "  rain", -3);
        Edge.told(ROOF, "ice rain", -5);
        Edge.told(ROOF, "ice high rain", -10);
        Edge.told(ROOF, "ice high 99 rain", -10);
        Edge.told(ROOF, " ".repeat(116) + "rain", -117);
        Edge.told(ROOF, " ".repeat(119) + "9", -120);
    }

    private static void faultNoToken() {
        Edge.term(33, "Terms 3", "a byte that begins no TOKEN");
        Edge.told(ROOF, "\0", -1);
        Edge.told(ROOF, "\u00ff", -1);
        Edge.told(ROOF, "ice\0", -4);
        Edge.told(ROOF, "ice;\u00ff", -5);
        Edge.told(ROOF, "ice !", -5);
        Edge.told(ROOF, "rain !", -1);
        Edge.told(ROOF, " ".repeat(119) + "!", -120);
    }

    private static void faultNinth() {
        Edge.term(33, "Terms 3", "the WORD of a 9th CISTERN, CONDITION: its own)");
        Edge.told("", "ice;ice;ice;ice;ice;ice;ice;ice;ice high 99", -33);
        Edge.told("ice;ice;ice;ice;ice;ice;ice", "ice; ice", -6);
        Edge.told("ice;ice;ice;ice;ice;ice;ice;ice", "slow", -1);
        Edge.told("ice;ice;ice;ice;ice;ice;ice;ice", "lock 2 7 0;catch 7 9 9 9 9;cold", 3, "count(2) = 1");
        String eight = "lock 0 0 0;lock 0 0 0;lock 0 0 0;lock 0 0 0;lock 0 0 0;lock 0 0 0;lock 0 0 0;lock 0 0 0";
        Edge.told("", eight + ";lock 9", -89);
        Edge.told(eight, "cold;lock 0 0 0", -6);
        Edge.told(eight, "ice", 1, "count(1) = 1");
        Edge.told("lock 0 0 0", eight, -78);
    }

    private static void faultTooEarly() {
        Edge.term(33, "Terms 3", "or how many bytes there are if it ends too early.");
        Edge.told(ROOF, "", -1);
        Edge.told(ROOF, " ", -2);
        Edge.told(ROOF, " ".repeat(120), -121);
        Edge.told(ROOF, "ice;  ", -7);
        Edge.told(ROOF, "ice high ", -10);
        Edge.told(ROOF, "cold;".repeat(24), -121);
        Edge.told(ROOF, "ice" + " ".repeat(113) + "high", -121);
        Supplier<RainVault> full = Edge.made("", "29* feed(538976288, 4)", "feed(1751738216, 4)");
        Edge.run(full, "text() = -117");
    }
}
