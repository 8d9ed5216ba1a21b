/** Promises 31 to 33: texts. */
public final class TextTest {
    public static void main(String[] args) {
        feed();
        wipe();
        cisterns();
        catches();
        locks();
        coldAndWarm();
        tokens();
        faults();
        full();
        faultChangesNothing();
        Check.end();
    }

    /** On a roof of three CISTERNS and two CONDITIONS: -1 less the FAULT, and all stays as it was. */
    private static void fault(String text, int place) {
        RainVault x = Check.vault("cistern;slow high 5 level 2;ice;lock 2 0 0;lock 3 1 0");
        String seen = Check.seen(x);
        int findings = x.status(-1);
        Check.due("text() of " + text, Check.told(x, text), -1 - place);
        Check.due("no finding", x.status(-1), findings);
        Check.same("after " + text, Check.seen(x), seen);
    }

    private static void cistern(RainVault x, int c, int... due) {
        for (int what = 0; what < due.length; what++) {
            Check.due("of(" + c + ", " + what + ")", x.of(c, what), due[what]);
        }
    }

    // Promise 31
    private static void feed() {
        RainVault x = new RainVault();
        Check.due("feed(0, 0)", x.feed(0, 0), Check.BEYOND);
        Check.due("feed(0, 5)", x.feed(0, 5), Check.BEYOND);
        Check.due("feed(0, -1)", x.feed(0, -1), Check.BEYOND);
        Check.due("feed \"cold\"", x.feed('c' << 24 | 'o' << 16 | 'l' << 8 | 'd', 4), 4);
        Check.due("count(5)", x.count(5), 4);
        Check.due("text()", x.text(), 1);
        Check.due("it is COLD", x.cold(0), 1);
        Check.due("lowest bytes alone", x.feed('x' << 24 | 'c' << 16 | 'o' << 8 | 'l', 3), 3);
        Check.due("behind it", x.feed('x' << 8 | 'd', 1), 4);
        Check.due("text()", x.text(), 1);
        Check.due("bytes above 127", x.feed(-1, 4), 4);
        Check.due("text()", x.text(), -1);
        for (int i = 0; i < 29; i++) {
            Check.due("feed()", x.feed(0, 4), 4 * i + 4);
        }
        Check.due("feed(0, 3)", x.feed(0, 3), 119);
        Check.due("feed(0, 2)", x.feed(0, 2), Check.FULL);
        Check.due("feed(0, 5)", x.feed(0, 5), Check.BEYOND);
        Check.due("count(5)", x.count(5), 119);
        Check.due("feed(0, 1)", x.feed(0, 1), 120);
        Check.due("feed(0, 1)", x.feed(0, 1), Check.FULL);
    }

    // Promise 32
    private static void wipe() {
        RainVault x = new RainVault();
        Check.tape(x, "ice;");
        Check.due("wipe()", x.wipe(), 4);
        Check.due("wipe()", x.wipe(), 0);
        Check.due("text()", Check.told(x, "ice"), 1);
        Check.due("THE TAPE is empty", x.count(5), 0);
        Check.due("one CISTERN", x.count(1), 1);
    }

    // Promise 33
    private static void cisterns() {
        RainVault x = new RainVault();
        Check.due("all KINDS", Check.told(x, "cistern;siphon;slow;tipped;false;frozen;ice"), 7);
        for (int c = 0; c < 7; c++) {
            cistern(x, c, c, 10, 0, 1, -1, 0, c == 4 ? 10 : 0, 1, 1, 1, 1);
        }
        RainVault y = new RainVault();
        Check.due("all parts", Check.told(y, "slow high 40 level 40 leak 9 to 7;ice high 1 level 0 leak 0 to 0;cistern level 10"), 3);
        cistern(y, 0, 2, 40, 40, 9, 7, 0, 40, 1, 1, 1, 1);
        cistern(y, 1, 6, 1, 0, 0, 0, 0, 0, 1, 1, 1, 1);
        cistern(y, 2, 0, 10, 10, 1, -1);
        Check.due("some parts", Check.told(y, "cistern leak 4;cistern to 1;cistern high 3 to 2;cistern level 7 leak 2"), 4);
        cistern(y, 3, 0, 10, 0, 4, -1);
        cistern(y, 4, 0, 10, 0, 1, 1);
        cistern(y, 5, 0, 3, 0, 1, 2);
        cistern(y, 6, 0, 10, 7, 2, -1);
    }

    // Promise 33
    private static void catches() {
        RainVault x = new RainVault();
        Check.due("of one of this text", Check.told(x, "ice;ice;catch 1 0 9 2 5"), 3);
        cistern(x, 0, 6, 10, 0, 1, -1, 0, 0, 1, 1, 1, 1);
        cistern(x, 1, 6, 10, 0, 1, -1, 0, 0, 0, 9, 2, 5);
        Check.due("of one there already, item by item", Check.told(x, "catch 0 1 2 3 4;catch 0 5 6 7 8"), 2);
        cistern(x, 0, 6, 10, 0, 1, -1, 0, 0, 5, 6, 7, 8);
        fault("catch 3 0 0 0 0", 6);
        fault("catch 3 0 0 0 0;ice", 6);
        fault("catch 0 10 0 0 0", 8);
        fault("catch 0 0 0 0 10", 14);
        fault("catch 0 0 0 0", 13);
        fault("catch 0 0 0 0 0 0", 16);
        fault("catch;", 5);
        Check.due("no CISTERN is there", Check.told(new RainVault(), "catch 0 0 0 0 0"), -7);
    }

    // Promise 33
    private static void locks() {
        RainVault x = new RainVault();
        Check.due("locks", Check.told(x, "lock 0 7 7;lock 4 0 40;lock 3 1 0"), 3);
        int[] due = {0, 7, 7, 4, 0, 40, 3, 1, 0};
        for (int i = 0; i < 9; i++) {
            Check.due("lockOf()", x.lockOf(i / 3, i % 3), due[i]);
        }
        fault("lock 5 0 0", 5);
        fault("lock 0 8 0", 7);
        fault("lock 0 0 8", 9);
        fault("lock 3 0 8", 9);
        fault("lock 4 0 41", 9);
        fault("lock 4 0", 8);
        fault("lock ice", 5);
        fault("lock 4 0 4 0", 11);
    }

    // Promise 33
    private static void coldAndWarm() {
        RainVault x = new RainVault();
        Check.due("cold", Check.told(x, "cold"), 1);
        Check.due("it was", x.cold(1), 1);
        Check.due("warm", Check.told(x, "warm"), 1);
        Check.due("it was not", x.cold(0), 0);
        Check.due("item by item", Check.told(x, "cold;warm;cold"), 3);
        Check.due("it was", x.cold(0), 1);
        fault("cold warm", 5);
        fault("cold 1", 5);
    }

    // Terms 3: TOKENS, blanks
    private static void tokens() {
        RainVault x = new RainVault();
        Check.due("blanks", Check.told(x, "   siphon   high  007   ;  lock   4 1   040  "), 2);
        cistern(x, 0, 1, 7);
        Check.due("b", x.lockOf(0, 2), 40);
        Check.due("no blanks", Check.told(x, "ice high9level8leak7to6;catch1 1 2 3 4;lock1 2 3"), 3);
        cistern(x, 1, 6, 9, 8, 7, 6, 0, 8, 1, 2, 3, 4);
        fault("icehigh 9", 0);
        fault("ices", 0);
        fault("gold", 0);
        fault("warn", 0);
        fault("wurm", 0);
        fault("ice hich 9", 4);
        fault("ic", 0);
        fault("Ice", 0);
        fault("ice high 1000", 9);
        fault("ice high 4294967297", 9);
        fault("ice high 99999999999999999999", 9);
        fault("ice high -1", 9);
        fault("ice\thigh 1", 3);
        fault("ice_", 3);
        fault("ice high 1_", 10);
        fault("ice,", 3);
        fault("ice:", 3);
        fault("ice/", 3);
        fault("i{", 0);
        fault("ice{", 3);
        fault("ice`", 3);
        fault("ice \0", 4);
    }

    // Promise 33: FAULTS
    private static void faults() {
        fault("", 0);
        fault("   ", 3);
        fault(";", 0);
        fault("ice;", 4);
        fault("ice; ", 5);
        fault("ice;;ice", 4);
        fault("ice ice", 4);
        fault("ice 5", 4);
        fault("7", 0);
        fault("high 5", 0);
        fault("rain", 0);
        fault("ice high", 8);
        fault("ice high ", 9);
        fault("ice high;", 8);
        fault("ice high 0", 9);
        fault("ice high 41", 9);
        fault("ice high level 3", 9);
        fault("ice level 11", 10);
        fault("ice high 5 level 6", 17);
        fault("ice leak 10", 9);
        fault("ice to 8", 7);
        fault("ice level 3 high 5", 12);
        fault("ice leak 3 level 5", 11);
        fault("ice to 3 leak 5", 9);
        fault("ice high 5 high 6", 11);
        fault("ice to 5 to 6", 9);
        fault("ice to 5 ; ; ", 11);
        fault("cold;slow high 3;lock 1 1 1;catch 3 1 1 1 1;ice leak x", 53);
    }

    // Promise 33: a 9th is its own FAULT
    private static void full() {
        RainVault x = new RainVault();
        Check.due("eight", Check.told(x, "ice;ice;ice;ice;ice;ice;ice;ice"), 8);
        Check.due("a 9th", Check.told(x, "cold; ice high 99"), -7);
        Check.due("it isn't COLD", x.cold(0), 0);
        for (int i = 0; i < 8; i++) {
            x.lock(0, 0, 0);
        }
        Check.due("a 9th CONDITION", Check.told(x, "cold;  lock 9 9 9"), -8);
        Check.due("others go on", Check.told(x, "catch 7 2 2 2 2;cold"), 2);
        RainVault w = new RainVault();
        Check.due("120 TOKENS", Check.told(w, ";".repeat(120)), -1);
        Check.due("a TEXT of 120 bytes", Check.told(w, "ice" + " ".repeat(112) + ";cold"), 2);
        Check.due("120 bytes, too early", Check.told(w, "ice" + " ".repeat(116) + ";"), -121);
        RainVault y = Check.vault("ice;ice;ice");
        Check.due("a 9th of the text and the roof", Check.told(y, "ice;ice;ice;ice;ice;ice"), -21);
        Check.due("none came", y.count(1), 3);
        RainVault z = Check.vault("lock 0 0 0;lock 1 1 1");
        Check.due("a 9th of both", Check.told(z, "lock 0 0 0;lock 0 0 0;lock 0 0 0;lock 0 0 0;lock 0 0 0;lock 0 0 0;lock 0 0 0"), -67);
        Check.due("none came", z.count(2), 2);
    }

    private static void faultChangesNothing() {
        RainVault x = Check.vault("cistern");
        Check.due("FAULT", Check.told(x, "cold;ice high 5;catch 0 5 5 5 5;lock 0 0 0;lock"), -48);
        Check.due("THE TAPE is empty", x.count(5), 0);
        Check.due("CISTERNS", x.count(1), 1);
        Check.due("CONDITIONS", x.count(2), 0);
        Check.due("CATCH", x.of(0, 7), 1);
        Check.due("COLD", x.cold(0), 0);
        Check.due("no finding", x.status(-1), 0);
    }
}
