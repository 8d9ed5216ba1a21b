/** Promises 1 to 7: a new object, and the roof. */
public final class RoofTest {
    public static void main(String[] args) {
        newObject();
        newCisterns();
        ofAndChange();
        changeEdges();
        coldAndCatches();
        shows();
        below();
        Check.end();
    }

    // Promise 1
    private static void newObject() {
        RainVault x = new RainVault();
        int[] counts = {0, 0, 0, 0, 0, 0, 1, 0};
        for (int what = 0; what < counts.length; what++) {
            Check.due("new count(" + what + ")", x.count(what), counts[what]);
        }
        Check.due("new status(-1)", x.status(-1), 0);
        Check.due("new open()", x.open(), 1);
        Check.due("new cold(0)", x.cold(0), 0);
        Check.due("new undo()", x.undo(), Check.NONE);
        for (int spot = 0; spot < 10; spot++) {
            Check.due("new as()", x.as(spot, 0), Check.MISSING);
        }
        for (int s = 0; s < 4; s++) {
            Check.due("new load()", x.load(s), Check.MISSING);
        }
        Check.due("new wipe()", x.wipe(), 0);
    }

    // Promise 2
    private static void newCisterns() {
        RainVault x = new RainVault();
        Check.due("cistern(-1, 1)", x.cistern(-1, 1), Check.BEYOND);
        Check.due("cistern(7, 1)", x.cistern(7, 1), Check.BEYOND);
        Check.due("cistern(0, 0)", x.cistern(0, 0), Check.BEYOND);
        Check.due("cistern(0, 41)", x.cistern(0, 41), Check.BEYOND);
        Check.due("none came", x.count(1), 0);
        for (int c = 0; c < 8; c++) {
            Check.due("cistern()", x.cistern(c % 7, c == 0 ? 1 : 33 + c), c);
        }
        Check.due("a 9th", x.cistern(0, 10), Check.FULL);
        Check.due("a 9th of no kind", x.cistern(7, 10), Check.BEYOND);
        Check.due("CISTERNS", x.count(1), 8);
        for (int c = 0; c < 8; c++) {
            int[] due = {c % 7, c == 0 ? 1 : 33 + c, 0, 1, -1, 0, c == 4 ? 37 : 0, 1, 1, 1, 1};
            for (int what = 0; what <= 10; what++) {
                Check.due("new of(" + c + ", " + what + ")", x.of(c, what), due[what]);
            }
        }
    }

    // Promises 3, 4
    private static void ofAndChange() {
        RainVault x = Check.vault("cistern;slow high 20 level 5 leak 3 to 4");
        int[] was = {2, 20, 5, 3, 4, 0, 5, 1, 1, 1, 1};
        int[] become = {4, 40, 7, 9, -1, 1, 0, 0, 9, 5, 6};
        for (int what = 0; what <= 10; what++) {
            Check.due("of(1, " + what + ")", x.of(1, what), was[what]);
        }
        for (int what = 0; what <= 10; what++) {
            if (what != 6) {
                Check.due("change(1, " + what + ")", x.change(1, what, become[what]), was[what]);
                Check.due("changed of(1, " + what + ")", x.of(1, what), become[what]);
            }
        }
        Check.due("GUTTER was -1", x.change(1, 4, 7), -1);
        Check.due("that is no finding", x.status(-1), 0);
        Check.due("the other stays", x.of(0, 0) + x.of(0, 2) + x.of(0, 5), 0);
        Check.due("the other stays", x.of(0, 1), 10);
        Check.due("of(-1, 0)", x.of(-1, 0), Check.BEYOND);
        Check.due("of(2, 0)", x.of(2, 0), Check.BEYOND);
        Check.due("of(0, -1)", x.of(0, -1), Check.BEYOND);
        Check.due("of(0, 11)", x.of(0, 11), Check.BEYOND);
        Check.due("change(-1, 0, 0)", x.change(-1, 0, 0), Check.BEYOND);
        Check.due("change(2, 0, 0)", x.change(2, 0, 0), Check.BEYOND);
        Check.due("change(0, -1, 0)", x.change(0, -1, 0), Check.BEYOND);
        Check.due("change(0, 6, 0)", x.change(0, 6, 0), Check.BEYOND);
        Check.due("change(0, 11, 0)", x.change(0, 11, 0), Check.BEYOND);
    }

    // Promise 4: the least and the most of each, and one beyond
    private static void changeEdges() {
        int[] least = {0, 4, 0, 0, -1, 0, 0, 0, 0, 0, 0};
        int[] most = {6, 40, 10, 9, 7, 1, 0, 9, 9, 9, 9};
        for (int what = 0; what <= 10; what++) {
            if (what == 6) {
                continue;
            }
            RainVault x = Check.vault("cistern level 4");
            int was = x.of(0, what);
            Check.due("under the least of " + what, x.change(0, what, least[what] - 1), Check.BEYOND);
            Check.due("over the most of " + what, x.change(0, what, most[what] + 1), Check.BEYOND);
            Check.due("stays " + what, x.of(0, what), was);
            Check.due("the most of " + what, x.change(0, what, most[what]), was);
            Check.due("the most stands " + what, x.of(0, what), most[what]);
            if (what != 1) {
                Check.due("the least of " + what, x.change(0, what, least[what]), most[what]);
                Check.due("the least stands " + what, x.of(0, what), least[what]);
            }
        }
        RainVault x = Check.vault("cistern level 4");
        Check.due("HEIGHT as LEVEL", x.change(0, 1, 4), 10);
        Check.due("LEVEL above it", x.change(0, 2, 5), Check.BEYOND);
        Check.due("LEVEL 0", x.change(0, 2, 0), 4);
        Check.due("HEIGHT 0", x.change(0, 1, 0), Check.BEYOND);
        Check.due("HEIGHT 1", x.change(0, 1, 1), 4);
    }

    // Promises 5, 6
    private static void coldAndCatches() {
        RainVault x = Check.vault("cistern;siphon;slow;tipped;false;frozen;ice");
        for (int c = 0; c < 7; c++) {
            x.change(c, 7, 0);
            x.change(c, 8, 3);
            x.change(c, 10, 9);
        }
        int[] warm = {15, 15, 7, 15, 7, 15, 15};
        int[] cold = {15, 15, 7, 15, 7, 0, 0};
        for (int c = 0; c < 7; c++) {
            Check.due("warm catches", x.catches(c, 1, 5), warm[c]);
            Check.due("from SIDE 0", x.catches(c, 0, 9), 0);
            Check.due("from SIDE 3", x.catches(c, 3, 9), c == 2 || c == 4 ? 40 : 81);
            Check.due("AMOUNT 0", x.catches(c, 3, 0), 0);
        }
        Check.due("cold(1)", x.cold(1), 0);
        Check.due("cold(2)", x.cold(2), Check.BEYOND);
        Check.due("cold(-1)", x.cold(-1), Check.BEYOND);
        for (int c = 0; c < 7; c++) {
            Check.due("cold catches", x.catches(c, 1, 5), cold[c]);
            x.change(c, 5, 1);
        }
        Check.due("cold(1) again", x.cold(1), 1);
        Check.due("cold(0)", x.cold(0), 1);
        for (int c = 0; c < 7; c++) {
            Check.due("under a CLOTH", x.catches(c, 1, 5), 0);
        }
        Check.due("catches(7, 0, 0)", x.catches(7, 0, 0), Check.BEYOND);
        Check.due("catches(-1, 0, 0)", x.catches(-1, 0, 0), Check.BEYOND);
        Check.due("catches(0, -1, 0)", x.catches(0, -1, 0), Check.BEYOND);
        Check.due("catches(0, 4, 0)", x.catches(0, 4, 0), Check.BEYOND);
        Check.due("catches(0, 0, -1)", x.catches(0, 0, -1), Check.BEYOND);
        Check.due("catches(0, 0, 10)", x.catches(0, 0, 10), Check.BEYOND);
    }

    // Promise 3: SHOWS
    private static void shows() {
        RainVault x = Check.vault("cistern;siphon;slow;tipped;false;frozen;ice");
        int[][] due = {{2, 2, 2, 0, 8, 2, 2}, {3, 3, 3, 3, 7, 3, 3}, {10, 10, 10, 10, 0, 10, 10}};
        int[] levels = {2, 3, 10};
        for (int k = 0; k < levels.length; k++) {
            for (int c = 0; c < 7; c++) {
                x.change(c, 2, levels[k]);
                Check.due("KIND " + c + " with LEVEL " + levels[k] + " SHOWS", x.of(c, 6), due[k][c]);
            }
        }
    }

    // Promise 7
    private static void below() {
        RainVault x = Check.vault("cistern to 2;cistern to 0;cistern to 3;cistern to 2;cistern;cistern to 5;cistern to 7");
        int[] due = {12, 13, 12, 12, 0, 0, 0};
        for (int c = 0; c < due.length; c++) {
            Check.due("below(" + c + ")", x.below(c), due[c]);
        }
        Check.due("below(7)", x.below(7), Check.BEYOND);
        Check.due("below(-1)", x.below(-1), Check.BEYOND);
        x.cistern(0, 10);
        Check.due("GUTTER to one that came later", x.below(6), 128);
        x.change(7, 4, 7);
        Check.due("GUTTER to itself loses the water", x.below(6), 128);
        Check.due("GUTTER to itself", x.below(7), 0);
        for (int c = 0; c < 8; c++) {
            x.change(c, 4, (c + 1) % 8);
        }
        for (int c = 0; c < 8; c++) {
            Check.due("all round", x.below(c), 255);
        }
    }
}
