/** Promises 8 to 12: the lock. */
public final class LockTest {
    public static void main(String[] args) {
        newConditions();
        sorts();
        notThere();
        pick();
        Check.end();
    }

    // Promises 8, 9
    private static void newConditions() {
        RainVault x = new RainVault();
        int[][] beyond = {{-1, 0, 0}, {5, 0, 0}, {0, -1, 0}, {0, 8, 0}, {0, 0, -1}, {0, 0, 8}, {1, 0, 8}, {2, 0, 8},
            {3, 0, 8}, {4, 0, 41}, {4, 0, -1}, {4, 8, 0}};
        for (int[] row : beyond) {
            Check.due("lock(" + row[0] + ", " + row[1] + ", " + row[2] + ")", x.lock(row[0], row[1], row[2]), Check.BEYOND);
        }
        Check.due("none came", x.count(2), 0);
        int[][] right = {{0, 0, 7}, {1, 7, 0}, {2, 3, 7}, {3, 7, 7}, {4, 7, 40}, {4, 0, 0}, {0, 0, 0}, {2, 7, 7}};
        for (int i = 0; i < 8; i++) {
            Check.due("lock()", x.lock(right[i][0], right[i][1], right[i][2]), i);
        }
        Check.due("a 9th", x.lock(0, 0, 0), Check.FULL);
        Check.due("a 9th of no SORT", x.lock(5, 0, 0), Check.BEYOND);
        for (int i = 0; i < 8; i++) {
            for (int what = 0; what < 3; what++) {
                Check.due("lockOf(" + i + ", " + what + ")", x.lockOf(i, what), right[i][what]);
            }
            Check.due("lockOf(" + i + ", 3)", x.lockOf(i, 3), 0);
        }
        Check.due("lockOf(8, 0)", x.lockOf(8, 0), Check.BEYOND);
        Check.due("lockOf(-1, 0)", x.lockOf(-1, 0), Check.BEYOND);
        Check.due("lockOf(0, 4)", x.lockOf(0, 4), Check.BEYOND);
        Check.due("lockOf(0, -1)", x.lockOf(0, -1), Check.BEYOND);
    }

    // Promises 9, 11, 12: each SORT with less, as much, more; what counts is what a CISTERN SHOWS
    private static void sorts() {
        RainVault x = Check.vault("cistern level 5;false high 9 level 5;lock 0 0 1;lock 1 0 1;lock 2 0 0;lock 3 0 0;lock 4 0 5");
        int[] levels = {0, 3, 4, 5, 10};
        int[] due = {16 + 4, 16, 16 + 2, 1, 1 + 8};
        for (int k = 0; k < levels.length; k++) {
            x.change(0, 2, levels[k]);
            Check.due("holding() with LEVEL " + levels[k], x.holding(), due[k]);
            for (int i = 0; i < 5; i++) {
                Check.due("lockOf(" + i + ", 3) with " + levels[k], x.lockOf(i, 3), due[k] >> i & 1);
            }
            Check.due("open() with LEVEL " + levels[k], x.open(), 0);
        }
        RainVault y = Check.vault("false level 10;tipped level 2;lock 2 0 0;lock 2 1 0;lock 1 0 1;lock 1 1 1");
        Check.due("a FALSE and a TIPPED one", y.holding(), 15);
        Check.due("all hold", y.open(), 1);
        y.change(1, 2, 3);
        Check.due("a TIPPED one with 3", y.holding(), 9);
        Check.due("not all hold", y.open(), 0);
        y.change(0, 2, 0);
        y.lock(3, 0, 0);
        Check.due("a FALSE one SHOWS HEIGHT", y.lockOf(4, 3), 1);
        Check.due("no CONDITIONS", new RainVault().open(), 1);
        Check.due("no CONDITIONS hold", new RainVault().holding(), 0);
    }

    // Promises 9, 11, 12: b counts with SORTS 0, 1, 4 alone
    private static void notThere() {
        RainVault x = Check.vault("cistern;lock 0 0 1;lock 1 0 1;lock 2 0 1;lock 3 1 0;lock 4 1 40;lock 4 0 40;lock 2 1 0;lock 1 1 1");
        Check.due("one isn't there", x.holding(), 4 + 32);
        x.cistern(0, 1);
        Check.due("both are there", x.holding(), 2 + 4 + 16 + 32 + 64 + 128);
        x.change(0, 2, 1);
        Check.due("0 has more", x.holding(), 1 + 16 + 32 + 64 + 128);
    }

    // Promise 10
    private static void pick() {
        RainVault x = Check.vault("cistern;lock 0 0 1;lock 1 2 3;lock 2 4 5;lock 4 6 39");
        Check.due("pick(4)", x.pick(4), Check.BEYOND);
        Check.due("pick(-1)", x.pick(-1), Check.BEYOND);
        Check.due("pick(1)", x.pick(1), 3);
        int[][] left = {{0, 0, 1}, {2, 4, 5}, {4, 6, 39}};
        for (int i = 0; i < 3; i++) {
            for (int what = 0; what < 3; what++) {
                Check.due("left lockOf(" + i + ", " + what + ")", x.lockOf(i, what), left[i][what]);
            }
        }
        Check.due("lockOf(3, 0)", x.lockOf(3, 0), Check.BEYOND);
        Check.due("pick(2)", x.pick(2), 2);
        Check.due("pick(0)", x.pick(0), 1);
        Check.due("lockOf(0, 0)", x.lockOf(0, 0), 2);
        Check.due("lock()", x.lock(3, 0, 0), 1);
        Check.due("pick(0)", x.pick(0), 1);
        Check.due("pick(0)", x.pick(0), 0);
        Check.due("pick(0)", x.pick(0), Check.BEYOND);
        Check.due("open()", x.open(), 1);
    }
}
