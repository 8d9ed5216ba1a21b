/** Promises 17 to 21: all rains. */
public final class RainsTest {
    public static void main(String[] args) {
        oneSide();
        order();
        dry();
        none();
        beyond();
        late();
        Check.end();
    }

    // Promises 17 to 21: only rain from SIDE 2 comes in, and two hours of it are wanted
    private static void oneSide() {
        RainVault x = Check.vault("cistern high 6 leak 0;catch 0 0 0 1 0;lock 3 0 0");
        String seen = Check.seen(x);
        int[] due = {0, 0, 1, 13, 113, 821};
        for (int n = 0; n <= 5; n++) {
            Check.due("rains(" + n + ")", x.rains(n), due[n]);
            if (n >= 2) {
                Check.due("driest(" + n + ")", x.driest(n), 2);
                Check.due("needed(" + n + ")", x.needed(n), 4);
                for (int i = 0; i < n; i++) {
                    Check.due("first(" + n + ", " + i + ")", x.first(n, i), i < n - 2 ? 0 : 3);
                }
            } else {
                Check.due("driest(" + n + ")", x.driest(n), Check.NONE);
                Check.due("needed(" + n + ")", x.needed(n), Check.NONE);
            }
        }
        Check.due("first(1, 0)", x.first(1, 0), Check.NONE);
        Check.due("soonest()", x.soonest(), 2);
        Check.same("after all rains", Check.seen(x), seen);
    }

    // Promises 18, 19, 21: the first isn't the driest one
    private static void order() {
        RainVault x = Check.vault("cistern high 12 leak 0;catch 0 1 0 0 4;lock 4 0 7;lock 0 0 1;cistern high 5 level 5 leak 0");
        Check.due("LEVEL 6: two from SIDE 0", x.rains(2), 1);
        Check.due("first", x.first(2, 0) * 10 + x.first(2, 1), 11);
        Check.due("driest", x.driest(2), 2);
        Check.due("needed", x.needed(2), 1);
        RainVault y = Check.vault("cistern high 9 leak 0;catch 0 1 0 0 3;lock 3 0 0");
        Check.due("three from SIDE 0 or one from SIDE 3", y.first(3, 0) * 100 + y.first(3, 1) * 10 + y.first(3, 2), 4);
        Check.due("needed of several", y.needed(3), 0);
        Check.due("soonest", y.soonest(), 1);
        RainVault z = Check.vault("cistern high 6 level 6;cistern high 6 leak 0;catch 0 1 0 0 0;catch 1 0 2 0 0;lock 3 1 0;lock 4 0 6;lock 0 0 2;cistern level 4 leak 0;catch 2 0 0 0 0");
        Check.due("z rains", z.rains(2), 1);
        Check.due("z first", z.first(2, 0) * 10 + z.first(2, 1), 21);
        Check.due("z driest", z.driest(2), 2);
        Check.due("z needed", z.needed(2), 3);
        String text = "cistern high 6 leak 0;catch 0 1 0 0 2;lock 3 0 0";
        Check.due("driest, asked first", Check.vault(text).driest(1), 1);
        Check.due("needed, asked first", Check.vault(text).needed(1), 8);
        RainVault w = Check.vault(text);
        Check.due("the first of 2", w.first(2, 0) * 10 + w.first(2, 1), 4);
        w.change(0, 10, 0);
        Check.due("the first of 2 then", w.first(2, 0) * 10 + w.first(2, 1), 11);
        Check.due("the first of 3 then", w.first(3, 0) * 100 + w.first(3, 1) * 10 + w.first(3, 2), 11);
    }

    // Promises 17 to 21: a dry hour opens it, rain doesn't
    private static void dry() {
        RainVault x = Check.vault("cistern level 2 leak 1;lock 2 0 0");
        Check.due("rains(0)", x.rains(0), 0);
        Check.due("rains(1)", x.rains(1), 0);
        Check.due("rains(2)", x.rains(2), 1);
        Check.due("first", x.first(2, 0) + x.first(2, 1), 0);
        Check.due("driest", x.driest(2), 0);
        Check.due("needed", x.needed(2), 0);
        Check.due("soonest", x.soonest(), 2);
        x.change(0, 2, 0);
        Check.due("rains(0)", x.rains(0), 1);
        Check.due("driest(0)", x.driest(0), 0);
        Check.due("needed(0)", x.needed(0), 0);
        Check.due("soonest", x.soonest(), 0);
    }

    private static void none() {
        RainVault x = Check.vault("cistern high 40 leak 0;lock 3 0 0");
        Check.due("rains(5)", x.rains(5), 0);
        Check.due("first(5, 0)", x.first(5, 0), Check.NONE);
        Check.due("driest(5)", x.driest(5), Check.NONE);
        Check.due("soonest()", x.soonest(), Check.NONE);
        Check.due("needed(5)", x.needed(5), Check.NONE);
        x.change(0, 2, 25);
        Check.due("soonest()", x.soonest(), 5);
        Check.due("rains(5)", x.rains(5), 1024);
        Check.due("driest(5)", x.driest(5), 5);
    }

    private static void beyond() {
        RainVault x = Check.vault("cistern;lock 3 0 0");
        int[] beyond = {-1, 6, Integer.MAX_VALUE, Integer.MIN_VALUE};
        for (int n : beyond) {
            Check.due("rains(" + n + ")", x.rains(n), Check.BEYOND);
            Check.due("first(" + n + ", 0)", x.first(n, 0), Check.BEYOND);
            Check.due("driest(" + n + ")", x.driest(n), Check.BEYOND);
            Check.due("needed(" + n + ")", x.needed(n), Check.BEYOND);
        }
        Check.due("first(0, 0)", x.first(0, 0), Check.BEYOND);
        Check.due("first(3, 3)", x.first(3, 3), Check.BEYOND);
        Check.due("first(3, -1)", x.first(3, -1), Check.BEYOND);
    }

    private static void late() {
        RainVault x = Check.lateVault(9994, "");
        Check.due("rains(5)", x.rains(5), 3125);
        Check.due("soonest()", x.soonest(), 0);
        x.rain(0, 0, 1);
        Check.due("rains(5)", x.rains(5), Check.STATE);
        Check.due("rains(6)", x.rains(6), Check.BEYOND);
        Check.due("rains(4)", x.rains(4), 625);
        Check.due("first(5, 0)", x.first(5, 0), Check.STATE);
        Check.due("first(5, 5)", x.first(5, 5), Check.BEYOND);
        Check.due("driest(5)", x.driest(5), Check.STATE);
        Check.due("needed(5)", x.needed(5), Check.STATE);
        Check.due("soonest()", x.soonest(), Check.STATE);
        x.rain(0, 0, 4);
        Check.due("rains(0)", x.rains(0), 1);
        Check.due("rains(1)", x.rains(1), Check.STATE);
        Check.due("needed(0)", x.needed(0), 0);
    }
}
