/** Promises 13 to 16: hours. */
public final class HoursTest {
    public static void main(String[] args) {
        plainHours();
        kinds();
        gutters();
        rainCounts();
        weather();
        ahead();
        when();
        late();
        Check.end();
    }

    private static void levels(String what, RainVault x, int... due) {
        for (int c = 0; c < due.length; c++) {
            Check.due(what + ": LEVEL of " + c, x.of(c, 2), due[c]);
        }
    }

    // Promise 13: (a), (b), (d)
    private static void plainHours() {
        RainVault x = Check.vault("cistern;cistern high 4;cistern leak 9;cistern leak 0;catch 3 0 2 0 0");
        Check.due("rain(1, 3, 1)", x.rain(1, 3, 1), 1);
        levels("an hour", x, 2, 2, 0, 6);
        Check.due("nothing ran off", x.count(4), 0);
        x.rain(1, 3, 1);
        levels("two hours", x, 4, 3, 0, 10);
        Check.due("one and two ran off", x.count(4), 3);
        x.rain(0, 0, 2);
        levels("dry hours leak", x, 2, 1, 0, 10);
        Check.due("what leaks doesn't run off", x.count(4), 3);
        Check.due("HOUR", x.count(0), 4);
        Check.due("LEVELS", x.count(3), 13);
    }

    // Promise 13: what each KIND catches, leaks and runs over
    private static void kinds() {
        String all = "cistern high 6;siphon high 6;slow high 6;tipped high 6;false high 6;frozen high 6;ice high 6";
        RainVault x = Check.vault(all);
        x.rain(0, 5, 1);
        levels("5 came", x, 4, 4, 1, 4, 1, 4, 5);
        x.rain(0, 2, 1);
        levels("7 came", x, 5, 0, 1, 0, 1, 5, 6);
        Check.due("SIPHONS emptied themselves, ICE ran over", x.count(4), 6 + 6 + 1);
        RainVault y = Check.vault(all);
        for (int c = 0; c < 7; c++) {
            y.change(c, 2, 5);
            y.change(c, 3, 2);
        }
        y.cold(1);
        y.rain(0, 3, 1);
        levels("in the COLD", y, 4, 0, 4, 0, 4, 5, 5);
        Check.due("ran off in the COLD", y.count(4), 2 + 8 + 8);
        RainVault z = Check.vault("siphon level 10;tipped level 10;cistern level 10");
        z.rain(0, 0, 1);
        levels("as high as it is, in a dry hour", z, 0, 0, 9);
        Check.due("ran off", z.count(4), 20);
        RainVault w = Check.vault("cistern level 2 leak 5;cistern leak 9;cistern leak 1");
        w.change(1, 5, 1);
        w.rain(0, 2, 1);
        levels("no more leaks than there is, none comes under a CLOTH", w, 0, 0, 1);
    }

    // Promise 13: (b) by numbers, at once; (c)
    private static void gutters() {
        RainVault x = Check.vault("cistern level 10 to 1;cistern level 10 to 2;cistern level 9 leak 0");
        x.rain(0, 3, 1);
        levels("down by numbers", x, 9, 9, 10);
        Check.due("the last runs off the roof", x.count(4), 8);
        RainVault y = Check.vault("cistern level 10 leak 0;cistern level 10 leak 0 to 0;cistern level 5 leak 0 to 1");
        y.change(2, 1, 5);
        y.rain(0, 3, 1);
        levels("up by numbers: what comes later is lost", y, 10, 10, 5);
        Check.due("all that is above is lost", y.count(4), 9);
        RainVault z = Check.vault("siphon level 9 leak 0;cistern level 10 to 0");
        z.change(0, 7, 0);
        z.rain(0, 5, 1);
        levels("a SIPHON whose water came later", z, 10, 9);
        Check.due("what is above is lost", z.count(4), 4);
        z.rain(3, 0, 1);
        levels("it empties itself an hour later", z, 0, 8);
        Check.due("all of it", z.count(4), 14);
        RainVault w = Check.vault("cistern level 10 to 0;cistern level 10 to 7;siphon level 9 to 3;cistern");
        w.rain(0, 2, 1);
        levels("to itself, to none, of a SIPHON", w, 9, 9, 0, 9);
        Check.due("to itself and to none is lost, and what is above", w.count(4), 2 + 2 + 3);
        RainVault v = Check.vault("cistern to 1;cistern;cistern level 10 leak 0 to 0");
        v.change(0, 2, 9);
        v.change(0, 3, 0);
        v.rain(0, 1, 1);
        levels("0 has run over already as water comes to it", v, 10, 0, 10);
        Check.due("so it is lost", v.count(4), 1);
    }

    // Promise 13
    private static void rainCounts() {
        RainVault x = Check.vault("cistern leak 0;lock 4 0 6");
        Check.due("OPEN with 2 and 4, not with 6", x.rain(2, 2, 3), 2);
        Check.due("not any more", x.rain(2, 2, 100), 0);
        Check.due("HOUR", x.count(0), 103);
        int[][] beyond = {{-1, 0, 1}, {4, 0, 1}, {0, -1, 1}, {0, 10, 1}, {0, 0, 0}, {0, 0, 101}, {0, 0, -1}};
        for (int[] row : beyond) {
            Check.due("rain(" + row[0] + ", " + row[1] + ", " + row[2] + ")", x.rain(row[0], row[1], row[2]), Check.BEYOND);
        }
        Check.due("HOUR stays", x.count(0), 103);
    }

    // Promise 14: draws told by the document, worked out here in another way
    private static void weather() {
        String roof = "cistern high 40 leak 1;catch 0 1 2 3 4;lock 4 0 9";
        RainVault x = Check.vault(roof);
        RainVault y = Check.vault(roof);
        x.seed(77);
        long z = 77;
        int opens = 0;
        for (int i = 0; i < 100; i++) {
            z = (z * 1103515245L + 12345L) & 0xffffffffL;
            int sign = (int) (z / 256 % 5);
            if (sign == 0) {
                opens += y.rain(0, 0, 1);
            } else {
                z = (z * 1103515245L + 12345L) & 0xffffffffL;
                opens += y.rain(sign - 1, (int) (z / 256 % 10), 1);
            }
        }
        Check.due("weather(40)", x.weather(40) + x.weather(60), opens);
        Check.due("LEVEL", x.of(0, 2), y.of(0, 2));
        Check.due("ran off", x.count(4), y.count(4));
        Check.due("HOUR", x.count(0), 100);
        Check.due("z", x.count(6), (int) z);
        Check.due("weather(0)", x.weather(0), Check.BEYOND);
        Check.due("weather(101)", x.weather(101), Check.BEYOND);
        Check.due("z stays", x.count(6), (int) z);
    }

    // Promise 15
    private static void ahead() {
        RainVault x = Check.vault("cistern high 6 level 1;cistern high 9 leak 0;lock 0 1 0");
        x.rain(0, 9, 1);
        Check.due("ran off", x.count(4), 4);
        x.change(0, 2, 1);
        x.change(1, 2, 1);
        String seen = Check.seen(x);
        int[] none = {0, 0, 2, 0, 1, 1};
        int[] three = {1, 3, 5 + 9, 3, 5, 9};
        for (int what = 0; what < 6; what++) {
            Check.due("ahead(0, 3, 0, " + what + ")", x.ahead(0, 3, 0, what), none[what]);
            Check.due("ahead(0, 3, 3, " + what + ")", x.ahead(0, 3, 3, what), three[what]);
        }
        Check.due("ahead(0, 3, 100, 1)", x.ahead(0, 3, 100, 1), 100);
        Check.due("ahead(0, 0, 1, 0)", x.ahead(0, 0, 1, 0), 1);
        int[][] beyond = {{-1, 0, 1, 0}, {4, 0, 1, 0}, {0, -1, 1, 0}, {0, 10, 1, 0}, {0, 0, -1, 0}, {0, 0, 101, 0},
            {0, 0, 1, -1}, {0, 0, 1, 6}, {0, 0, 1, Integer.MIN_VALUE}, {0, 0, 1, Integer.MAX_VALUE}};
        for (int[] r : beyond) {
            Check.due("ahead(" + r[0] + ", " + r[1] + ", " + r[2] + ", " + r[3] + ")", x.ahead(r[0], r[1], r[2], r[3]), Check.BEYOND);
        }
        Check.same("after ahead()", Check.seen(x), seen);
    }

    // Promise 16
    private static void when() {
        RainVault x = Check.vault("cistern leak 0;cistern high 9 leak 0;lock 3 0 0");
        String seen = Check.seen(x);
        Check.due("when(0, 1, 9)", x.when(0, 1, 9), Check.NONE);
        Check.due("when(0, 1, 10)", x.when(0, 1, 10), 10);
        Check.due("when(0, 9, 100)", x.when(0, 9, 100), 2);
        Check.due("when(0, 0, 100)", x.when(0, 0, 100), Check.NONE);
        int[][] beyond = {{-1, 0, 1}, {4, 0, 1}, {0, -1, 1}, {0, 10, 1}, {0, 0, 0}, {0, 0, 101}};
        for (int[] row : beyond) {
            Check.due("when(" + row[0] + ", " + row[1] + ", " + row[2] + ")", x.when(row[0], row[1], row[2]), Check.BEYOND);
        }
        Check.same("after when()", Check.seen(x), seen);
        x.change(0, 2, 10);
        Check.due("OPEN now", x.when(1, 1, 1), 0);
        RainVault y = Check.vault("siphon level 9 leak 0;lock 2 0 0");
        Check.due("OPEN but for a moment", y.when(1, 1, 5), 1);
    }

    // Promises 13 to 16: HOUR is 9999 at most
    private static void late() {
        RainVault x = Check.lateVault(9998, "cistern;lock 2 0 0");
        Check.due("rain(0, 0, 2)", x.rain(0, 0, 2), Check.STATE);
        Check.due("rain(0, 0, 101)", x.rain(0, 0, 101), Check.BEYOND);
        Check.due("weather(2)", x.weather(2), Check.STATE);
        Check.due("z", x.count(6), 1);
        Check.due("ahead(0, 0, 2, 0)", x.ahead(0, 0, 2, 0), Check.STATE);
        Check.due("ahead(0, 0, 2, 5)", x.ahead(0, 0, 2, 5), Check.BEYOND);
        Check.due("ahead(0, 0, 1, 0)", x.ahead(0, 0, 1, 0), 1);
        Check.due("when(0, 0, 2)", x.when(0, 0, 2), Check.STATE);
        Check.due("when(0, 0, 1)", x.when(0, 0, 1), 0);
        Check.due("rain(0, 0, 1)", x.rain(0, 0, 1), 1);
        Check.due("HOUR", x.count(0), 9999);
        Check.due("rain(0, 0, 1)", x.rain(0, 0, 1), Check.STATE);
        Check.due("weather(1)", x.weather(1), Check.STATE);
        Check.due("ahead(0, 0, 0, 0)", x.ahead(0, 0, 0, 0), 1);
        Check.due("when(0, 0, 1)", x.when(0, 0, 1), Check.STATE);
        Check.due("HOUR", x.count(0), 9999);
        RainVault y = Check.lateVault(9998, "");
        Check.due("weather(1)", y.weather(1), 1);
        Check.due("HOUR", y.count(0), 9999);
    }
}
