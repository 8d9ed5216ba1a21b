/** Promises 22 to 30: heirs and thieves. */
public final class HeirsTest {
    public static void main(String[] args) {
        buckets();
        noBuckets();
        cloths();
        guard();
        weak();
        leaks();
        sides();
        beyond();
        late();
        cat();
        seed();
        Check.end();
    }

    private static void carried(String what, RainVault x, int... due) {
        String seen = Check.seen(x);
        Check.due(what + ": buckets()", x.buckets(), due.length);
        for (int i = 0; i < 4; i++) {
            Check.due(what + ": carry(" + i + ")", x.carry(i), i < due.length ? due[i] : Check.NONE);
        }
        Check.same(what, Check.seen(x), seen);
    }

    // Promises 22, 23
    private static void buckets() {
        carried("OPEN now", Check.vault("cistern level 1;lock 4 0 2"));
        carried("one more", Check.vault("cistern level 9;lock 3 0 0"), 0);
        carried("four", Check.vault("cistern;cistern level 3;cistern level 6;lock 3 2 0"), 2, 2, 2, 2);
        carried("several CISTERNS", Check.vault("cistern;cistern level 2;cistern level 3;lock 0 0 1;lock 1 2 0"), 0, 0, 0);
        carried("by numbers", Check.vault("cistern level 1;cistern level 2;cistern;lock 0 1 0;lock 1 0 2"), 2);
        carried("two to 0 and 2", Check.vault("cistern;cistern level 1;cistern;lock 1 0 1;lock 1 2 1"), 0, 2);
        carried("the least way of several", Check.vault("cistern level 4;cistern level 4;false high 9;lock 4 2 8"), 2, 2);
        RainVault x = Check.vault("cistern level 9;cistern level 9;cistern level 9;lock 1 0 1;lock 0 2 0");
        carried("a third one's", x, 2);
        RainVault y = Check.vault("cistern;cistern;cistern;cistern level 1;cistern level 1;lock 0 0 1");
        carried("the least", y, 0);
        y.lock(0, 2, 1);
        y.lock(1, 2, 3);
        carried("the least then", y, 0, 2);
        RainVault z = Check.vault("false high 9 level 2;tipped level 1;cistern;lock 4 0 6;lock 0 1 2");
        carried("of a FALSE and a TIPPED one", z, 0, 0, 1, 1);
    }

    // Promises 22, 23: not above HEIGHT, not with more than four
    private static void noBuckets() {
        RainVault x = Check.vault("cistern level 10;cistern level 5;lock 1 0 1");
        Check.due("five", x.buckets(), Check.NONE);
        Check.due("five", x.carry(0), Check.NONE);
        RainVault y = Check.vault("cistern level 10;cistern level 10;lock 0 0 1");
        Check.due("not above HEIGHT", y.buckets(), Check.NONE);
        Check.due("not above HEIGHT", y.carry(3), Check.NONE);
        RainVault z = Check.vault("lock 2 0 0");
        Check.due("no CISTERN", z.buckets(), Check.NONE);
        Check.due("carry(-1)", z.carry(-1), Check.BEYOND);
        Check.due("carry(4)", z.carry(4), Check.BEYOND);
        Check.due("carry(MAX)", z.carry(Integer.MAX_VALUE), Check.BEYOND);
        RainVault w = Check.vault("cistern high 3 level 2;cistern high 3 level 1;cistern high 1;lock 3 0 0;lock 3 1 0;lock 3 2 0");
        carried("all to the brim", w, 0, 1, 1, 2);
        RainVault v = new RainVault();
        for (int c = 0; c < 8; c++) {
            v.cistern(0, 1);
            if (c >= 4) {
                v.lock(3, c, 0);
            }
        }
        carried("the last of all ways", v, 4, 5, 6, 7);
    }

    // Promise 24
    private static void cloths() {
        RainVault x = Check.vault("cistern leak 0;cistern leak 0;cistern leak 0;lock 0 2 0;lock 1 0 1");
        String seen = Check.seen(x);
        Check.due("two are needed", x.cloths(0, 3, 2), 3);
        Check.same("after cloths()", Check.seen(x), seen);
        x.pick(1);
        Check.due("one is", x.cloths(0, 3, 2), 1);
        x.change(2, 5, 1);
        x.change(1, 5, 1);
        Check.due("these just have one", x.cloths(0, 3, 2), 1);
        Check.due("CLOTHS stay", x.of(2, 5) + x.of(1, 5), 2);
        x.pick(0);
        Check.due("none is", x.cloths(0, 3, 2), 0);
        Check.due("dry", x.cloths(0, 0, 1), 0);
        x.lock(3, 2, 0);
        x.lock(3, 1, 0);
        Check.due("none, though these have one", x.cloths(0, 5, 2), 0);
        x.lock(4, 1, 9);
        Check.due("none does", x.cloths(0, 5, 2), Check.NONE);
        RainVault y = Check.vault("cistern leak 0;cistern leak 0 to 0;cistern leak 0;cistern leak 0;lock 4 0 3;lock 1 1 2;lock 1 2 3");
        Check.due("fewest first: one of a high number", y.cloths(0, 3, 1), 1);
        RainVault z = Check.vault("cistern leak 0;cistern leak 0;cistern leak 0;cistern leak 0 to 0;lock 4 0 4");
        z.change(3, 2, 8);
        Check.due("0 alone", z.cloths(0, 3, 1), 1);
        z.change(0, 2, 3);
        Check.due("both", z.cloths(0, 3, 1), 9);
        z.change(0, 7, 0);
        Check.due("8 alone, before 3", z.cloths(0, 3, 1), 8);
    }

    // Promise 25
    private static void guard() {
        RainVault x = Check.vault("cistern level 10 leak 0 to 2;cistern level 10 leak 0 to 2;cistern leak 0;lock 3 2 0;cistern to 3");
        String seen = Check.seen(x);
        Check.due("either is enough", x.guard(0, 3, 2), Check.NONE);
        Check.due("it doesn't open anyhow", x.guard(0, 3, 1), Check.NONE);
        Check.due("both are wanted", x.guard(0, 4, 1), 0);
        x.change(0, 4, -1);
        Check.due("1 alone", x.guard(0, 5, 1), 1);
        Check.due("enough without", x.guard(0, 5, 2), Check.NONE);
        x.change(0, 4, 2);
        Check.same("after guard()", Check.seen(x), seen);
        Check.due("no CISTERNS", new RainVault().guard(0, 3, 1), Check.NONE);
    }

    // Promise 26
    private static void weak() {
        RainVault x = Check.vault("cistern;cistern level 8;cistern level 10;lock 3 1 0;lock 4 1 40;lock 0 0 7;lock 2 0 0");
        String seen = Check.seen(x);
        int findings = x.status(-1);
        Check.due("NONE becomes two", x.weak(), 4);
        Check.due("no finding", x.status(-1), findings);
        Check.same("after weak()", Check.seen(x), seen);
        x.pick(2);
        Check.due("two becomes none at all", x.weak(), 1);
        x.lock(0, 2, 1);
        Check.due("two become NONE, or the other way", x.weak(), 1 + 8);
        x.pick(3);
        x.lock(3, 1, 0);
        Check.due("the same twice: neither", x.weak(), 0);
        x.pick(3);
        x.lock(0, 7, 7);
        x.lock(0, 7, 7);
        Check.due("two by which there is none", x.weak(), 0);
        x.pick(4);
        Check.due("one by which there is none", x.weak(), 8);
        Check.due("no CONDITIONS", new RainVault().weak(), 0);
    }

    // Promise 27
    private static void leaks() {
        RainVault x = Check.vault("cistern level 6 leak 2 to 1;cistern leak 0");
        String seen = Check.seen(x);
        int[] one = {256, 128, 64, 32, 16, 8, 4, 2, 1};
        Check.due("with 9 none is left", x.leaks(0, 0, 3, 1, 0), 512);
        for (int v = 1; v <= 9; v++) {
            Check.due("one hour, " + v, x.leaks(0, 0, 3, 1, v), one[v - 1]);
        }
        Check.due("with 10: none", x.leaks(0, 0, 3, 1, 10), 0);
        Check.due("40", x.leaks(0, 0, 3, 1, 40), 0);
        Check.due("dry", x.leaks(0, 0, 0, 2, 0), 1023 - 7);
        Check.due("20 hours", x.leaks(0, 0, 2, 20, 0), 1023 - 7);
        Check.due("of one behind a GUTTER", x.leaks(1, 0, 4, 1, 3), 2);
        Check.same("after leaks()", Check.seen(x), seen);
        RainVault y = Check.vault("ice high 40;cistern");
        Check.due("ICE doesn't leak", y.leaks(0, 0, 2, 20, 40), 1023);
        int[][] beyond = {{-1, 0, 0, 1, 0}, {2, 0, 0, 1, 0}, {0, -1, 0, 1, 0}, {0, 4, 0, 1, 0}, {0, 0, -1, 1, 0},
            {0, 0, 10, 1, 0}, {0, 0, 0, 0, 0}, {0, 0, 0, 21, 0}, {0, 0, 0, 1, -1}, {0, 0, 0, 1, 41}};
        for (int[] r : beyond) {
            Check.due("leaks(" + r[0] + ", " + r[1] + ", " + r[2] + ", " + r[3] + ", " + r[4] + ")",
                y.leaks(r[0], r[1], r[2], r[3], r[4]), Check.BEYOND);
        }
    }

    // Promise 28
    private static void sides() {
        RainVault x = Check.vault("cistern leak 0 to 1;catch 0 0 1 2 3;lock 4 0 7;lock 0 0 1;cistern leak 0;catch 1 0 0 0 2");
        String seen = Check.seen(x);
        Check.due("SIDES 1, 2", x.sides(3, 1), 2 + 4);
        Check.due("SIDE 1", x.sides(3, 2), 2);
        Check.due("SIDES 1, 2, 3", x.sides(1, 2), 2 + 4 + 8);
        Check.due("none", x.sides(0, 20), 0);
        Check.same("after sides()", Check.seen(x), seen);
        Check.due("sides(-1, 1)", x.sides(-1, 1), Check.BEYOND);
        Check.due("sides(10, 1)", x.sides(10, 1), Check.BEYOND);
        Check.due("sides(0, 0)", x.sides(0, 0), Check.BEYOND);
        Check.due("sides(0, 21)", x.sides(0, 21), Check.BEYOND);
    }

    // Promises 24, 25
    private static void beyond() {
        RainVault x = Check.vault("cistern");
        int[][] beyond = {{-1, 0, 1}, {4, 0, 1}, {0, -1, 1}, {0, 10, 1}, {0, 0, 0}, {0, 0, 21}};
        for (int[] r : beyond) {
            Check.due("cloths(" + r[0] + ", " + r[1] + ", " + r[2] + ")", x.cloths(r[0], r[1], r[2]), Check.BEYOND);
            Check.due("guard(" + r[0] + ", " + r[1] + ", " + r[2] + ")", x.guard(r[0], r[1], r[2]), Check.BEYOND);
        }
        Check.due("cloths(3, 9, 20)", x.cloths(3, 9, 20), 0);
        Check.due("guard(3, 9, 20)", x.guard(3, 9, 20), Check.NONE);
    }

    // Promises 24, 25, 27, 28
    private static void late() {
        RainVault x = Check.lateVault(9980, "cistern");
        Check.due("cloths(0, 0, 20)", x.cloths(0, 0, 20), Check.STATE);
        Check.due("cloths(0, 0, 19)", x.cloths(0, 0, 19), 0);
        Check.due("guard(0, 0, 20)", x.guard(0, 0, 20), Check.STATE);
        Check.due("guard(0, 0, 19)", x.guard(0, 0, 19), Check.NONE);
        Check.due("leaks(0, 0, 0, 20, 0)", x.leaks(0, 0, 0, 20, 0), Check.STATE);
        Check.due("leaks(0, 0, 0, 20, 41)", x.leaks(0, 0, 0, 20, 41), Check.BEYOND);
        Check.due("leaks(0, 0, 0, 19, 0)", x.leaks(0, 0, 0, 19, 0), 1023);
        Check.due("sides(0, 20)", x.sides(0, 20), Check.STATE);
        Check.due("sides(0, 21)", x.sides(0, 21), Check.BEYOND);
        Check.due("sides(0, 19)", x.sides(0, 19), 15);
    }

    // Promise 29: draws worked out here in another way
    private static void cat() {
        RainVault x = new RainVault();
        Check.due("cat()", x.cat(), Check.STATE);
        Check.due("no draw", x.count(6), 1);
        RainVault y = Check.vault("cistern");
        Check.due("one CISTERN", y.cat(), 0);
        Check.due("to itself", y.of(0, 4), 0);
        Check.due("two draws", y.count(6), (1103515245 + 12345) * 1103515245 + 12345);
        for (int c = 0; c < 5; c++) {
            x.cistern(0, 10);
        }
        long z = 1;
        int[] gutters = {-1, -1, -1, -1, -1};
        for (int i = 0; i < 20; i++) {
            z = (z * 1103515245L + 12345L) & 0xffffffffL;
            int turned = (int) (z / 256 % 5);
            z = (z * 1103515245L + 12345L) & 0xffffffffL;
            int to = (int) (z / 256 % 5);
            gutters[turned] = to;
            Check.due("cat()", x.cat(), to);
            Check.due("z", x.count(6), (int) z);
            for (int c = 0; c < 5; c++) {
                Check.due("GUTTER", x.of(c, 4), gutters[c]);
            }
        }
    }

    // Promise 30
    private static void seed() {
        RainVault x = new RainVault();
        Check.due("seed(MIN)", x.seed(Integer.MIN_VALUE), 1);
        Check.due("seed(BEYOND)", x.seed(Check.BEYOND), Integer.MIN_VALUE);
        Check.due("count(6)", x.count(6), Check.BEYOND);
        Check.due("seed(7)", x.seed(7), Check.BEYOND);
        Check.due("no finding", x.status(-1), 0);
    }
}
