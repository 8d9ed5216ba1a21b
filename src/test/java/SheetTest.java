/** Promises 34 to 41: spots and sheets. */
public final class SheetTest {
    public static void main(String[] args) {
        hold();
        as();
        sheet();
        write();
        copy();
        load();
        rust();
        judge();
        late();
        Check.end();
    }

    private static void fill(RainVault x, int s, int bits, int... numbers) {
        Check.due("sheet()", x.sheet(s, bits, numbers.length), numbers.length);
        for (int i = 0; i < numbers.length; i++) {
            Check.due("write()", x.write(s, i, numbers[i]), 1);
        }
    }

    /** What number i of a sheet is, told by LEVEL of a CISTERN of HEIGHT 40: -1, if it isn't 0 to 40. */
    private static int numberOf(RainVault x, int s, int i) {
        Check.due("room for one number", x.sheet(3, bitsOf(x, s), 1), 1);
        Check.due("copy()", x.copy(s, i, 3, 0, 1), 1);
        return x.load(3) == 1 ? x.of(0, 2) : -1;
    }

    private static int bitsOf(RainVault x, int s) {
        for (int bits = 8; bits < 32; bits *= 2) {
            x.sheet(3, bits, 0);
            if (x.copy(s, 0, 3, 0, 0) == 0) {
                return bits;
            }
        }
        return 32;
    }

    private static void numbers(String what, RainVault x, int s, int... due) {
        for (int i = 0; i < due.length; i++) {
            Check.due(what + ": number " + i, numberOf(x, s, i), due[i]);
        }
    }

    private static RainVault gauge() {
        return Check.vault("cistern high 40");
    }

    // Promise 34
    private static void hold() {
        RainVault x = Check.vault("ice;siphon");
        Check.due("hold(-1, 0)", x.hold(-1, 0), Check.BEYOND);
        Check.due("hold(10, 0)", x.hold(10, 0), Check.BEYOND);
        Check.due("hold(0, 2)", x.hold(0, 2), Check.BEYOND);
        Check.due("hold(0, -2)", x.hold(0, -2), Check.BEYOND);
        Check.due("hold(0, 1)", x.hold(0, 1), 1);
        Check.due("hold(9, 0)", x.hold(9, 0), 1);
        Check.due("hold(5, -1)", x.hold(5, -1), 1);
        Check.due("count(7)", x.count(7), 2);
        Check.due("as(0, 0)", x.as(0, 0), 1);
        Check.due("as(9, 0)", x.as(9, 0), 0);
        Check.due("another", x.hold(0, 0), 1);
        Check.due("as(0, 0)", x.as(0, 0), 0);
        Check.due("nothing", x.hold(0, -1), 1);
        Check.due("as(0, 0)", x.as(0, 0), Check.MISSING);
        Check.due("count(7)", x.count(7), 1);
    }

    // Promise 35
    private static void as() {
        RainVault x = Check.vault("cistern;siphon;slow;tipped;false;frozen;ice");
        int[] kindsOf = {1, 1 + 2, 1 + 4, 1 + 2 + 8, 1 + 4 + 16, 1 + 32, 1 + 32 + 64};
        for (int c = 0; c < 7; c++) {
            x.hold(c, c);
            for (int kind = 0; kind < 7; kind++) {
                int due = (kindsOf[c] >> kind & 1) == 1 ? c : Check.KIND;
                Check.due("as(" + c + ", " + kind + ")", x.as(c, kind), due);
            }
        }
        Check.due("as(-1, 0)", x.as(-1, 0), Check.BEYOND);
        Check.due("as(10, 0)", x.as(10, 0), Check.BEYOND);
        Check.due("as(0, -1)", x.as(0, -1), Check.BEYOND);
        Check.due("as(0, 7)", x.as(0, 7), Check.BEYOND);
        Check.due("as(9, 7)", x.as(9, 7), Check.BEYOND);
        Check.due("as(9, 1)", x.as(9, 1), Check.MISSING);
        x.change(0, 0, 6);
        Check.due("its KIND now", x.as(0, 5), 0);
    }

    // Promise 36
    private static void sheet() {
        RainVault x = gauge();
        int[] none = {-1, 4, Integer.MAX_VALUE};
        for (int s : none) {
            Check.due("sheet(" + s + ", 8, 1)", x.sheet(s, 8, 1), Check.BEYOND);
            Check.due("sheet(" + s + ", 8, -1)", x.sheet(s, 8, -1), Check.BEYOND);
        }
        int[] bits = {-8, 1, 7, 9, 24, 33, 64};
        for (int b : bits) {
            Check.due("sheet(0, " + b + ", -1)", x.sheet(0, b, -1), Check.BEYOND);
        }
        int[] right = {0, 8, 16, 32};
        for (int b : right) {
            Check.due("n -1", x.sheet(0, b, -1), Check.SIZE);
            Check.due("n MIN", x.sheet(0, b, Integer.MIN_VALUE), Check.SIZE);
            Check.due("n 41", x.sheet(0, b, 41), Check.BEYOND);
            Check.due("n 40", x.sheet(0, b, 40), b == 0 ? 0 : 40);
            Check.due("n 0", x.sheet(0, b, 0), 0);
        }
        fill(x, 2, 8, 5, 6);
        Check.due("of other bits: all 0", x.sheet(2, 16, 2), 2);
        numbers("all 0", x, 2, 0, 0);
        fill(x, 2, 16, 5, 6);
        Check.due("SIZE", x.sheet(2, 8, -1), Check.SIZE);
        numbers("it stays", x, 2, 5, 6);
        Check.due("the same again: all 0", x.sheet(2, 16, 2), 2);
        numbers("all 0", x, 2, 0, 0);
        Check.due("MISSING", x.sheet(2, 0, 2), 0);
        Check.due("write()", x.write(2, 0, 0), Check.MISSING);
    }

    // Promise 37
    private static void write() {
        RainVault x = gauge();
        Check.due("write(-1, 0, 0)", x.write(-1, 0, 0), Check.BEYOND);
        Check.due("write(4, 0, 0)", x.write(4, 0, 0), Check.BEYOND);
        Check.due("write(0, -1, 0)", x.write(0, -1, 0), Check.MISSING);
        fill(x, 0, 8, 7, 255, 256 + 9, -1, 128, 40, -256, 0x10000 + 3);
        numbers("of 8 bits", x, 0, 7, -1, 9, -1, -1, 40, 0, 3);
        fill(x, 1, 16, 7, 255, 65535, 65536 + 9, 32768, -65536 + 4, 256, 0x1000000 + 3);
        numbers("of 16 bits", x, 1, 7, -1, -1, 9, -1, 4, -1, 3);
        fill(x, 2, 32, 7, 65536, -1, Integer.MIN_VALUE, 40, 41);
        numbers("of 32 bits", x, 2, 7, -1, -1, -1, 40, -1);
        Check.due("write(0, 8, 0)", x.write(0, 8, 0), Check.BEYOND);
        Check.due("write(0, -1, 0)", x.write(0, -1, 0), Check.BEYOND);
        Check.due("write(0, 7, 1)", x.write(0, 7, 1), 1);
        x.sheet(0, 8, 40);
        Check.due("write(0, 39, 1)", x.write(0, 39, 1), 1);
        Check.due("write(0, 40, 1)", x.write(0, 40, 1), Check.BEYOND);
        x.sheet(0, 8, 0);
        Check.due("an empty one", x.write(0, 0, 1), Check.BEYOND);
    }

    // Promise 38
    private static void copy() {
        RainVault x = gauge();
        fill(x, 0, 8, 1, 2, 3, 4, 5, 6);
        fill(x, 1, 8, 11, 12, 13, 14);
        Check.due("copy(0, 1, 1, 2, 2)", x.copy(0, 1, 1, 2, 2), 2);
        numbers("to another", x, 1, 11, 12, 2, 3);
        numbers("from it", x, 0, 1, 2, 3, 4, 5, 6);
        Check.due("copy(0, 0, 0, 2, 4)", x.copy(0, 0, 0, 2, 4), 4);
        numbers("up", x, 0, 1, 2, 1, 2, 3, 4);
        Check.due("copy(0, 1, 0, 0, 5)", x.copy(0, 1, 0, 0, 5), 5);
        numbers("down", x, 0, 2, 1, 2, 3, 4, 4);
        Check.due("none", x.copy(0, 6, 1, 4, 0), 0);
        int[][] beyond = {{0, 0, 1, 0, 5}, {1, 0, 0, 3, 4}, {0, 3, 1, 0, 4}, {0, -1, 1, 0, 1}, {0, 0, 1, -1, 1},
            {0, 0, 1, 0, -1}, {0, 7, 1, 0, 0}, {0, 0, 1, 5, 0}, {0, Integer.MAX_VALUE, 1, 0, 1},
            {0, 0, 1, Integer.MAX_VALUE, 1}, {0, 1, 1, 0, Integer.MAX_VALUE}, {0, Integer.MIN_VALUE, 1, 0, Integer.MIN_VALUE},
            {-1, 0, 1, 0, 1}, {0, 0, 4, 0, 1}, {4, 0, 2, 0, 1}};
        for (int[] r : beyond) {
            Check.due("copy(" + r[0] + ", " + r[1] + ", " + r[2] + ", " + r[3] + ", " + r[4] + ")",
                x.copy(r[0], r[1], r[2], r[3], r[4]), Check.BEYOND);
        }
        numbers("it stays", x, 0, 2, 1, 2, 3, 4, 4);
        numbers("it stays", x, 1, 11, 12, 2, 3);
        Check.due("one is MISSING", x.copy(0, 9, 2, 0, 1), Check.MISSING);
        Check.due("the other is", x.copy(2, 0, 0, 9, -1), Check.MISSING);
        x.sheet(2, 16, 40);
        Check.due("other bits", x.copy(0, 9, 2, 0, 1), Check.KIND);
        Check.due("other bits", x.copy(2, -1, 0, 0, 1), Check.KIND);
        x.sheet(0, 16, 40);
        Check.due("all", x.copy(0, 0, 2, 0, 40), 40);
        Check.due("one more", x.copy(0, 0, 2, 0, 41), Check.BEYOND);
    }

    // Promise 39
    private static void load() {
        RainVault x = Check.vault("cistern level 9;cistern high 5;cistern level 3");
        Check.due("load(-1)", x.load(-1), Check.BEYOND);
        Check.due("load(4)", x.load(4), Check.BEYOND);
        Check.due("load(0)", x.load(0), Check.MISSING);
        fill(x, 0, 8, 10, 5);
        Check.due("two", x.load(0), 2);
        Check.due("LEVELS", x.of(0, 2) * 10000 + x.of(1, 2) * 100 + x.of(2, 2), 100503);
        fill(x, 0, 16, 1, 6, 2);
        Check.due("above HEIGHT", x.load(0), 1);
        Check.due("LEVELS", x.of(0, 2) * 10000 + x.of(1, 2) * 100 + x.of(2, 2), 10503);
        fill(x, 0, 32, 0, 0, -1);
        Check.due("below 0", x.load(0), 2);
        Check.due("LEVELS", x.of(0, 2) * 10000 + x.of(1, 2) * 100 + x.of(2, 2), 3);
        fill(x, 0, 32, 4, 4, 4, 4, 4);
        Check.due("no CISTERN more", x.load(0), 3);
        Check.due("LEVELS", x.count(3), 12);
        x.sheet(0, 8, 0);
        Check.due("none", x.load(0), 0);
        Check.due("not even one", new RainVault().load(0), Check.MISSING);
    }

    // Promise 40
    private static void rust() {
        RainVault x = Check.vault("cistern leak 0;cistern leak 0;catch 0 1 0 0 2;catch 1 0 1 0 0");
        String seen = Check.seen(x);
        Check.due("rust(-1, 1)", x.rust(-1, 1), Check.BEYOND);
        Check.due("rust(4, 1)", x.rust(4, 1), Check.BEYOND);
        Check.due("rust(0, 6)", x.rust(0, 6), Check.MISSING);
        fill(x, 0, 8, 6);
        Check.due("rust(0, 6)", x.rust(0, 6), Check.BEYOND);
        Check.due("rust(0, -1)", x.rust(0, -1), Check.BEYOND);
        Check.due("rust(0, 0)", x.rust(0, 0), 0);
        Check.due("rust(0, 1)", x.rust(0, 1), 1);
        Check.due("rust(0, 2)", x.rust(0, 2), 1 + 6);
        fill(x, 0, 8, 6, 3);
        Check.due("two numbers", x.rust(0, 2), 2);
        Check.due("two numbers", x.rust(0, 3), 3 + 3 * 2 * 2);
        fill(x, 0, 8, 6, 3, 99);
        Check.due("more than there are CISTERNS", x.rust(0, 2), 2);
        x.sheet(0, 8, 0);
        Check.due("no numbers", x.rust(0, 5), 3125);
        x.sheet(0, 8, 2);
        Check.due("as it is", x.rust(0, 0), 1);
        Check.same("after rust()", Check.seen(x), seen);
    }

    // Promise 41
    private static void judge() {
        RainVault x = Check.vault("cistern leak 0;catch 0 1 0 0 2;lock 3 0 0");
        String seen = Check.seen(x);
        Check.due("judge(-1)", x.judge(-1), Check.BEYOND);
        Check.due("judge(4)", x.judge(4), Check.BEYOND);
        Check.due("judge(0)", x.judge(0), Check.MISSING);
        fill(x, 0, 8, 9, 1);
        Check.due("OPEN", x.judge(0), 0);
        fill(x, 0, 8, 9, 10);
        Check.due("not OPEN", x.judge(0), 1);
        fill(x, 0, 8, 32, 19, 33);
        Check.due("from SIDE 3", x.judge(0), 0);
        fill(x, 0, 8, 39);
        Check.due("39", x.judge(0), 0);
        fill(x, 0, 8, 40);
        Check.due("40", x.judge(0), 2);
        fill(x, 0, 8, 39, 9, -1, 77);
        Check.due("-1", x.judge(0), 4);
        x.sheet(0, 8, 40);
        x.write(0, 39, 40);
        Check.due("the last", x.judge(0), 41);
        x.sheet(0, 8, 0);
        Check.due("no hours", x.judge(0), 1);
        x.change(0, 2, 10);
        Check.due("no hours", x.judge(0), 0);
        x.change(0, 2, 0);
        Check.same("after judge()", Check.seen(x), seen);
    }

    // Promises 40, 41
    private static void late() {
        RainVault x = Check.lateVault(9996, "");
        x.sheet(0, 8, 4);
        x.write(0, 0, 40);
        Check.due("judge(0)", x.judge(0), Check.STATE);
        x.sheet(0, 8, 3);
        Check.due("judge(0)", x.judge(0), 0);
        Check.due("rust(0, 4)", x.rust(0, 4), Check.STATE);
        Check.due("rust(0, 6)", x.rust(0, 6), Check.BEYOND);
        Check.due("rust(0, 3)", x.rust(0, 3), 125);
    }
}
