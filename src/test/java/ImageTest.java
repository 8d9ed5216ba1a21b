/** Promises 42 to 46: images. */
public final class ImageTest {
    public static void main(String[] args) {
        allIsKept();
        latest();
        tear();
        count();
        status();
        Check.end();
    }

    private static RainVault full() {
        RainVault x = Check.vault("siphon level 9 to 1;ice high 20;lock 0 1 0;lock 4 1 40;cold");
        x.hold(3, 1);
        x.seed(5);
        x.rain(0, 7, 3);
        return x;
    }

    // Promises 42, 43
    private static void allIsKept() {
        RainVault x = full();
        String seen = Check.seen(x);
        Check.due("image()", x.image(), 1);
        Check.same("after image()", Check.seen(x), seen);
        x.sheet(1, 8, 5);
        x.weather(9);
        x.cat();
        Check.due("more", Check.told(x, "slow;frozen;warm;catch 0 5 5 5 5;lock 2 0 0"), 5);
        x.pick(0);
        x.pick(0);
        x.hold(0, 3);
        x.hold(3, -1);
        for (int what = 0; what <= 10; what++) {
            x.change(1, what, what == 2 ? 0 : 1);
        }
        Check.tape(x, "ice;");
        int findings = x.status(-1);
        Check.due("undo()", x.undo(), 3);
        Check.due("THE TAPE stays", x.wipe(), 4);
        Check.same("after undo()", Check.seen(x), seen);
        Check.due("SHEETS stay", x.copy(1, 0, 1, 0, 5), 5);
        Check.due("status() stays", x.status(-1) > findings ? 1 : 0, 1);
        x.change(0, 1, 40);
        x.lock(1, 1, 1);
        x.rain(0, 9, 2);
        Check.due("it stays", x.undo(), 3);
        Check.same("after undo() again", Check.seen(x), seen);
    }

    // Promises 42, 43
    private static void latest() {
        RainVault x = new RainVault();
        x.image();
        x.cistern(0, 10);
        x.hold(0, 0);
        x.rain(0, 1, 1);
        x.image();
        x.cistern(0, 10);
        x.rain(0, 1, 1);
        Check.due("undo()", x.undo(), 1);
        Check.due("CISTERNS", x.count(1), 1);
        Check.due("undo()", x.undo(), 1);
        RainVault y = new RainVault();
        y.image();
        y.cistern(0, 10);
        y.hold(0, 0);
        y.lock(2, 0, 0);
        Check.due("undo()", y.undo(), 0);
        Check.due("no CISTERN", y.of(0, 0), Check.BEYOND);
        Check.due("no CONDITION", y.lockOf(0, 0), Check.BEYOND);
        Check.due("the SPOT holds nothing", y.as(0, 0), Check.MISSING);
        y.cistern(3, 5);
        Check.due("a new one is as at first", y.of(0, 7) + y.of(0, 3), 2);
    }

    // Promises 43, 44
    private static void tear() {
        RainVault x = new RainVault();
        Check.due("tear()", x.tear(), 0);
        x.image();
        x.image();
        x.cistern(0, 10);
        Check.due("tear()", x.tear(), 1);
        Check.due("tear()", x.tear(), 0);
        Check.due("undo()", x.undo(), Check.NONE);
        Check.due("CISTERNS", x.count(1), 1);
        x.image();
        x.cistern(0, 10);
        Check.due("undo()", x.undo(), 0);
        Check.due("CISTERNS", x.count(1), 1);
    }

    // Promise 45
    private static void count() {
        RainVault x = full();
        Check.tape(x, "slow;");
        int[] due = {3, 2, 2, x.of(0, 2) + x.of(1, 2), 9, 5, 5, 1};
        for (int what = 0; what < due.length; what++) {
            Check.due("count(" + what + ")", x.count(what), due[what]);
        }
        Check.due("count(-1)", x.count(-1), Check.BEYOND);
        Check.due("count(8)", x.count(8), Check.BEYOND);
    }

    // Promise 46
    private static void status() {
        RainVault x = new RainVault();
        int[] due = new int[7];
        expect(x, due);
        x.of(0, 0);
        due[0]++;
        expect(x, due);
        Check.due("status(7)", x.status(7), Check.BEYOND);
        Check.due("status(-2)", x.status(-2), Check.BEYOND);
        due[0] += 2;
        expect(x, due);
        x.seed(Check.FULL);
        x.count(6);
        x.seed(1);
        x.text();
        expect(x, due);
        for (int i = 0; i < 9; i++) {
            x.cistern(4, 10);
        }
        due[1]++;
        x.hold(0, 0);
        x.as(0, 1);
        due[2]++;
        x.image();
        x.lock(0, 0, 0);
        x.buckets();
        x.carry(0);
        x.soonest();
        x.weak();
        due[3] += 3;
        x.as(1, 0);
        x.load(0);
        due[5] += 2;
        x.sheet(0, 8, -1);
        due[6]++;
        expect(x, due);
        Check.due("undo()", x.undo(), 0);
        expect(x, due);
        x.tear();
        x.undo();
        due[3]++;
        expect(x, due);
        RainVault y = new RainVault();
        y.cat();
        Check.due("STATE", y.status(4), 1);
    }

    private static void expect(RainVault x, int[] due) {
        int all = 0;
        for (int which = 0; which < 7; which++) {
            Check.due("status(" + which + ")", x.status(which), due[which]);
            all += due[which];
        }
        Check.due("status(-1)", x.status(-1), all);
    }
}
