/** What the tests share: it counts wrong answers, and knows the findings and how a text is fed. */
final class Check {
    static final int BEYOND = -1000001;
    static final int FULL = -1000002;
    static final int KIND = -1000003;
    static final int NONE = -1000004;
    static final int STATE = -1000005;
    static final int MISSING = -1000006;
    static final int SIZE = -1000007;

    private static int wrong = 0;

    private Check() {
    }

    static void due(String call, long got, long want) {
        if (got != want) {
            wrong++;
            System.out.println(call + " answered " + got + ", due is " + want);
        }
    }

    static void same(String what, String got, String want) {
        if (!got.equals(want)) {
            wrong++;
            System.out.println(what + " is " + got + ", due is " + want);
        }
    }

    static void end() {
        System.out.println(wrong == 0 ? "all answers are as due" : wrong + " answers are not as due");
        if (wrong != 0) {
            System.exit(1);
        }
    }

    /** Feeds a text four bytes a call. */
    static void tape(RainVault x, String text) {
        for (int i = 0; i < text.length(); i += 4) {
            int n = Math.min(4, text.length() - i);
            int bytes = 0;
            for (int k = 0; k < n; k++) {
                bytes = bytes << 8 | text.charAt(i + k);
            }
            due("feed for " + text, x.feed(bytes, n), i + n);
        }
    }

    static int told(RainVault x, String text) {
        tape(x, text);
        return x.text();
    }

    /** A roof from a text that must be right; it is read item by item, so that it may be longer than THE TAPE. */
    static RainVault vault(String text) {
        RainVault x = new RainVault();
        tell(x, text);
        return x;
    }

    private static void tell(RainVault x, String text) {
        if (text.isEmpty()) {
            return;
        }
        for (String item : text.split(";")) {
            due("text() for " + item, told(x, item), 1);
        }
    }

    /** A vault whose HOUR is late; the roof is made afterwards, so that it stands as told. */
    static RainVault lateVault(int hour, String text) {
        RainVault x = new RainVault();
        for (int left = hour; left > 0; left -= 100) {
            x.rain(0, 0, Math.min(100, left));
        }
        due("late HOUR", x.count(0), hour);
        tell(x, text);
        return x;
    }

    /** All that can be seen of a vault but status() and what only the draws to come tell. */
    static String seen(RainVault x) {
        StringBuilder all = new StringBuilder();
        for (int what = 0; what <= 7; what++) {
            all.append(x.count(what)).append(' ');
        }
        int cisterns = x.count(1);
        for (int c = 0; c < cisterns; c++) {
            for (int what = 0; what <= 10; what++) {
                all.append(what == 0 ? "| " : "").append(x.of(c, what)).append(' ');
            }
        }
        int conditions = x.count(2);
        for (int i = 0; i < conditions; i++) {
            for (int what = 0; what <= 2; what++) {
                all.append(what == 0 ? "& " : "").append(x.lockOf(i, what)).append(' ');
            }
        }
        for (int spot = 0; spot < 10; spot++) {
            all.append(x.as(spot, 0)).append(' ');
        }
        int wasCold = x.cold(0);
        x.cold(wasCold);
        return all.append(wasCold).toString();
    }
}
