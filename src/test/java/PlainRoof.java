/**
 * A roof worked out anew from the document, in the plainest way: KINDS by a table each, every search by going through
 * all there is. What the class answers is held against it.
 */
final class PlainRoof {
    int cisterns = 0;
    int conditions = 0;
    boolean cold = false;
    int ranOff = 0;
    final int[] kind = new int[8];
    final int[] height = new int[8];
    final int[] level = new int[8];
    final int[] leak = new int[8];
    final int[] gutter = new int[8];
    final int[] cloth = new int[8];
    final int[][] catches = new int[8][4];
    final int[][] lock = new int[8][3];

    PlainRoof twin() {
        PlainRoof t = new PlainRoof();
        t.cisterns = cisterns;
        t.conditions = conditions;
        t.cold = cold;
        t.ranOff = ranOff;
        for (int c = 0; c < 8; c++) {
            t.kind[c] = kind[c];
            t.height[c] = height[c];
            t.level[c] = level[c];
            t.leak[c] = leak[c];
            t.gutter[c] = gutter[c];
            t.cloth[c] = cloth[c];
            t.catches[c] = catches[c].clone();
            t.lock[c] = lock[c].clone();
        }
        return t;
    }

    /** A new CISTERN, as at first but for its KIND and HEIGHT: its number. */
    int add(int itsKind, int itsHeight) {
        int c = cisterns++;
        kind[c] = itsKind;
        height[c] = itsHeight;
        level[c] = 0;
        leak[c] = 1;
        gutter[c] = -1;
        cloth[c] = 0;
        catches[c] = new int[] {1, 1, 1, 1};
        return c;
    }

    /** The same roof, built by calls of the class. */
    RainVault vault() {
        RainVault x = new RainVault();
        for (int c = 0; c < cisterns; c++) {
            x.cistern(kind[c], height[c]);
            x.change(c, 2, level[c]);
            x.change(c, 3, leak[c]);
            x.change(c, 4, gutter[c]);
            x.change(c, 5, cloth[c]);
            for (int side = 0; side < 4; side++) {
                x.change(c, 7 + side, catches[c][side]);
            }
        }
        for (int i = 0; i < conditions; i++) {
            x.lock(lock[i][0], lock[i][1], lock[i][2]);
        }
        x.cold(cold ? 1 : 0);
        return x;
    }

    int caught(int c, int side, int amount) {
        int full = cloth[c] == 1 ? 0 : amount * catches[c][side];
        int frozen = cold ? 0 : full;
        int[] byKind = {full, full, full / 2, full, full / 2, frozen, frozen};
        return byKind[kind[c]];
    }

    int leaked(int c) {
        int plain = Math.min(leak[c], level[c]);
        int[] byKind = {plain, plain, plain, plain, plain, cold ? 0 : plain, 0};
        return byKind[kind[c]];
    }

    int shown(int c) {
        int l = level[c];
        int[] byKind = {l, l, l, l < 3 ? 0 : l, height[c] - l, l, l};
        return byKind[kind[c]];
    }

    int over(int c) {
        int above = Math.max(0, level[c] - height[c]);
        int siphon = level[c] >= height[c] ? level[c] : 0;
        int[] byKind = {above, siphon, above, siphon, above, above, above};
        return byKind[kind[c]];
    }

    void hour(int side, int amount) {
        for (int c = 0; c < cisterns; c++) {
            level[c] += caught(c, side, amount);
        }
        for (int c = 0; c < cisterns; c++) {
            int water = over(c);
            level[c] -= water;
            if (gutter[c] >= 0 && gutter[c] < cisterns && gutter[c] != c) {
                level[gutter[c]] += water;
            } else {
                ranOff += water;
            }
        }
        for (int c = 0; c < cisterns; c++) {
            if (level[c] > height[c]) {
                ranOff += level[c] - height[c];
                level[c] = height[c];
            }
        }
        for (int c = 0; c < cisterns; c++) {
            level[c] -= leaked(c);
        }
    }

    PlainRoof behind(int side, int amount, int n) {
        PlainRoof t = twin();
        for (int i = 0; i < n; i++) {
            t.hour(side, amount);
        }
        return t;
    }

    /** In how many of n HOURS it is open as they end. */
    int opens(int side, int amount, int n) {
        PlainRoof t = twin();
        int opens = 0;
        for (int i = 0; i < n; i++) {
            t.hour(side, amount);
            opens += t.open() ? 1 : 0;
        }
        return opens;
    }

    int levels() {
        int all = 0;
        for (int c = 0; c < cisterns; c++) {
            all += level[c];
        }
        return all;
    }

    /** Behind a RAIN told by its number among all of n hours. */
    PlainRoof behindRain(int r, int n) {
        PlainRoof t = twin();
        for (int i = 0; i < n; i++) {
            int sign = sign(r, n, i);
            t.hour(sign == 0 ? 0 : sign - 1, sign == 0 ? 0 : 3);
        }
        return t;
    }

    static int rainsOf(int n) {
        return n == 0 ? 1 : 5 * rainsOf(n - 1);
    }

    static int sign(int r, int n, int i) {
        return r / rainsOf(n - 1 - i) % 5;
    }

    boolean holds(int i) {
        int sort = lock[i][0];
        int a = lock[i][1];
        int b = lock[i][2];
        if (a >= cisterns || sort <= 1 && b >= cisterns) {
            return false;
        }
        return sort == 0 && shown(a) > shown(b) || sort == 1 && shown(a) == shown(b) || sort == 2 && shown(a) == 0
            || sort == 3 && shown(a) == height[a] || sort == 4 && shown(a) < b;
    }

    boolean open() {
        for (int i = 0; i < conditions; i++) {
            if (!holds(i)) {
                return false;
            }
        }
        return true;
    }

    PlainRoof without(int condition) {
        PlainRoof t = twin();
        t.conditions--;
        for (int i = condition; i < t.conditions; i++) {
            t.lock[i] = t.lock[i + 1];
        }
        return t;
    }

    /** The least way of n buckets as a number of base 8 behind a 1, or -1. */
    int way(int n, int least, int soFar) {
        if (n == 0) {
            return open() ? soFar : -1;
        }
        for (int c = least; c < cisterns; c++) {
            if (level[c] < height[c]) {
                PlainRoof t = twin();
                t.level[c]++;
                int found = t.way(n - 1, c, soFar * 8 + c);
                if (found >= 0) {
                    return found;
                }
            }
        }
        return -1;
    }

    int buckets() {
        for (int n = 0; n <= 4; n++) {
            if (way(n, 0, 1) >= 0) {
                return n;
            }
        }
        return Check.NONE;
    }
}
