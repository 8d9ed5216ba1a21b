/** Many roofs, made by a fixed row of numbers: what the class finds is held against PlainRoof, which tries all. */
public final class SearchTest {
    private static final int ROOFS = 400;
    private static long last = 2026;

    public static void main(String[] args) {
        int opening = 0;
        int none = 0;
        for (int k = 0; k < ROOFS; k++) {
            PlainRoof roof = newRoof();
            RainVault x = roof.vault();
            String seen = Check.seen(x);
            now(roof, x);
            ahead(roof, x);
            rains(roof, x, k % 10 == 0 ? 4 : k % 4);
            heirs(roof, x);
            thieves(roof, x);
            Check.same("roof " + k, Check.seen(x), seen);
            hours(roof, x);
            opening += roof.buckets() > 0 ? 1 : 0;
            none += roof.buckets() == Check.NONE ? 1 : 0;
        }
        Check.due("roofs of every sort were tried", opening > ROOFS / 10 && none > ROOFS / 10 ? 1 : 0, 1);
        Check.end();
    }

    private static int next(int below) {
        last = last * 6364136223846793005L + 1442695040888963407L;
        return (int) ((last >>> 33) % below);
    }

    private static PlainRoof newRoof() {
        PlainRoof roof = new PlainRoof();
        roof.cisterns = 1 + next(8);
        roof.conditions = 1 + next(next(2) == 0 ? 2 : 5);
        roof.cold = next(3) == 0;
        for (int c = 0; c < roof.cisterns; c++) {
            roof.kind[c] = next(7);
            roof.height[c] = 1 + next(next(2) == 0 ? 8 : 40);
            roof.level[c] = next(roof.height[c] + 1);
            roof.leak[c] = next(4);
            roof.gutter[c] = next(3) == 0 ? next(9) - 1 : next(roof.cisterns);
            roof.cloth[c] = next(5) == 0 ? 1 : 0;
            for (int side = 0; side < 4; side++) {
                roof.catches[c][side] = next(next(3) == 0 ? 10 : 3);
            }
        }
        for (int i = 0; i < roof.conditions; i++) {
            roof.lock[i][0] = next(5);
            roof.lock[i][1] = next(20) == 0 ? next(8) : next(roof.cisterns);
            roof.lock[i][2] = roof.lock[i][0] == 4 ? next(41) : next(20) == 0 ? next(8) : next(roof.cisterns);
        }
        return roof;
    }

    private static void now(PlainRoof roof, RainVault x) {
        int holding = 0;
        for (int i = 0; i < roof.conditions; i++) {
            holding |= roof.holds(i) ? 1 << i : 0;
            Check.due("lockOf(" + i + ", 3)", x.lockOf(i, 3), roof.holds(i) ? 1 : 0);
        }
        Check.due("holding()", x.holding(), holding);
        Check.due("open()", x.open(), roof.open() ? 1 : 0);
        for (int c = 0; c < roof.cisterns; c++) {
            int side = next(4);
            int amount = next(10);
            Check.due("catches()", x.catches(c, side, amount), roof.caught(c, side, amount));
            Check.due("SHOWS", x.of(c, 6), roof.shown(c));
        }
    }

    private static void ahead(PlainRoof roof, RainVault x) {
        int side = next(4);
        int amount = next(10);
        int n = 1 + next(30);
        PlainRoof t = roof.twin();
        int opens = 0;
        int first = roof.open() ? 0 : -1;
        for (int i = 1; i <= n; i++) {
            t.hour(side, amount);
            opens += t.open() ? 1 : 0;
            first = first < 0 && t.open() ? i : first;
        }
        int all = 0;
        for (int c = 0; c < roof.cisterns; c++) {
            all += t.level[c];
            Check.due("ahead LEVEL", x.ahead(side, amount, n, 4 + c), t.level[c]);
        }
        Check.due("ahead 0", x.ahead(side, amount, n, 0), t.open() ? 1 : 0);
        Check.due("ahead 1", x.ahead(side, amount, n, 1), opens);
        Check.due("ahead 2", x.ahead(side, amount, n, 2), all);
        Check.due("ahead 3", x.ahead(side, amount, n, 3), t.ranOff);
        Check.due("when()", x.when(side, amount, n), first < 0 ? Check.NONE : first);
    }

    private static void rains(PlainRoof roof, RainVault x, int n) {
        int opening = 0;
        int first = -1;
        int fewest = n;
        int needed = 15;
        for (int r = 0; r < PlainRoof.rainsOf(n); r++) {
            if (!roof.behindRain(r, n).open()) {
                continue;
            }
            opening++;
            first = first < 0 ? r : first;
            int wet = 0;
            int sides = 0;
            for (int i = 0; i < n; i++) {
                int sign = PlainRoof.sign(r, n, i);
                wet += sign > 0 ? 1 : 0;
                sides |= sign > 0 ? 1 << sign - 1 : 0;
            }
            fewest = Math.min(fewest, wet);
            needed &= sides;
        }
        Check.due("rains(" + n + ")", x.rains(n), opening);
        Check.due("driest(" + n + ")", x.driest(n), opening == 0 ? Check.NONE : fewest);
        Check.due("needed(" + n + ")", x.needed(n), opening == 0 ? Check.NONE : needed);
        for (int i = 0; i < n; i++) {
            Check.due("first(" + n + ", " + i + ")", x.first(n, i), opening == 0 ? Check.NONE : PlainRoof.sign(first, n, i));
        }
        soonest(roof, x);
        rust(roof, x, n);
    }

    private static void soonest(PlainRoof roof, RainVault x) {
        int due = Check.NONE;
        for (int n = 0; n <= 5 && due < 0; n++) {
            for (int r = 0; r < PlainRoof.rainsOf(n) && due < 0; r++) {
                due = roof.behindRain(r, n).open() ? n : due;
            }
        }
        Check.due("soonest()", x.soonest(), due);
    }

    private static void rust(PlainRoof roof, RainVault x, int n) {
        PlainRoof seen = roof.behindRain(next(PlainRoof.rainsOf(n)), n);
        int numbers = 1 + next(roof.cisterns + 1);
        x.sheet(0, 8, numbers);
        for (int c = 0; c < roof.cisterns; c++) {
            x.write(0, c, seen.level[c]);
        }
        int due = 0;
        for (int r = 0; r < PlainRoof.rainsOf(n); r++) {
            PlainRoof t = roof.behindRain(r, n);
            boolean fits = true;
            for (int c = 0; c < Math.min(numbers, roof.cisterns); c++) {
                fits &= t.level[c] == seen.level[c];
            }
            due += fits ? 1 : 0;
        }
        int before = x.status(0);
        Check.due("rust(0, " + n + ")", x.rust(0, n), due);
        Check.due("no BEYOND", x.status(0), before);
    }

    private static void heirs(PlainRoof roof, RainVault x) {
        int buckets = roof.buckets();
        Check.due("buckets()", x.buckets(), buckets);
        int way = buckets > 0 ? roof.way(buckets, 0, 1) : 0;
        for (int i = 0; i < 4; i++) {
            int due = i < buckets ? way >> 3 * (buckets - 1 - i) & 7 : Check.NONE;
            Check.due("carry(" + i + ")", x.carry(i), due);
        }
        int weak = 0;
        for (int i = 0; i < roof.conditions; i++) {
            weak |= roof.without(i).buckets() != buckets ? 1 << i : 0;
        }
        Check.due("weak()", x.weak(), weak);
    }

    private static void thieves(PlainRoof roof, RainVault x) {
        int side = next(4);
        int amount = next(10);
        int n = 1 + next(6);
        int cloths = Check.NONE;
        for (int set = 0; set < 1 << roof.cisterns; set++) {
            PlainRoof t = roof.twin();
            for (int c = 0; c < roof.cisterns; c++) {
                t.cloth[c] = set >> c & 1;
            }
            boolean fewer = cloths < 0 || Integer.bitCount(set) < Integer.bitCount(cloths);
            cloths = fewer && t.behind(side, amount, n).open() ? set : cloths;
        }
        Check.due("cloths()", x.cloths(side, amount, n), cloths);
        int guard = Check.NONE;
        for (int c = roof.cisterns - 1; c >= 0 && roof.behind(side, amount, n).open(); c--) {
            PlainRoof t = roof.twin();
            t.gutter[c] = -1;
            guard = t.behind(side, amount, n).open() ? guard : c;
        }
        Check.due("guard()", x.guard(side, amount, n), guard);
        int seen = next(roof.cisterns);
        int v = roof.behind(side, amount, n).level[seen];
        int leaks = 0;
        for (int leak = 0; leak <= 9; leak++) {
            PlainRoof t = roof.twin();
            t.leak[seen] = leak;
            leaks |= t.behind(side, amount, n).level[seen] == v ? 1 << leak : 0;
        }
        Check.due("leaks()", x.leaks(seen, side, amount, n, v), leaks);
        int sides = 0;
        for (int s = 0; s < 4; s++) {
            sides |= roof.behind(s, amount, n).open() ? 1 << s : 0;
        }
        Check.due("sides()", x.sides(amount, n), sides);
    }

    /** Hours at last, for they change the roof; judge() is asked of the same hours ahead. */
    private static void hours(PlainRoof roof, RainVault x) {
        PlainRoof t = roof.twin();
        int n = 1 + next(12);
        int[] told = new int[n];
        x.sheet(1, 16, n);
        for (int i = 0; i < n; i++) {
            told[i] = next(40);
            x.write(1, i, told[i]);
            t.hour(told[i] / 10, told[i] % 10);
        }
        Check.due("judge(1)", x.judge(1), t.open() ? 0 : 1);
        PlainRoof u = roof.twin();
        for (int i = 0; i < n; i++) {
            u.hour(told[i] / 10, told[i] % 10);
            Check.due("rain()", x.rain(told[i] / 10, told[i] % 10, 1), u.open() ? 1 : 0);
            for (int c = 0; c < roof.cisterns; c++) {
                Check.due("LEVEL", x.of(c, 2), u.level[c]);
            }
        }
        Check.due("ran off", x.count(4), u.ranOff);
    }
}
