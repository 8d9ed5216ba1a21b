import java.lang.reflect.InvocationTargetException;
import java.lang.reflect.Method;
import java.lang.reflect.Modifier;
import java.util.HashMap;
import java.util.Map;
import java.util.TreeMap;

/**
 * Long runs of any calls in any order on one object, up to the 512th: each answer is held against PlainVault's. The last
 * calls of a run look at all that can be told. Arguments are mostly such as can be, else just beyond or far off.
 */
public final class RunsTest {
    private static final int CALLS = 512;
    private static final int CALLS_OF_A_LOOK = 160;
    /** How often calls are made, and what their arguments are; letters are told in argument(). */
    private static final String[] KINDS_OF_CALLS = {"6 cistern k h", "6 of c w", "24 change c w v", "2 cold b", "3 catches c s a", "3 below c",
        "5 lock o 7 j", "3 lockOf i 3", "4 pick i", "2 holding", "3 open", "8 rain s a n", "3 weather n", "5 ahead s a n A", "4 when s a n", "2 rains 5",
        "4 first 5 4", "2 driest 5", "2 soonest", "2 needed 5", "3 buckets", "8 carry 1", "3 cloths s a t", "8 guard s a t", "2 weak", "3 leaks c s a t v",
        "3 sides a t", "3 cat", "2 seed z", "1 feed z 4", "1 wipe", "1 text", "4 hold p c", "4 as p k", "4 sheet S B N", "8 write S N v",
        "9 copy S N S N N", "4 load S", "2 rust S 5", "4 judge S", "2 image", "2 undo", "1 tear", "3 count 7", "3 status 6"};
    private static final String[] WORDS = {"cistern", "siphon", "slow", "tipped", "false", "frozen", "ice", "high", "level", "leak", "to", "catch",
        "lock", "cold", "warm", ";"};
    private static final Map<String, Method> CLASS = calls(RainVault.class);
    private static final Map<String, Method> PLAIN = calls(PlainVault.class);
    private static final Map<String, Integer> ANSWERED = new TreeMap<>();
    private static long last;

    private final RainVault x = new RainVault();
    private final PlainVault plain = new PlainVault();
    private final StringBuilder said = new StringBuilder();
    private int made = 0;
    private boolean isWrong = false;

    public static void main(String[] args) {
        int runs = args.length > 0 ? Integer.parseInt(args[0]) : 150;
        last = args.length > 1 ? Long.parseLong(args[1]) : 9;
        for (int k = 0; k < runs; k++) {
            new RunsTest().run(k);
        }
        for (String kind : KINDS_OF_CALLS) {
            String name = kind.split(" ")[1];
            Check.due(name + "() answered more than findings", ANSWERED.getOrDefault(name, 0) > 0 ? 1 : 0, 1);
        }
        Check.end();
    }

    private static Map<String, Method> calls(Class<?> type) {
        Map<String, Method> calls = new HashMap<>();
        for (Method m : type.getDeclaredMethods()) {
            if (!Modifier.isPrivate(m.getModifiers())) {
                calls.put(m.getName(), m);
            }
        }
        return calls;
    }

    private static int next(int below) {
        last = last * 6364136223846793005L + 1442695040888963407L;
        return (int) ((last >>> 33) % below);
    }

    private void run(int k) {
        boolean isLate = k % 10 == 9;
        for (int i = 0; isLate && i < 99; i++) {
            call("rain", 0, next(10), 100);
        }
        if (isLate) {
            call("rain", 0, next(10), 80 + next(21));
        }
        begin(next(7));
        while (made < CALLS - CALLS_OF_A_LOOK && !isWrong) {
            if (next(60) == 0) {
                tell(newText());
            } else {
                any();
            }
        }
        look();
    }

    /** A roof of which much may be asked: nearly full, with gutters and a lock. */
    private void begin(int many) {
        for (int c = 0; c < many; c++) {
            int height = 3 + next(9);
            call("cistern", next(7), height);
            call("change", c, 2, height - next(3));
            call("change", c, 4, next(many));
        }
        for (int i = next(3); i > 0; i--) {
            call("lock", next(5), next(1 + many), next(1 + many));
        }
    }

    private void call(String name, int... given) {
        if (isWrong || made >= CALLS) {
            return;
        }
        made++;
        Object[] arguments = new Object[given.length];
        StringBuilder row = new StringBuilder(name).append('(');
        for (int i = 0; i < given.length; i++) {
            arguments[i] = given[i];
            row.append(i == 0 ? "" : ", ").append(given[i]);
        }
        row.append(')');
        said.append(row).append(' ');
        int got = answer(CLASS.get(name), x, arguments);
        int want = answer(PLAIN.get(name), plain, arguments);
        ANSWERED.merge(name, got > -1000000 ? 1 : 0, Integer::sum);
        if (got != want) {
            isWrong = true;
            Check.due(row + " behind " + said, got, want);
        }
    }

    private static int answer(Method m, Object on, Object[] arguments) {
        try {
            return (Integer) m.invoke(on, arguments);
        } catch (InvocationTargetException | IllegalAccessException thrown) {
            throw new IllegalStateException(m.getName() + "() threw", thrown);
        }
    }

    private void any() {
        int all = 0;
        for (String kind : KINDS_OF_CALLS) {
            all += weight(kind);
        }
        int at = next(all);
        for (String kind : KINDS_OF_CALLS) {
            at -= weight(kind);
            if (at < 0) {
                String[] parts = kind.split(" ");
                int[] given = new int[parts.length - 2];
                for (int i = 0; i < given.length; i++) {
                    given[i] = argument(parts[i + 2].charAt(0));
                }
                call(parts[1], given);
                return;
            }
        }
    }

    private static int weight(String kind) {
        return Integer.parseInt(kind.substring(0, kind.indexOf(' ')));
    }

    private int argument(char letter) {
        int[] far = {-2, 8, 11, 21, 41, 101, 10000, Integer.MAX_VALUE, Integer.MIN_VALUE, -1000001};
        int way = next(60);
        if (way == 0) {
            return far[next(far.length)];
        }
        int beyond = way == 1 ? -1 : way == 2 ? 1 : 0;
        int many = plain.count(1);
        switch (letter) {
            case 'k': return upTo(6, beyond);
            case 'h': return 1 + upTo(next(2) == 0 ? 39 : 9, beyond);
            case 'c': return many > 0 && next(20) > 0 ? upTo(many - 1, beyond) : -1 + next(10);
            case 'w': return upTo(10, beyond);
            case 'v': return next(3) == 0 ? upTo(40, beyond) : -1 + next(11);
            case 'b': return upTo(1, beyond);
            case 's': return upTo(3, beyond);
            case 'a': return upTo(9, beyond);
            case 'o': return upTo(4, beyond);
            case 'j': return next(3) == 0 ? upTo(40, beyond) : next(8);
            case 'i': return next(1 + Math.max(1, plain.count(2))) + beyond;
            case 'n': return next(12) == 0 ? 100 + beyond : next(14);
            case 't': return next(8) == 0 ? 20 + beyond : 1 + next(6);
            case 'A': return next(5 + many) + beyond;
            case '5': return next(12) == 0 ? 5 + beyond : upTo(3, beyond);
            case 'z': return next(3) == 0 ? next(100) : next(1 << 30) * 4 + next(4);
            case 'p': return next(6) == 0 ? upTo(9, beyond) : next(3);
            case 'S': return next(3) == 0 ? upTo(3, beyond) : next(2);
            case 'B': return next(15) == 0 ? next(34) : next(10) == 0 ? 0 : 8 << next(next(2) + 1) + next(2);
            case 'N': return next(12) == 0 ? 40 + beyond : -1 + next(10);
            default: return upTo(letter - '0', beyond);
        }
    }

    /** 0 to most; with beyond -1 or 1 the number just outside. */
    private static int upTo(int most, int beyond) {
        return beyond < 0 ? -1 : beyond > 0 ? most + 1 : next(most + 1);
    }

    private void tell(String text) {
        for (int i = 0; i < text.length(); i += 4) {
            int n = Math.min(4, text.length() - i);
            int bytes = next(256);
            for (int k = 0; k < n; k++) {
                bytes = bytes << 8 | text.charAt(i + k);
            }
            call("feed", bytes, n);
        }
        call("text");
    }

    private static String newText() {
        StringBuilder text = new StringBuilder();
        int items = 1 + next(5);
        for (int i = 0; i < items; i++) {
            text.append(i == 0 ? blanks(0) : blanks(0) + ";" + blanks(0)).append(newItem());
        }
        text.append(blanks(0));
        for (int change = next(3) == 0 ? 1 + next(2) : 0; change > 0; change--) {
            spoil(text);
        }
        return text.substring(0, Math.min(text.length(), next(10) == 0 ? 110 + next(11) : 120));
    }

    private static String blanks(int least) {
        return " ".repeat(least + (next(4) == 0 ? 1 + next(2) : 0));
    }

    private static String newItem() {
        int way = next(8);
        if (way == 0) {
            return next(2) == 0 ? "cold" : "warm";
        }
        if (way < 3) {
            return "catch" + number(next(6), 9) + number(9, 9) + number(9, 10) + number(9, 9) + number(9, 9);
        }
        if (way < 5) {
            int sort = next(5);
            return "lock" + number(sort, sort) + number(7, 8) + (sort == 4 ? number(40, 41) : number(7, 8));
        }
        int height = 1 + next(40);
        String item = WORDS[next(7)];
        item += next(2) == 0 ? blanks(1) + "high" + blanks(1) + height : "";
        item += next(2) == 0 ? blanks(1) + "level" + number(item.contains("high") ? height : 10, 11) : "";
        item += next(2) == 0 ? blanks(1) + "leak" + number(9, 10) : "";
        return item + (next(2) == 0 ? blanks(1) + "to" + number(7, 8) : "");
    }

    /** A NUMBER 0 to most, now and then the one beyond, or with zeros ahead. */
    private static String number(int most, int beyond) {
        int v = next(15) == 0 ? beyond : next(20) == 0 ? most : next(most + 1);
        return blanks(next(12) == 0 ? 0 : 1) + (next(15) == 0 ? "0" : "") + v;
    }

    private static void spoil(StringBuilder text) {
        int place = next(text.length());
        switch (next(6)) {
            case 0:
                text.deleteCharAt(place);
                break;
            case 1:
                text.setCharAt(place, (char) next(256));
                break;
            case 2:
                text.insert(place, " " + WORDS[next(WORDS.length)] + " ");
                break;
            case 3:
                text.insert(place, next(1100));
                break;
            case 4:
                text.setLength(place + 1);
                break;
            default:
                text.insert(place, next(2) == 0 ? ';' : ' ');
        }
    }

    /** All that can be told, for a difference may have been left by a call that answered right. */
    private void look() {
        for (int what = 0; what <= 7; what++) {
            call("count", what);
        }
        for (int c = 0; c < 8; c++) {
            for (int what = 0; what <= 10 && c < plain.count(1); what++) {
                call("of", c, what);
            }
        }
        for (int i = 0; i < 8; i++) {
            for (int what = 0; what < 3 && i < plain.count(2); what++) {
                call("lockOf", i, what);
            }
        }
        for (int spot = 0; spot < 10; spot++) {
            call("as", spot, 0);
        }
        call("judge", 0);
        call("load", 0);
        call("judge", 1);
        call("load", 1);
        call("undo");
        for (int which = -1; which <= 6; which++) {
            call("status", which);
        }
        while (made < CALLS && !isWrong) {
            any();
        }
    }
}
