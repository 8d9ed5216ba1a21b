import java.lang.reflect.InvocationTargetException;
import java.lang.reflect.Method;
import java.lang.reflect.Modifier;
import java.util.HashMap;
import java.util.List;
import java.util.Map;
import java.util.Set;
import java.util.TreeSet;
import java.util.function.Supplier;

/**
 * What the tests of boundary cases share. Each names a promise and the words of the document that it holds the class
 * to, and then tells runs of calls as rows: "change(0, 2, 11) = BEYOND", "3* rain(0, 0, 100)". A row without an answer
 * only prepares: it must not answer a finding.
 */
final class Edge {
    private static final List<String> FINDINGS = List.of("BEYOND", "FULL", "KIND", "NONE", "STATE", "MISSING", "SIZE");
    private static final Map<String, Method> CALLS = calls();
    private static final Set<String> QUOTED = new TreeSet<>();
    private static String section = "";
    private static String words = "";
    private static String held = "";
    private static int answers = 0;
    private static int allAnswers = 0;

    private Edge() {
    }

    /** The answers to come are held to these words of a promise. */
    static void promise(int number, String quote) {
        begin("Promise " + number, quote, "Promise " + number);
    }

    /** The answers to come are held to these words of the terms, which a promise uses. */
    static void term(int promise, String terms, String quote) {
        begin(terms, quote, "Promise " + promise + " by " + terms);
    }

    private static void begin(String newSection, String quote, String by) {
        finish();
        section = newSection;
        words = quote;
        held = by + ", \"" + quote + "\"";
        answers = 0;
        Check.due(held + " stands in the document", Doc.has(section, words) ? 1 : 0, 1);
    }

    /** Words count as held to if at least one answer was looked at. */
    private static void finish() {
        allAnswers += answers;
        if (answers > 0) {
            QUOTED.add(section + ": " + words);
        } else if (!section.isEmpty()) {
            Check.same("tests of " + held, "none", "some");
        }
    }

    /** Every sentence of the document must have been quoted, at least in part, by a test. */
    static void all() {
        finish();
        int many = 0;
        for (Map.Entry<String, List<String>> part : Doc.sentences().entrySet()) {
            for (String sentence : part.getValue()) {
                Check.same("tests of " + part.getKey() + ": " + sentence, isQuoted(part.getKey(), sentence) ? "" : "none", "");
                many++;
            }
        }
        Check.due("sections of the document", Doc.sentences().size(), 50);
        System.out.println(QUOTED.size() + " quotes from " + many + " sentences, " + allAnswers + " answers looked at");
    }

    private static boolean isQuoted(String part, String sentence) {
        for (String quote : QUOTED) {
            if (quote.startsWith(part + ": ") && sentence.contains(quote.substring(part.length() + 2))) {
                return true;
            }
        }
        return false;
    }

    static void due(String what, long got, long want) {
        answers++;
        Check.due(held + ": " + what, got, want);
    }

    static void same(String what, String got, String want) {
        answers++;
        Check.same(held + ": " + what, got, want);
    }

    /** Rows on a new vault with a roof told by a text. */
    static RainVault run(String roof, String... rows) {
        return rows(Check.vault(roof), rows);
    }

    static RainVault run(Supplier<RainVault> made, String... rows) {
        return rows(made.get(), rows);
    }

    static Supplier<RainVault> made(String roof, String... rows) {
        return () -> rows(Check.vault(roof), rows);
    }

    /** As made(), but so many hours have gone. */
    static Supplier<RainVault> late(int hour, String roof, String... rows) {
        return () -> rows(Check.lateVault(hour, roof), rows);
    }

    private static RainVault rows(RainVault x, String... rows) {
        for (String row : rows) {
            String[] halves = row.split(" = ");
            String[] call = halves[0].split("\\* ");
            int times = call.length == 1 ? 1 : Integer.parseInt(call[0]);
            for (int i = 0; i < times; i++) {
                int got = answer(x, call[call.length - 1]);
                if (halves.length > 1) {
                    due(halves[0], got, value(halves[1]));
                } else if (got < -1000000 && !row.startsWith("seed(")) {
                    Check.due(held + ": " + row + " only prepares", got, 0);
                }
            }
        }
        return x;
    }

    /** Each call on a vault of its own: it answers the finding, which is counted, and changes nothing else. */
    static void refused(Supplier<RainVault> made, String finding, String... calls) {
        for (String call : calls) {
            RainVault x = made.get();
            RainVault twin = made.get();
            due(call, answer(x, call), value(finding));
            for (int which = 0; which < FINDINGS.size(); which++) {
                int more = FINDINGS.get(which).equals(finding) ? 1 : 0;
                due(call + ", then status(" + which + ")", x.status(which), twin.status(which) + more);
            }
            due(call + ", then status(-1)", x.status(-1), twin.status(-1) + 1);
            same("what " + call + " left", everything(x), everything(twin));
        }
    }

    /** A text on a roof: with a FAULT it leaves all as it was, but THE TAPE empty. */
    static void told(String roof, String text, int due) {
        RainVault x = Check.vault(roof);
        RainVault twin = Check.vault(roof);
        due("text() of \"" + text + "\"", Check.told(x, text), due);
        due("bytes behind \"" + text + "\"", x.count(5), 0);
        due("findings behind \"" + text + "\"", x.status(-1), 0);
        if (due < 0) {
            same("what \"" + text + "\" left", everything(x), everything(twin));
        }
    }

    /** A text that must be right, and rows behind it. */
    static void told(String roof, String text, int due, String... rows) {
        RainVault x = Check.vault(roof);
        due("text() of \"" + text + "\"", Check.told(x, text), due);
        rows(x, rows);
    }

    /** All that can be told of a vault, SHEETS, THE TAPE and the image too; the vault is used up by it. */
    private static String everything(RainVault x) {
        StringBuilder all = new StringBuilder(Check.seen(x));
        for (int s = 0; s < 4; s++) {
            for (int n = 1; n < 4; n++) {
                all.append(' ').append(x.copy(s, 0, s, 0, n));
            }
            all.append(' ').append(x.judge(s)).append(' ').append(x.rust(s, 0)).append(' ').append(x.load(s));
            all.append(' ').append(x.count(3)).append(' ').append(x.of(0, 2));
        }
        all.append(" text ").append(x.text()).append(' ').append(x.count(1)).append(' ').append(x.count(2));
        return all.append(" undo ").append(x.undo()).append(' ').append(Check.seen(x)).toString();
    }

    private static int answer(RainVault x, String row) {
        int open = row.indexOf('(');
        String inside = row.substring(open + 1, row.indexOf(')'));
        String[] told = inside.isEmpty() ? new String[0] : inside.split(", ");
        Object[] arguments = new Object[told.length];
        for (int i = 0; i < told.length; i++) {
            arguments[i] = value(told[i]);
        }
        try {
            return (Integer) CALLS.get(row.substring(0, open)).invoke(x, arguments);
        } catch (InvocationTargetException | IllegalAccessException thrown) {
            Check.same(held + ": " + row, String.valueOf(thrown.getCause()), "an answer");
            return 0;
        }
    }

    private static int value(String told) {
        if (told.equals("MIN")) {
            return Integer.MIN_VALUE;
        }
        if (told.equals("MAX")) {
            return Integer.MAX_VALUE;
        }
        int which = FINDINGS.indexOf(told);
        return which >= 0 ? Check.BEYOND - which : Integer.parseInt(told);
    }

    private static Map<String, Method> calls() {
        Map<String, Method> calls = new HashMap<>();
        for (Method m : RainVault.class.getDeclaredMethods()) {
            if (Modifier.isPublic(m.getModifiers())) {
                calls.put(m.getName(), m);
            }
        }
        return calls;
    }
}
