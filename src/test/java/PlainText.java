import java.util.ArrayList;
import java.util.List;
import java.util.regex.Matcher;
import java.util.regex.Pattern;

/** A TEXT read in the plainest way: what can stand is asked of each TOKEN in turn, the first that can't is the FAULT. */
final class PlainText {
    private static final List<String> KINDS = List.of("cistern", "siphon", "slow", "tipped", "false", "frozen", "ice");

    /** The place of the first TOKEN that can't stand there, or -1. */
    int fault = -1;
    int items = 0;
    /** The roof as it stands behind the TEXT. */
    final PlainRoof roof;
    private final List<String> tokens = new ArrayList<>();
    private final List<Integer> places = new ArrayList<>();
    private int now = 0;

    PlainText(String tape, PlainRoof before) {
        roof = before.twin();
        Matcher token = Pattern.compile("[a-z]+|[0-9]+|[^ ]", Pattern.DOTALL).matcher(tape);
        while (token.find()) {
            tokens.add(token.group());
            places.add(token.start());
        }
        tokens.add("");
        places.add(tape.length());
        try {
            readAll();
        } catch (IllegalArgumentException wrong) {
            fault = places.get(now);
        }
    }

    private void readAll() {
        readItem();
        items++;
        while (!isNow("")) {
            must(isNow(";"));
            now++;
            readItem();
            items++;
        }
    }

    private static void must(boolean can) {
        if (!can) {
            throw new IllegalArgumentException();
        }
    }

    private boolean isNow(String token) {
        return tokens.get(now).equals(token);
    }

    private void readItem() {
        int kind = KINDS.indexOf(tokens.get(now));
        if (kind >= 0) {
            must(roof.cisterns < 8);
            now++;
            readCistern(kind);
        } else if (isNow("catch")) {
            now++;
            int c = number(0, roof.cisterns - 1);
            roof.catches[c] = new int[] {number(0, 9), number(0, 9), number(0, 9), number(0, 9)};
        } else if (isNow("lock")) {
            must(roof.conditions < 8);
            now++;
            int sort = number(0, 4);
            roof.lock[roof.conditions++] = new int[] {sort, number(0, 7), number(0, sort == 4 ? 40 : 7)};
        } else {
            must(isNow("cold") || isNow("warm"));
            roof.cold = isNow("cold");
            now++;
        }
    }

    private void readCistern(int kind) {
        int height = part("high", 1, 40, 10);
        int c = roof.add(kind, height);
        roof.level[c] = part("level", 0, height, 0);
        roof.leak[c] = part("leak", 0, 9, 1);
        roof.gutter[c] = part("to", 0, 7, -1);
    }

    private int part(String word, int least, int most, int atFirst) {
        if (!isNow(word)) {
            return atFirst;
        }
        now++;
        return number(least, most);
    }

    private int number(int least, int most) {
        String token = tokens.get(now);
        must(token.matches("0*[0-9]{1,3}"));
        int value = Integer.parseInt(token.replaceFirst("^0+(?=.)", ""));
        must(value >= least && value <= most);
        now++;
        return value;
    }
}
