import java.util.ArrayList;
import java.util.Arrays;
import java.util.HashMap;
import java.util.List;
import java.util.Map;

/** All calls of the face in their plainest form, with what is kept from one to the next; an exception is a number of Check. */
final class Model {
    private static final Map<List<String>, Oracle> ORACLES = new HashMap<>();

    private final List<String> rules = new ArrayList<>();
    private final int[] puts = {1, 1, 1, 1, 1, 1};
    private final int[] takes = {1, 1, 1, 1, 1, 1};
    private final List<String> found = new ArrayList<>();
    private final List<Integer> reaches = new ArrayList<>();
    private String line = "";
    private String text = "";
    private Oracle compiled;
    private int states;
    private int price;

    private void forgetFound() {
        found.clear();
        reaches.clear();
        price = 0;
    }

    private void forgetCompiled() {
        compiled = null;
        states = 0;
    }

    int write(char c) {
        if (c < 32 || c > 126 || line.length() == 10) {
            return 0;
        }
        line += c;
        return 1;
    }

    int rule() {
        String read = line;
        line = "";
        if (!read.matches("[A-F]=[a-fA-F]{0,4}") || rules.contains(read)) {
            return Check.IAE;
        }
        if (rules.size() == 10) {
            return Check.ISE;
        }
        rules.add(read);
        forgetCompiled();
        forgetFound();
        return rules.size() - 1;
    }

    int compile() {
        forgetFound();
        forgetCompiled();
        if (rules.isEmpty()) {
            return Check.ISE;
        }
        Oracle oracle = ORACLES.computeIfAbsent(List.copyOf(rules), Oracle::new);
        int made = oracle.states();
        if (made < 0) {
            return Check.UOE;
        }
        compiled = oracle;
        states = made;
        return made;
    }

    int text() {
        String read = line;
        line = "";
        if (!read.matches("[a-f]{0,8}")) {
            return Check.IAE;
        }
        text = read;
        forgetFound();
        return text.length();
    }

    int cost(int letter, boolean out, int c) {
        if (letter < 0 || letter > 5 || c < 1 || c > 3) {
            return 0;
        }
        (out ? takes : puts)[letter] = c;
        return 1;
    }

    int parse() {
        return compiled == null ? Check.ISE : compiled.wrongPlace(text);
    }

    int repair(int guard) {
        forgetFound();
        if (compiled == null) {
            return Check.ISE;
        }
        if (guard < 0 || guard > 3) {
            return Check.IAE;
        }
        Map<String, Integer> best = compiled.repairs(text, guard, puts, takes);
        if (best.size() > 40) {
            return Check.UOE;
        }
        found.addAll(best.keySet());
        reaches.addAll(best.values());
        price = compiled.price;
        return found.size();
    }

    private boolean has(int k) {
        return k >= 0 && k < found.size();
    }

    int step(int k, int i) {
        return has(k) && i >= 0 && i < found.get(k).length() ? found.get(k).charAt(i) - '0' : -1;
    }

    int price() {
        return price;
    }

    int reach(int k) {
        return has(k) ? reaches.get(k) : Check.NSE;
    }

    int apply(int k) {
        if (!has(k)) {
            return Check.NSE;
        }
        String mended = Oracle.mended(found.get(k), text, compiled.wrongPlace(text));
        if (mended.length() > 16) {
            return Check.ISE;
        }
        text = mended;
        forgetFound();
        return text.length();
    }

    int letter(int i) {
        return i >= 0 && i < text.length() ? text.charAt(i) - 'a' : -1;
    }

    int count(int what) {
        int items = compiled == null ? 0 : compiled.items;
        List<Integer> counts = Arrays.asList(rules.size(), states, items);
        return what >= 0 && what < 3 ? counts.get(what) : -1;
    }

    int rulesMade() {
        return rules.size();
    }

    int repairsFound() {
        return found.size();
    }

    boolean isBeginning(String letters) {
        return compiled != null && compiled.isBeginning(letters);
    }
}
