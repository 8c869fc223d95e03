import java.util.ArrayList;
import java.util.Collections;
import java.util.HashMap;
import java.util.HashSet;
import java.util.LinkedHashMap;
import java.util.List;
import java.util.Map;
import java.util.Set;
import java.util.TreeSet;

/**
 * The document's terms in their plainest form: sets of items as texts, beginnings of sentences by
 * all ways of deriving them at once (no states are used for that), repairs by trying every row of steps.
 */
final class Oracle {
    static final int TOO_GREAT = -1;
    static final int NOT_GOOD = -2;
    static final int BARREN = -3;

    private static final List<String> ROWS = sortedRows();

    private final List<String> all;
    private final List<String> rules = new ArrayList<>();
    private final Map<Character, Set<Character>> firsts = new HashMap<>();
    private final Map<String, Boolean> beginnings = new HashMap<>();
    private final Map<String, Boolean> sentences = new HashMap<>();
    private final char start;
    int items;
    int price;

    Oracle(List<String> written) {
        all = written;
        start = written.get(0).charAt(0);
        leaveOut();
        findFirsts();
    }

    private void leaveOut() {
        Set<Character> fruitful = new HashSet<>();
        for (int round = 0; round < 20; round++) {
            for (String rule : all) {
                if (isFruitful(rule, fruitful)) {
                    fruitful.add(rule.charAt(0));
                }
            }
        }
        for (String rule : all) {
            if (isFruitful(rule, fruitful)) {
                rules.add(rule);
            }
        }
    }

    private static boolean isFruitful(String rule, Set<Character> fruitful) {
        for (char c : rule.substring(2).toCharArray()) {
            if (c <= 'F' && !fruitful.contains(c)) {
                return false;
            }
        }
        return true;
    }

    /** '-' stands for the empty row. */
    private void findFirsts() {
        for (char c = 'A'; c <= 'F'; c++) {
            firsts.put(c, new TreeSet<>());
        }
        for (int round = 0; round < 60; round++) {
            for (String rule : rules) {
                firsts.get(rule.charAt(0)).addAll(firstOf(rule.substring(2)));
            }
        }
    }

    private Set<Character> firstOf(String row) {
        Set<Character> found = new TreeSet<>();
        for (char c : row.toCharArray()) {
            if (c >= 'a') {
                found.add(c);
                return found;
            }
            found.addAll(firsts.get(c));
            if (!found.remove('-')) {
                return found;
            }
        }
        found.add('-');
        return found;
    }

    /** An item is "A=x.y|t", t a letter or $. */
    private Set<String> closure(Set<String> kernel) {
        Set<String> closed = new TreeSet<>(kernel);
        List<String> todo = new ArrayList<>(kernel);
        while (!todo.isEmpty()) {
            String item = todo.remove(todo.size() - 1);
            int dot = item.indexOf('.');
            int bar = item.indexOf('|');
            char x = item.charAt(dot + 1);
            if (x < 'A' || x > 'F') {
                continue;
            }
            Set<Character> follows = firstOf(item.substring(dot + 2, bar));
            if (follows.remove('-')) {
                follows.add(item.charAt(bar + 1));
            }
            for (String rule : rules) {
                for (char t : follows) {
                    String next = rule.substring(0, 2) + "." + rule.substring(2) + "|" + t;
                    if (rule.charAt(0) == x && closed.add(next)) {
                        todo.add(next);
                    }
                }
            }
        }
        return closed;
    }

    /** How many states there are, or one of the numbers above. */
    int states() {
        items = 0;
        boolean any = false;
        for (String rule : rules) {
            any |= rule.charAt(0) == start;
        }
        if (!any) {
            return BARREN;
        }
        List<Set<String>> found = new ArrayList<>();
        Set<Set<String>> known = new HashSet<>();
        found.add(closure(Set.of("!=." + start + "|$")));
        known.add(found.get(0));
        for (int s = 0; s < found.size(); s++) {
            for (char x : "abcdefABCDEF".toCharArray()) {
                Set<String> moved = new TreeSet<>();
                for (String item : found.get(s)) {
                    if (item.indexOf("." + x) > 0) {
                        moved.add(item.replace("." + x, x + "."));
                    }
                }
                Set<String> target = closure(moved);
                if (!moved.isEmpty() && known.add(target)) {
                    found.add(target);
                }
            }
            if (found.size() > 40) {
                return TOO_GREAT;
            }
        }
        for (Set<String> state : found) {
            if (hasConflict(state)) {
                return NOT_GOOD;
            }
            items += state.size();
        }
        return found.size();
    }

    private static boolean hasConflict(Set<String> state) {
        for (String one : state) {
            int end = one.indexOf(".|");
            if (end < 0) {
                continue;
            }
            char t = one.charAt(end + 2);
            for (String other : state) {
                boolean sameCore = other.substring(0, other.indexOf('|')).equals(one.substring(0, one.indexOf('|')));
                if (!sameCore && (other.endsWith(".|" + t) || other.indexOf("." + t) > 0)) {
                    return true;
                }
            }
        }
        return false;
    }

    boolean isBeginning(String row) {
        if (!beginnings.containsKey(row)) {
            derive(row);
        }
        return beginnings.get(row);
    }

    boolean isSentence(String row) {
        if (!sentences.containsKey(row)) {
            derive(row);
        }
        return sentences.get(row);
    }

    /** Earley's way: an item is "A=x.y|from"; sets for each place of the row. */
    private void derive(String row) {
        List<Set<String>> sets = new ArrayList<>();
        for (int i = 0; i <= row.length(); i++) {
            sets.add(new TreeSet<>());
        }
        sets.get(0).add("!=." + start + "|0");
        for (int i = 0; i <= row.length(); i++) {
            int before;
            do {
                before = sets.get(i).size();
                for (String item : new ArrayList<>(sets.get(i))) {
                    grow(sets, i, item);
                }
            } while (sets.get(i).size() != before);
            if (i < row.length()) {
                String sign = "." + row.charAt(i);
                for (String item : sets.get(i)) {
                    if (item.contains(sign)) {
                        sets.get(i + 1).add(item.replace(sign, row.charAt(i) + "."));
                    }
                }
            }
        }
        beginnings.put(row, !sets.get(row.length()).isEmpty());
        sentences.put(row, sets.get(row.length()).contains("!=" + start + ".|0"));
    }

    private void grow(List<Set<String>> sets, int i, String item) {
        int dot = item.indexOf('.');
        char x = item.charAt(dot + 1);
        if (x >= 'A' && x <= 'F') {
            for (String rule : rules) {
                if (rule.charAt(0) == x) {
                    sets.get(i).add(rule.substring(0, 2) + "." + rule.substring(2) + "|" + i);
                }
            }
        } else if (x == '|') {
            int from = Integer.parseInt(item.substring(dot + 2));
            String sign = "." + item.charAt(0);
            for (String waiting : new ArrayList<>(sets.get(from))) {
                if (waiting.contains(sign)) {
                    sets.get(i).add(waiting.replace(sign, item.charAt(0) + "."));
                }
            }
        }
    }

    int wrongPlace(String text) {
        for (int i = 0; i < text.length(); i++) {
            if (!isBeginning(text.substring(0, i + 1))) {
                return i;
            }
        }
        return isSentence(text) ? -1 : text.length();
    }

    /** The best repairs in their order, each with its reach; the empty map when there are none. */
    Map<String, Integer> repairs(String text, int guard, int[] puts, int[] takes) {
        int wrong = wrongPlace(text);
        Map<String, Integer> best = new LinkedHashMap<>();
        price = 0;
        if (wrong < 0) {
            return best;
        }
        for (int cost = 1; cost <= 3 && best.isEmpty(); cost++) {
            for (String row : ROWS) {
                int reach = costOf(row, text, wrong, puts, takes) == cost ? helps(row, text, wrong, guard) : -1;
                if (reach >= 0) {
                    best.put(row, reach);
                    price = cost;
                }
            }
        }
        return best;
    }

    private static List<String> sortedRows() {
        List<String> rows = new ArrayList<>();
        rowsOfSteps("", rows);
        Collections.sort(rows);
        return rows;
    }

    /** All rows of steps of the right form with at most 3 PUTs and TAKEs. */
    private static void rowsOfSteps(String row, List<String> rows) {
        if (!row.isEmpty() && !row.endsWith("7")) {
            rows.add(row);
        }
        for (char step = '0'; step <= '7'; step++) {
            String next = row + step;
            long passes = next.chars().filter(c -> c == '7').count();
            boolean putBehindTake = row.endsWith("6") && step < '6';
            if (passes <= 3 && next.length() - passes <= 3 && !putBehindTake) {
                rowsOfSteps(next, rows);
            }
        }
    }

    /** 99 when the text has too few letters for it. */
    private static int costOf(String row, String text, int wrong, int[] puts, int[] takes) {
        int cost = 0;
        int at = wrong;
        for (char step : row.toCharArray()) {
            if (step < '6') {
                cost += puts[step - '0'];
                continue;
            }
            if (at == text.length()) {
                return 99;
            }
            cost += step == '6' ? takes[text.charAt(at) - 'a'] : 0;
            at++;
        }
        return cost;
    }

    /** The reach, or -1 when it does not help. */
    private int helps(String row, String text, int wrong, int guard) {
        String before = text.substring(0, wrong);
        String rest = text.substring(wrong);
        for (char step : row.toCharArray()) {
            if (step < '6') {
                before += (char) ('a' + step - '0');
            } else {
                before += step == '7' ? rest.substring(0, 1) : "";
                rest = rest.substring(1);
            }
            if (!isBeginning(before)) {
                return -1;
            }
        }
        int place = wrongPlace(before + rest);
        if (place < 0) {
            return rest.length();
        }
        return place - before.length() >= guard ? place - before.length() : -1;
    }

    /** The text behind a repair. */
    static String mended(String row, String text, int wrong) {
        StringBuilder letters = new StringBuilder(text.substring(0, wrong));
        int at = wrong;
        for (char step : row.toCharArray()) {
            if (step < '6') {
                letters.append((char) ('a' + step - '0'));
            } else {
                letters.append(step == '7' ? text.substring(at, at + 1) : "");
                at++;
            }
        }
        return letters.append(text.substring(at)).toString();
    }
}
