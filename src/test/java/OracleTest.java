import java.util.ArrayList;
import java.util.List;
import java.util.Map;

/** Promises 4, 7 to 12 and 14 on many grammars and texts, against the document's terms in plain form. */
public final class OracleTest {
    private static final int GRAMMARS = 4000;
    /** Sums, lists with empty rows, many repairs, rules left out, and long runs of empty names. */
    private static final String[][] GIVEN = {
        {"E=EaD", "E=D", "D=DbF", "D=F", "F=cEd", "F=e"},
        {"A=BAa", "A=b", "B=c", "B=d"},
        {"A=BA", "A=", "B=a", "B=b", "B=c", "B=d", "B=e"},
        {"A=BBBf", "B=a", "B=b", "B=c", "B=d", "B=e"},
        {"A=BCD", "B=a", "B=b", "B=c", "B=d", "C=B", "C=e", "D=a", "D=b"},
        {"A=BCD", "B=a", "B=b", "B=c", "B=d", "C=B", "C=e", "D=a", "D=b", "A=fff"},
        {"A=aAb", "A=cB", "B=Bd", "A=c", "A=dC"},
        {"A=BBBB", "B=CCCC", "C=DDDD", "D=EEEE", "E=FFFF", "F="},
        {"A=aBBA", "B=CCCC", "C=DDDD", "D=EEEE", "E=FFFF", "F=", "A="},
        {"A=BA", "A=B", "B=abbb"},
        {"A=BBBC", "C=BBBD", "D=BBBE", "E=BBBF", "F=aA", "F=b", "B="},
    };
    private static long seed = 20261115L;
    private static int good;
    private static int tooGreat;
    private static int repaired;
    private static int tooMany;

    /** The same numbers in every run. */
    private static int below(int n) {
        seed = seed * 6364136223846793005L + 1442695040888963407L;
        return (int) ((seed >>> 33) % n);
    }

    public static void main(String[] args) {
        int grammars = args.length > 0 ? Integer.parseInt(args[0]) : GRAMMARS;
        seed = args.length > 1 ? Long.parseLong(args[1]) : seed;
        for (int i = 0; i < grammars; i++) {
            tryGrammar(randomRules());
        }
        for (String[] rules : GIVEN) {
            for (int i = 0; i < 20; i++) {
                tryGrammar(List.of(rules));
            }
        }
        System.out.println(good + " good grammars, " + tooGreat + " too great, " + repaired + " texts with repairs, "
                + tooMany + " with too many");
        Check.isTrue("there were good grammars, great ones, repairs, and too many of them",
                good > 0 && tooGreat > 0 && repaired > 0 && tooMany > 0);
        Check.end();
    }

    private static List<String> randomRules() {
        int names = 1 + below(6);
        int letters = 1 + below(6);
        int wanted = 1 + below(10);
        List<String> rules = new ArrayList<>();
        for (int i = 0; i < wanted; i++) {
            StringBuilder rule = new StringBuilder();
            rule.append((char) ('A' + (i < names ? i : below(names)))).append('=');
            int size = below(5);
            for (int k = 0; k < size; k++) {
                boolean isName = below(5) < 2;
                rule.append((char) (isName ? 'A' + below(names) : 'a' + below(letters)));
            }
            if (!rules.contains(rule.toString())) {
                rules.add(rule.toString());
            }
        }
        return rules;
    }

    private static void tryGrammar(List<String> rules) {
        Oracle oracle = new Oracle(rules);
        RepairDesk desk = Check.desk(rules.toArray(new String[0]));
        int states = oracle.states();
        Check.due(rules + " compile", states < 0 ? Check.UOE : states, desk::compile);
        Check.same(rules + " count(1)", Math.max(0, states), desk.count(1));
        Check.same(rules + " count(2)", states < 0 ? 0 : oracle.items, desk.count(2));
        tooGreat += states == Oracle.TOO_GREAT ? 1 : 0;
        if (states < 0) {
            return;
        }
        good++;
        int[] puts = {1, 1, 1, 1, 1, 1};
        int[] takes = {1, 1, 1, 1, 1, 1};
        for (int i = 0; i < 6; i++) {
            tryText(rules, oracle, desk, puts, takes);
            changeCost(desk, puts, takes);
        }
    }

    private static void changeCost(RepairDesk desk, int[] puts, int[] takes) {
        int letter = below(6);
        int cost = 1 + below(3);
        boolean out = below(2) == 0;
        (out ? takes : puts)[letter] = cost;
        Check.isTrue("cost", desk.cost(letter, out, cost));
    }

    private static void tryText(List<String> rules, Oracle oracle, RepairDesk desk, int[] puts, int[] takes) {
        String text = randomText(oracle);
        Check.same("text " + text, text.length(), Check.text(desk, text));
        for (int round = 0; round < 4; round++) {
            int guard = below(4);
            String where = rules + " " + text + " guard " + guard;
            int wrong = oracle.wrongPlace(text);
            Check.due(where + " parse", wrong, desk::parse);
            Map<String, Integer> best = oracle.repairs(text, guard, puts, takes);
            boolean many = best.size() > 40;
            Check.due(where + " repair", many ? Check.UOE : best.size(), () -> desk.repair(guard));
            Check.same(where + " price", many ? 0 : oracle.price, desk.price());
            tooMany += many ? 1 : 0;
            if (many || best.isEmpty()) {
                Check.same(where + " step", -1, desk.step(0, 0));
                return;
            }
            repaired++;
            compare(where, best, desk);
            int k = below(best.size());
            String mended = Oracle.mended(new ArrayList<>(best.keySet()).get(k), text, wrong);
            boolean tooLong = mended.length() > 16;
            Check.due(where + " apply", tooLong ? Check.ISE : mended.length(), () -> desk.apply(k));
            text = tooLong ? text : mended;
            Check.isTrue(where + " letters", Check.textOf(desk).equals(text));
            Check.same(where + " step when applied", tooLong ? 1 : 0, desk.step(0, 0) >= 0 ? 1 : 0);
        }
    }

    private static void compare(String where, Map<String, Integer> best, RepairDesk desk) {
        int k = 0;
        for (Map.Entry<String, Integer> repair : best.entrySet()) {
            int number = k;
            String steps = Check.stepsOf(desk, k);
            Check.isTrue(where + " repair " + k + " is " + steps + ", due " + repair.getKey(), steps.equals(repair.getKey()));
            Check.due(where + " reach " + k, repair.getValue(), () -> desk.reach(number));
            k++;
        }
        Check.same(where + " one step more", -1, desk.step(k, 0));
    }

    /** Mostly the beginning of a sentence with letters behind it or changed in it. */
    private static String randomText(Oracle oracle) {
        StringBuilder text = new StringBuilder();
        int wanted = below(9);
        for (int tries = 0; tries < 60 && text.length() < wanted; tries++) {
            char letter = (char) ('a' + below(6));
            if (oracle.isBeginning(text.toString() + letter) || below(30) == 0) {
                text.append(letter);
            }
        }
        if (text.length() > 0 && below(2) == 0) {
            text.setCharAt(below(text.length()), (char) ('a' + below(6)));
        }
        return text.toString();
    }
}
