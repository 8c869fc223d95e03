import java.util.Arrays;
import java.util.Map;
import java.util.TreeMap;

/** All promises in runs of 512 calls of every kind, right and wrong ones, against the Model. */
public final class RunTest {
    private static final int RUNS = 400;
    private static final int CALLS = 512;
    private static final String[][] GRAMMARS = {
        {"A=aAb", "A="},
        {"E=EaD", "E=D", "D=b", "D=cEd"},
        {"A=BCD", "B=a", "B=b", "B=c", "B=d", "C=B", "C=e", "D=a", "D=b", "A=fff"},
        {"A=BA", "A=B", "B=abbb"},
        {"A=abcB", "B=def", "C=c", "C=D"},
        {"A=aA", "A=b", "A=Fa", "B=A"},
        {"A=BBBC", "C=BBBD", "D=BBBE", "E=BBBF", "F=aA", "F=b", "B="},
        {"A=a", "A=A"},
        {"A=aBcd", "A=bBdc", "B=bbbb", "A=cccc", "A=dddd", "A=eeee", "A=ffff", "A=caaa", "A=dab", "A=ea"},
        {"A=aAb", "A=cB", "B=Bd", "A=c", "A=dC"},
        {"A=aA", "A=bcd"},
    };
    private static final int[] FAR = {Integer.MIN_VALUE, Integer.MAX_VALUE, -6, 40, 41, 6, 512};

    private static final Map<String, Integer> TALLY = new TreeMap<>();
    private static long seed = 20261116L;

    private RepairDesk desk = new RepairDesk();
    private Model model = new Model();
    private String[] grammar = GRAMMARS[below(GRAMMARS.length)];
    /** Where the text is seldom a new one, repairs make it longer and longer. */
    private final boolean calm = below(2) == 0;
    private final StringBuilder last = new StringBuilder();
    private int calls;

    private static int below(int n) {
        seed = seed * 6364136223846793005L + 1442695040888963407L;
        return (int) ((seed >>> 33) % n);
    }

    public static void main(String[] args) {
        int runs = args.length > 0 ? Integer.parseInt(args[0]) : RUNS;
        seed = args.length > 1 ? Long.parseLong(args[1]) : seed;
        for (int i = 0; i < runs; i++) {
            RunTest run = new RunTest();
            run.begin();
            for (int tries = 0; tries < 20 * CALLS && run.calls < CALLS; tries++) {
                run.next();
            }
        }
        System.out.println(TALLY);
        for (String kind : new String[] {"rule IAE", "rule ISE", "rule", "compile ISE", "compile UOE", "compile", "text IAE",
            "text", "parse ISE", "parse", "repair ISE", "repair IAE", "repair UOE", "repair", "reach NSE", "reach",
            "apply NSE", "apply ISE", "apply"}) {
            Check.isTrue("there was a " + kind, TALLY.getOrDefault(kind, 0) > 0);
        }
        Check.end();
    }

    private void due(String name, int want, Check.Call call) {
        if (calls >= CALLS) {
            return;
        }
        calls++;
        last.append(name).append(' ');
        int from = Math.max(0, last.length() - 600);
        Check.due(".. " + last.substring(from), want, call);
        String[] thrown = {"", " IAE", " ISE", " UOE", " NSE"};
        int number = want <= Check.IAE ? Check.IAE - want + 1 : 0;
        TALLY.merge(name.replaceAll("\\(.*", "") + thrown[number], 1, Integer::sum);
    }

    private void write(String line) {
        for (char c : line.toCharArray()) {
            due("write(" + c + ")", model.write(c), () -> desk.write(c) ? 1 : 0);
        }
    }

    /** A calm run has its grammar at once. */
    private void begin() {
        for (int i = 0; calm && i < grammar.length; i++) {
            write(grammar[i]);
            due("rule", model.rule(), desk::rule);
        }
        if (calm) {
            due("compile", model.compile(), desk::compile);
        }
    }

    /** Mostly small and near the bounds of what there is, now and then far off. */
    private static int number(int size) {
        return below(20) == 0 ? FAR[below(FAR.length)] : below(size + 3) - 1;
    }

    private void next() {
        switch (below(16)) {
            case 0:
            case 1:
                nextRule();
                break;
            case 2:
            case 3:
                nextText();
                break;
            case 4:
                char c = (char) (below(3) == 0 ? below(65536) : below(130));
                due("write(" + (int) c + ")", model.write(c), () -> desk.write(c) ? 1 : 0);
                break;
            case 5:
                nextCompile();
                break;
            case 6:
                due("parse", model.parse(), desk::parse);
                break;
            case 7:
            case 8:
            case 9:
                nextRepair();
                break;
            case 10:
            case 11:
                nextApply();
                break;
            case 12:
                int letter = number(6);
                boolean out = below(2) == 0;
                int cost = number(3);
                due("cost(" + letter + "," + out + "," + cost + ")", model.cost(letter, out, cost),
                        () -> desk.cost(letter, out, cost) ? 1 : 0);
                break;
            default:
                look();
                break;
        }
    }

    /** The grammar stands; a calm run looks at texts and repairs then. */
    private boolean isSkipped() {
        return model.count(1) > 0 && below(calm ? 25 : 4) > 0;
    }

    private void nextRule() {
        int made = model.rulesMade();
        if (isSkipped()) {
            return;
        }
        if (made < grammar.length && below(4) > 0) {
            write(grammar[made]);
        } else if (below(6) == 0) {
            write(grammar[below(grammar.length)]);
        } else if (below(6) == 0) {
            write(randomOf("ABCDEF", 1) + "=" + randomOf("abcdefABCDEF", below(6)));
        } else {
            write(randomOf("AFa=bG ~", below(4)));
        }
        due("rule", model.rule(), desk::rule);
    }

    private void nextCompile() {
        if (!isSkipped()) {
            due("compile", model.compile(), desk::compile);
        }
    }

    private void nextText() {
        if (model.letter(0) >= 0 && model.parse() != -1 && isSkipped()) {
            return;
        }
        StringBuilder text = new StringBuilder();
        int wanted = below(9);
        for (int tries = 0; tries < 30 && text.length() < wanted; tries++) {
            char letter = (char) ('a' + below(6));
            if (model.isBeginning(text.toString() + letter) || below(12) == 0) {
                text.append(letter);
            }
        }
        if (below(8) == 0) {
            text.append(randomOf("abcdefg`A=", below(4)));
        }
        write(text.toString());
        due("text", model.text(), desk::text);
    }

    private void nextRepair() {
        int guard = below(8) == 0 ? number(4) : below(calm ? 2 : 4);
        due("repair(" + guard + ")", model.repair(guard), () -> desk.repair(guard));
        if (model.repairsFound() > 0 && below(2) == 0) {
            nextApply();
        }
    }

    private void nextApply() {
        if (model.repairsFound() == 0 && below(4) > 0) {
            return;
        }
        int k = below(4) > 0 ? below(calm ? 1 : 2) : number(model.repairsFound());
        due("apply(" + k + ")", model.apply(k), () -> desk.apply(k));
    }

    private void look() {
        int k = number(model.repairsFound());
        int i = number(7);
        due("step(" + k + "," + i + ")", model.step(k, i), () -> desk.step(k, i));
        due("price", model.price(), desk::price);
        due("reach(" + k + ")", model.reach(k), () -> desk.reach(k));
        int place = number(17);
        due("letter(" + place + ")", model.letter(place), () -> desk.letter(place));
        int what = number(3);
        due("count(" + what + ")", model.count(what), () -> desk.count(what));
    }

    private static String randomOf(String signs, int length) {
        char[] row = new char[length];
        Arrays.fill(row, ' ');
        for (int i = 0; i < length; i++) {
            row[i] = signs.charAt(below(signs.length()));
        }
        return new String(row);
    }
}
