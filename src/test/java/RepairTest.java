/** Promises 8 (repair), 9 (step), 10 (price), 11 (reach) and 12 (apply). */
public final class RepairTest {
    private static final String[] PAIRS = {"A=aAb", "A="};
    private static final String[] FORTY = {"A=BCD", "B=a", "B=b", "B=c", "B=d", "C=B", "C=e", "D=a", "D=b"};

    public static void main(String[] args) {
        ordinary();
        guards();
        formOfSteps();
        passes();
        costs();
        noRepairs();
        refused();
        fortyRepairs();
        forgets();
        wrongNumbers();
        apply();
        sixteenLetters();
        deepStacks();
        Check.end();
    }

    private static void ordinary() {
        RepairDesk desk = Check.compiled(PAIRS);
        Check.repairs(desk, "aab", 0, 1, "1:0");
        Check.repairs(desk, "aab", 3, 1, "1:0");
        Check.repairs(desk, "abb", 0, 1, "6:0");
        Check.repairs(desk, "aabab", 0, 1, "1:0", "6:1");
        Check.repairs(desk, "aabab", 1, 1, "6:1");
        RepairDesk sums = Check.compiled("E=EaD", "E=D", "D=b", "D=cEd");
        Check.repairs(sums, "bbab", 1, 1, "0:3", "6:2");
        Check.repairs(sums, "", 0, 1, "1:0", "2:0");
        Check.repairs(sums, "", 1, 1, "1:0");
        Check.repairs(sums, "cb", 0, 1, "0:0", "3:0");
        Check.repairs(sums, "cb", 1, 1, "3:0");
    }

    private static void guards() {
        RepairDesk desk = Check.compiled(PAIRS);
        Check.repairs(desk, "ba", 0, 1, "0:1", "6:1");
        // The rest "a" goes wrong at its end, one letter further: enough for 1, not for 2.
        Check.repairs(desk, "ba", 1, 1, "0:1", "6:1");
        Check.repairs(desk, "ba", 2, 2, "076:0", "66:0", "671:0");
        Check.repairs(desk, "ba", 3, 2, "076:0", "66:0", "671:0");
        RepairDesk word = Check.compiled("A=abcB", "B=def");
        Check.repairs(word, "bcdeb", 0, 1, "0:4", "6:0");
        Check.repairs(word, "bcdeb", 1, 1, "0:4");
        Check.repairs(word, "bcdeb", 3, 1, "0:4");
        // Not wrong at all is enough, however short the rest is.
        Check.repairs(word, "abcdf", 3, 1, "4:1");
    }

    private static void formOfSteps() {
        RepairDesk word = Check.compiled("A=abc");
        // Another letter is PUT and TAKE, never TAKE and PUT.
        Check.repairs(word, "adc", 3, 2, "16:1");
        Check.repairs(word, "ca", 3, 3, "0176:0", "6712:0");
        Check.repairs(word, "", 3, 3, "012:0");
        Check.repairs(word, "ddd", 3, 0);
        Check.repairs(word, "abcddd", 3, 3, "666:0");
        Check.repairs(word, "abcdddd", 3, 0);
        Check.repairs(word, "abcdddd", 0, 1, "6:0");
    }

    private static void passes() {
        RepairDesk three = Check.compiled("A=abcB", "B=deab");
        Check.repairs(three, "bceb", 3, 3, "077370:1");
        RepairDesk four = Check.compiled("A=abcB", "B=defC", "C=ab");
        Check.repairs(four, "bcefb", 3, 0);
        Check.repairs(four, "bcefb", 2, 1, "0:2");
    }

    private static void costs() {
        RepairDesk desk = Check.compiled(PAIRS);
        desk.cost(1, false, 2);
        Check.repairs(desk, "aabab", 0, 1, "6:1");
        desk.cost(0, true, 2);
        Check.repairs(desk, "aabab", 0, 2, "1:0", "6:1");
        desk.cost(0, true, 3);
        desk.cost(1, false, 3);
        Check.repairs(desk, "aabab", 0, 3, "1:0", "6:1");
        Check.repairs(desk, "aabab", 1, 3, "6:1");
        // Two of them would cost 6.
        Check.repairs(desk, "aa", 1, 0);
        Check.isTrue("a cost", desk.cost(1, false, 1));
        Check.finds(desk, 1, 2, "11:0");
    }

    private static void noRepairs() {
        RepairDesk desk = Check.compiled(PAIRS);
        Check.repairs(desk, "", 0, 0);
        Check.repairs(desk, "ab", 3, 0);
        Check.repairs(desk, "aaaa", 3, 0);
        Check.repairs(desk, "ccccaabb", 1, 0);
        RepairDesk none = Check.compiled("A=");
        Check.repairs(none, "", 0, 0);
        Check.repairs(none, "f", 3, 1, "6:0");
    }

    private static void refused() {
        RepairDesk desk = Check.desk(PAIRS);
        Check.due("nothing compiled", Check.ISE, () -> desk.repair(0));
        Check.due("nothing compiled comes first", Check.ISE, () -> desk.repair(4));
        desk.compile();
        int[] wrong = {-1, 4, Integer.MIN_VALUE, Integer.MAX_VALUE};
        for (int guard : wrong) {
            Check.repairs(desk, "aab", 0, 1, "1:0");
            Check.due("guard " + guard, Check.IAE, () -> desk.repair(guard));
            Check.same("forgets the price", 0, desk.price());
            Check.same("forgets the steps", -1, desk.step(0, 0));
            Check.due("forgets the reach", Check.NSE, () -> desk.reach(0));
            Check.same("keeps the states", 8, desk.count(1));
        }
    }

    private static void fortyRepairs() {
        RepairDesk desk = Check.compiled(FORTY);
        Check.due("forty", 40, () -> desk.repair(1));
        Check.same("their price", 3, desk.price());
        Check.isTrue("the first", Check.stepsOf(desk, 0).equals("000"));
        Check.isTrue("the second", Check.stepsOf(desk, 1).equals("001"));
        Check.isTrue("the third", Check.stepsOf(desk, 2).equals("010"));
        Check.isTrue("the last", Check.stepsOf(desk, 39).equals("341"));
        Check.same("no more", -1, desk.step(40, 0));
        Check.due("reach of the last", 0, () -> desk.reach(39));
        Check.same("one rule more", 9, Check.rule(desk, "A=fff"));
        Check.due("compile", 1, () -> desk.compile() > 0 ? 1 : 0);
        Check.due("few", 5, () -> desk.repair(0));
        Check.due("forty-one", Check.UOE, () -> desk.repair(1));
        Check.nothingFound(desk, "forty-one");
        Check.isTrue("dearer letters", desk.cost(5, false, 2));
        Check.due("forty again", 40, () -> desk.repair(1));
    }

    private static void forgets() {
        RepairDesk desk = Check.compiled(PAIRS);
        Check.repairs(desk, "aabab", 0, 1, "1:0", "6:1");
        Check.due("parse", 3, desk::parse);
        Check.isTrue("cost", desk.cost(1, false, 3));
        Check.isTrue("write", desk.write('a'));
        Check.same("parse, cost and write forget nothing", 1, desk.price());
        Check.isTrue("the steps stay", Check.stepsOf(desk, 1).equals("6"));
        Check.due("the next repair", 1, () -> desk.repair(0));
        Check.isTrue("is another", Check.stepsOf(desk, 0).equals("6"));
        Check.due("the old ones are gone", Check.NSE, () -> desk.reach(1));
    }

    private static void wrongNumbers() {
        RepairDesk desk = Check.compiled(PAIRS);
        Check.repairs(desk, "ba", 2, 2, "076:0", "66:0", "671:0");
        int[] wrong = {-1, 3, 40, 41, Integer.MIN_VALUE, Integer.MAX_VALUE};
        for (int k : wrong) {
            Check.same("step " + k, -1, desk.step(k, 0));
            Check.same("step of 0 at " + k, -1, desk.step(0, k));
            Check.due("reach " + k, Check.NSE, () -> desk.reach(k));
            Check.due("apply " + k, Check.NSE, () -> desk.apply(k));
        }
        Check.same("behind the last step", -1, desk.step(1, 2));
        Check.same("nothing is forgotten", 2, desk.price());
        Check.isTrue("the text stays", Check.textOf(desk).equals("ba"));
    }

    private static void applied(RepairDesk desk, int k, String due) {
        Check.due("apply " + k, due.length(), () -> desk.apply(k));
        Check.isText(desk, due);
        Check.nothingFound(desk, "applied");
        Check.due("not twice", Check.NSE, () -> desk.apply(k));
    }

    private static void apply() {
        RepairDesk desk = Check.compiled(PAIRS);
        Check.repairs(desk, "aabab", 0, 1, "1:0", "6:1");
        applied(desk, 0, "aabbab");
        Check.finds(desk, 0, 1, "6:0");
        applied(desk, 0, "aabbb");
        Check.due("parse", 4, desk::parse);
        Check.repairs(desk, "ba", 2, 2, "076:0", "66:0", "671:0");
        applied(desk, 0, "ab");
        Check.repairs(desk, "ba", 2, 2, "076:0", "66:0", "671:0");
        applied(desk, 1, "");
        Check.due("a sentence", -1, desk::parse);
        Check.repairs(desk, "ba", 2, 2, "076:0", "66:0", "671:0");
        applied(desk, 2, "ab");
        RepairDesk three = Check.compiled("A=abcB", "B=deab");
        Check.repairs(three, "bceb", 3, 3, "077370:1");
        applied(three, 0, "abcdeab");
        Check.due("a sentence", -1, three::parse);
    }

    private static void sixteenLetters() {
        RepairDesk desk = Check.compiled("A=BA", "A=B", "B=abbb");
        Check.same("text", 8, Check.text(desk, "aaaaaaaa"));
        for (int length = 9; length <= 16; length++) {
            int due = length;
            Check.isTrue("repair", desk.repair(0) > 0);
            Check.same("PUT comes first", 1, desk.step(0, 0) < 6 ? 1 : 0);
            Check.due("apply", due, () -> desk.apply(0));
        }
        String sixteen = Check.textOf(desk);
        Check.isTrue("sixteen letters " + sixteen, sixteen.equals("abbbabbbabbaaaaa"));
        Check.same("the last letter", 0, desk.letter(15));
        Check.same("none behind it", -1, desk.letter(16));
        Check.finds(desk, 0, 1, "1:1", "6:0");
        Check.due("seventeen", Check.ISE, () -> desk.apply(0));
        Check.isTrue("the text stays", Check.textOf(desk).equals(sixteen));
        Check.same("nothing is forgotten", 1, desk.price());
        applied(desk, 1, "abbbabbbabbaaaa");
    }

    /** Twelve names of empty rows stand before each letter, and none of them is closed before the last one. */
    private static void deepStacks() {
        RepairDesk desk = Check.compiled("A=BBBC", "C=BBBD", "D=BBBE", "E=BBBF", "F=aA", "F=b", "B=");
        Check.repairs(desk, "aaaaaaaa", 0, 1, "0:0", "1:0");
        for (int length = 9; length <= 16; length++) {
            int due = length;
            Check.due("apply", due, () -> desk.apply(0));
            Check.due("parse", due, desk::parse);
            Check.finds(desk, 0, 1, "0:0", "1:0");
        }
        desk.cost(1, false, 3);
        Check.finds(desk, 3, 3, "1:0");
        Check.due("seventeen", Check.ISE, () -> desk.apply(0));
    }
}
