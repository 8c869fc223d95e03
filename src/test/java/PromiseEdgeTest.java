import java.util.HashSet;
import java.util.Set;

/** The promises, sentence by sentence: too small, too large, empty, full, wrapped round, refused. */
public final class PromiseEdgeTest {
    private static final String[] PAIRS = {"A=aAb", "A="};
    private static final String[] FORTY = {"A=BCD", "B=a", "B=b", "B=c", "B=d", "C=B", "C=e", "D=a", "D=b"};
    private static final int[] FAR = {Integer.MIN_VALUE, Integer.MIN_VALUE + 1, -1000, Integer.MAX_VALUE - 1,
        Integer.MAX_VALUE, 1 << 16, 1 << 30};

    public static void main(String[] args) {
        calls();
        newObject();
        write();
        writeRefused();
        lineIsEmpty();
        ruleNone();
        ruleAlike();
        ruleTen();
        ruleForgets();
        compile();
        compileForgets();
        compileRefused();
        text();
        textRefused();
        textForgets();
        cost();
        costRefused();
        parse();
        parseRefused();
        repairNone();
        repairRefused();
        repairForty();
        repairForgets();
        step();
        price();
        reach();
        apply();
        applyNone();
        applySixteen();
        applyForgets();
        letter();
        count();
        Check.end();
    }

    private static RepairDesk withFinds() {
        RepairDesk desk = Check.compiled(PAIRS);
        Check.repairs(desk, "aabab", 0, 1, "1:0", "6:1");
        return desk;
    }

    private static void stillFound(RepairDesk desk) {
        Check.same("still compiled", 8, desk.count(1));
        Check.same("the price stays", 1, desk.price());
        Check.same("step of repair 0", 1, desk.step(0, 0));
        Check.same("step of repair 1", 6, desk.step(1, 0));
        Check.due("reach of repair 1", 1, () -> desk.reach(1));
        Check.isText(desk, "aabab");
    }

    private static void calls() {
        Check.about("An object is used for at most 512 calls after it has been made");
        RepairDesk desk = new RepairDesk();
        for (int call = 0; call < 500; call++) {
            desk.write(call % 11 == 10 ? 'x' : 'a');
        }
        Check.due("501: too long", Check.IAE, desk::text);
        Check.isTrue("502", desk.write('B'));
        Check.isTrue("503", desk.write('='));
        Check.due("504", 0, desk::rule);
        Check.due("505", 2, desk::compile);
        Check.isTrue("506", desk.write('f'));
        Check.due("507", 1, desk::text);
        Check.due("508", 0, desk::parse);
        Check.due("509", 1, () -> desk.repair(3));
        Check.same("510", 6, desk.step(0, 0));
        Check.due("511", 0, () -> desk.apply(0));
        Check.due("512", -1, desk::parse);
    }

    private static void newObject() {
        Check.about("Promise 1: No rules");
        RepairDesk desk = new RepairDesk();
        Check.same("rules", 0, desk.count(0));
        Check.due("compile", Check.ISE, desk::compile);
        Check.same("states", 0, desk.count(1));
        Check.same("items", 0, desk.count(2));
        Check.nothingFound(desk, "new");
        Check.about("Promise 1: an empty text");
        for (int i = -1; i <= 17; i++) {
            Check.same("letter " + i, -1, desk.letter(i));
        }
        Check.same("the first rule", 0, Check.rule(desk, "A=a"));
        Check.due("compile", 3, desk::compile);
        Check.due("the empty text goes wrong at its end", 0, desk::parse);
        Check.about("Promise 1: costs 1");
        Check.due("repair", 1, () -> desk.repair(3));
        Check.same("price", 1, desk.price());
    }

    private static void write() {
        Check.about("Promise 2: Appends a character (32 .. 126) to the line that is written: true");
        for (int c = 0; c <= 65535; c++) {
            RepairDesk desk = c % 10 == 0 || c < 200 ? new RepairDesk() : null;
            if (desk != null) {
                Check.same("write " + c, c >= 32 && c <= 126 ? 1 : 0, desk.write((char) c) ? 1 : 0);
            }
        }
        RepairDesk desk = new RepairDesk();
        Check.isFalse("a and 256", desk.write((char) ('a' + 256)));
        Check.isFalse("a and 65280", desk.write((char) ('a' + 65280)));
        Check.isFalse("a and 128", desk.write((char) ('a' + 128)));
        Check.due("nothing was appended", 0, desk::text);
        Check.same("in their order", 3, Check.text(desk, "fca"));
        Check.isText(desk, "fca");
    }

    private static void writeRefused() {
        Check.about("Promise 2: false when there are 10, or it is none such");
        RepairDesk desk = new RepairDesk();
        for (int i = 0; i < 10; i++) {
            Check.isTrue("sign " + i, desk.write('a'));
        }
        for (int i = 0; i < 30; i++) {
            Check.isFalse("sign " + (10 + i), desk.write((char) ('a' + i % 6)));
        }
        Check.isFalse("none such, and full", desk.write((char) 31));
        Check.due("ten signs", Check.IAE, desk::text);
        for (int i = 0; i < 10; i++) {
            Check.isTrue("there is room for ten again", desk.write('b'));
        }
        Check.isFalse("and no more", desk.write('b'));
        Check.due("ten signs", Check.IAE, desk::rule);
        Check.isTrue("A", desk.write('A'));
        Check.isFalse("a sign that is none such changes nothing", desk.write((char) 127));
        Check.isTrue("=", desk.write('='));
        Check.isFalse("nor here", desk.write((char) 31));
        Check.due("the rule A=", 0, desk::rule);
    }

    private static void lineIsEmpty() {
        Check.about("Promise 3: The line is empty then");
        RepairDesk desk = Check.desk("A=a");
        Check.due("behind a rule", Check.IAE, desk::rule);
        Check.same("a wrong one", Check.IAE, Check.rule(desk, "A=x"));
        Check.due("behind a wrong one", 0, desk::text);
        Check.same("one alike", Check.IAE, Check.rule(desk, "A=a"));
        Check.due("behind one alike", 0, desk::text);
        Check.same("the next", 1, Check.rule(desk, "A=b"));
        RepairDesk full = tenRules();
        Check.same("an eleventh", Check.ISE, Check.rule(full, "B=a"));
        Check.due("behind an eleventh", 0, full::text);
    }

    private static RepairDesk tenRules() {
        return Check.desk("A=a", "A=b", "A=c", "A=d", "A=e", "A=f", "A=aa", "A=bb", "A=cc", "A=dd");
    }

    private static void ruleNone() {
        Check.about("Promise 3: IllegalArgumentException when it is none");
        RepairDesk desk = new RepairDesk();
        String[] none = {"", "A", "=", "AA", "==", "A=abcde", "A=ABCDE", "A=abcdefab", "AB=a", "a=b", "=A", "=a", "a",
            "A:a", "A= ", " A=", "A =", "A=a b", "A=a ", "A=a=", "A==a", "G=a", "A=g", "A=aG", "A=abcg", "A=abc ", "~=~"};
        for (String line : none) {
            Check.same("'" + line + "'", Check.IAE, Check.rule(desk, line));
            Check.same("no rule is made", 0, desk.count(0));
        }
        Check.same("a rule is", 0, Check.rule(desk, "A="));
    }

    private static void ruleAlike() {
        Check.about("Promise 3: or there is one alike");
        RepairDesk desk = Check.desk("A=", "A=abcd", "A=F", "F=F");
        String[] alike = {"A=", "A=abcd", "A=F", "F=F"};
        for (String line : alike) {
            Check.same(line, Check.IAE, Check.rule(desk, line));
        }
        String[] unlike = {"B=", "A=abc", "A=abcf", "A=f", "F=f", "F=FF"};
        for (int i = 0; i < unlike.length; i++) {
            Check.same(unlike[i], 4 + i, Check.rule(desk, unlike[i]));
        }
        // What stood behind the end of a shorter line before is no part of it.
        RepairDesk shorter = Check.desk("A=abcd", "A=ab");
        Check.same("A=ab", Check.IAE, Check.rule(shorter, "A=ab"));
        Check.same("A=abc", 2, Check.rule(shorter, "A=abc"));
    }

    private static void ruleTen() {
        Check.about("Promise 3: IllegalStateException when there are 10");
        RepairDesk desk = tenRules();
        for (int i = 0; i < 3; i++) {
            Check.same("an eleventh", Check.ISE, Check.rule(desk, "B=abcd"));
            Check.same("still ten", 10, desk.count(0));
        }
        Check.same("none is IllegalArgumentException, which is named first", Check.IAE, Check.rule(desk, "B=g"));
        Check.same("so is one alike", Check.IAE, Check.rule(desk, "A=dd"));
        Check.due("the ten are as they were", 12, desk::compile);
        Check.parses(desk, "dd", -1);
    }

    private static void ruleForgets() {
        Check.about("Promise 3: What was compiled and found is forgotten");
        RepairDesk desk = withFinds();
        Check.same("B=", 2, Check.rule(desk, "B="));
        Check.nothingFound(desk, "rule");
        Check.same("states", 0, desk.count(1));
        Check.same("items", 0, desk.count(2));
        Check.due("parse", Check.ISE, desk::parse);
        Check.due("repair", Check.ISE, () -> desk.repair(0));
        Check.isText(desk, "aabab");
        Check.due("compiled again", 8, desk::compile);
        Check.finds(desk, 0, 1, "1:0", "6:1");
        Check.same("refused, one alike", Check.IAE, Check.rule(desk, "A=aAb"));
        stillFound(desk);
        Check.same("refused, none", Check.IAE, Check.rule(desk, ""));
        stillFound(desk);
        refusedEleventh();
    }

    private static void refusedEleventh() {
        RepairDesk full = Check.compiled("A=aAb", "A=", "B=a", "B=b", "B=c", "B=d", "B=e", "B=f", "C=", "D=");
        Check.repairs(full, "aabab", 0, 1, "1:0", "6:1");
        Check.same("refused, an eleventh", Check.ISE, Check.rule(full, "E="));
        stillFound(full);
    }

    private static void compile() {
        Check.about("Promise 4: The states are made: how many there are");
        RepairDesk least = Check.desk("F=");
        Check.due("two at least", 2, least::compile);
        Check.due("again", 2, least::compile);
        Check.same("a letter more", 1, Check.rule(least, "F=f"));
        Check.due("three", 3, least::compile);
        RepairDesk most = tenRules();
        Check.due("of ten rules", 12, most::compile);
    }

    private static void compileForgets() {
        Check.about("Promise 4: What was found is forgotten (also when it throws)");
        RepairDesk desk = withFinds();
        Check.due("compile", 8, desk::compile);
        Check.nothingFound(desk, "compile");
        Check.isText(desk, "aabab");
        Check.due("still compiled", 3, desk::parse);
        Check.isTrue("cost", desk.cost(1, false, 2));
        Check.due("compile", 8, desk::compile);
        Check.finds(desk, 0, 1, "6:1");
    }

    private static void compileRefused() {
        Check.about("Promise 4: IllegalStateException when there are no rules");
        RepairDesk empty = new RepairDesk();
        Check.same("a wrong rule is none", Check.IAE, Check.rule(empty, "A=x"));
        Check.due("no rules", Check.ISE, empty::compile);
        Check.due("again", Check.ISE, empty::compile);
        Check.about("Promise 4: UnsupportedOperationException when no row of letters comes of the start, .. nothing is compiled");
        String[][] refused = {{"A=A"}, {"A=B"}, {"A=aAb"}, {"A=B", "B=A", "C=c"}, {"A=aB", "B=bC", "C=cA", "D="},
            {"A=AA", "A=a"}, {"A=BC", "B=a", "B=", "C=a", "C="}};
        for (String[] rules : refused) {
            RepairDesk desk = Check.desk(rules);
            String name = String.join(" ", rules);
            for (int i = 0; i < 2; i++) {
                Check.due(name, Check.UOE, desk::compile);
                Check.same(name + ": states", 0, desk.count(1));
                Check.same(name + ": items", 0, desk.count(2));
                Check.due(name + ": parse", Check.ISE, desk::parse);
                Check.due(name + ": repair", Check.ISE, () -> desk.repair(0));
                Check.nothingFound(desk, name);
            }
            Check.same(name + ": the rules stay", rules.length, desk.count(0));
        }
        // The next rule may make it one that can be compiled.
        RepairDesk later = Check.desk("A=aAb");
        Check.due("nothing comes of it", Check.UOE, later::compile);
        Check.same("A=", 1, Check.rule(later, "A="));
        Check.due("now something does", 8, later::compile);
        Check.same("A=aa", 2, Check.rule(later, "A=Ab"));
        Check.due("and now it is not good", Check.UOE, later::compile);
        Check.same("no states of before", 0, later.count(1));
    }

    private static void text() {
        Check.about("Promise 5: The line, up to 8 letters, becomes the text (it is empty then): its length");
        RepairDesk desk = new RepairDesk();
        for (int length = 8; length >= 0; length--) {
            String letters = "fedcbafe".substring(0, length);
            Check.same("text " + letters, length, Check.text(desk, letters));
            Check.isText(desk, letters);
            Check.same("none behind it", -1, desk.letter(length));
        }
        Check.same("eight", 8, Check.text(desk, "abcdefab"));
        Check.due("the line is empty then", 0, desk::text);
        Check.isText(desk, "");
    }

    private static void textRefused() {
        Check.about("Promise 5: IllegalArgumentException when it is not so");
        RepairDesk desk = new RepairDesk();
        Check.same("a text", 2, Check.text(desk, "fa"));
        String[] wrong = {"aaaaaaaaa", "aaaaaaaaaa", "g", "`", "A", "F", "aaaaaaag", "gaaaaaaa", "a a", " ", " a", "a ", "=",
            "A=a", "~", "aaaaaaaaA"};
        for (String line : wrong) {
            Check.same("'" + line + "'", Check.IAE, Check.text(desk, line));
            Check.isText(desk, "fa");
            Check.due("the line is empty behind it", Check.IAE, desk::rule);
        }
        Check.same("a text again", 8, Check.text(desk, "abcdefab"));
    }

    private static void textForgets() {
        Check.about("Promise 5: What was found is forgotten");
        RepairDesk desk = withFinds();
        Check.same("the same text", 5, Check.text(desk, "aabab"));
        Check.nothingFound(desk, "text");
        Check.due("still compiled", 3, desk::parse);
        Check.finds(desk, 0, 1, "1:0", "6:1");
        Check.same("refused", Check.IAE, Check.text(desk, "aabag"));
        stillFound(desk);
        Check.same("refused, nine", Check.IAE, Check.text(desk, "aaaaaaaaa"));
        stillFound(desk);
        Check.same("the empty text", 0, Check.text(desk, ""));
        Check.nothingFound(desk, "the empty text");
    }

    private static void cost() {
        Check.about("Promise 6: The cost of putting a letter (0 .. 5) in, or of taking it out, becomes c: true");
        RepairDesk desk = Check.compiled(PAIRS);
        Check.isTrue("PUT b", desk.cost(1, false, 3));
        Check.repairs(desk, "a", 1, 3, "1:0");
        Check.isTrue("TAKE b is another cost", desk.cost(1, true, 1));
        Check.finds(desk, 1, 3, "1:0");
        Check.isTrue("and so is PUT a", desk.cost(0, false, 2));
        Check.finds(desk, 1, 3, "1:0");
        Check.isTrue("PUT b", desk.cost(1, false, 2));
        Check.same("what was found keeps its price", 3, desk.price());
        Check.finds(desk, 1, 2, "1:0");
        Check.isTrue("the same again", desk.cost(1, false, 2));
        Check.finds(desk, 1, 2, "1:0");
        Check.isTrue("PUT b", desk.cost(1, false, 1));
        Check.finds(desk, 1, 1, "1:0");
    }

    private static void costRefused() {
        Check.about("Promise 6: false when there is no such letter, or c is not 1 .. 3");
        RepairDesk desk = Check.compiled("A=abcB", "B=def");
        boolean[] ways = {false, true};
        for (boolean out : ways) {
            for (int letter = 0; letter < 6; letter++) {
                Check.isFalse("0", desk.cost(letter, out, 0));
                Check.isFalse("4", desk.cost(letter, out, 4));
                Check.isFalse("-1", desk.cost(letter, out, -1));
            }
            for (int c = 0; c <= 4; c++) {
                Check.isFalse("letter -1", desk.cost(-1, out, c));
                Check.isFalse("letter 6", desk.cost(6, out, c));
            }
            for (int far : FAR) {
                Check.isFalse("letter " + far, desk.cost(far, out, 3));
                Check.isFalse("cost " + far, desk.cost(5, out, far));
                Check.isFalse("both " + far, desk.cost(far, out, far));
            }
        }
        // All costs are 1 still.
        Check.repairs(desk, "def", 3, 3, "012:3");
        Check.repairs(desk, "abc", 3, 3, "345:0");
        Check.repairs(desk, "abcdefff", 3, 2, "66:0");
        Check.repairs(desk, "abcdefae", 3, 2, "66:0");
        Check.repairs(desk, "abcdefbc", 3, 2, "66:0");
        Check.repairs(desk, "abcdefd", 3, 1, "6:0");
    }

    private static void parse() {
        Check.about("Promise 7: -1 it is a sentence; else where it goes wrong");
        RepairDesk desk = Check.compiled("A=BA", "A=", "B=ab");
        Check.parses(desk, "", -1);
        Check.parses(desk, "abababab", -1);
        Check.parses(desk, "abababaa", 7);
        Check.parses(desk, "bbbbbbbb", 0);
        Check.parses(desk, "abababa", 7);
        Check.parses(desk, "ababab", -1);
        Check.parses(desk, "ababaf", 5);
        for (int i = 0; i < 3; i++) {
            Check.due("it changes nothing", 5, desk::parse);
        }
        Check.isText(desk, "ababaf");
    }

    private static void parseRefused() {
        Check.about("Promise 7: IllegalStateException when nothing is compiled");
        RepairDesk desk = new RepairDesk();
        Check.due("new", Check.ISE, desk::parse);
        Check.same("A=", 0, Check.rule(desk, "A="));
        Check.due("not compiled", Check.ISE, desk::parse);
        Check.due("compile", 2, desk::compile);
        Check.due("compiled", -1, desk::parse);
        Check.same("A=A", 1, Check.rule(desk, "A=A"));
        Check.due("a new rule", Check.ISE, desk::parse);
        Check.due("not good", Check.UOE, desk::compile);
        Check.due("nothing is compiled then", Check.ISE, desk::parse);
    }

    private static void repairNone() {
        Check.about("Promise 8: 0 when there are none, or the text does not go wrong");
        RepairDesk desk = Check.compiled(PAIRS);
        for (int guard = 0; guard <= 3; guard++) {
            Check.repairs(desk, "", guard, 0);
            Check.repairs(desk, "aaaabbbb", guard, 0);
        }
        Check.repairs(desk, "aaaa", 1, 0);
        Check.repairs(desk, "aaaa", 0, 1, "0:0", "1:0");
        Check.repairs(desk, "fffffff", 1, 0);
        Check.isText(desk, "fffffff");
    }

    private static void repairRefused() {
        Check.about("Promise 8: IllegalStateException when nothing is compiled");
        RepairDesk bare = Check.desk(PAIRS);
        for (int guard = -1; guard <= 4; guard++) {
            int wanted = guard;
            Check.due("guard " + guard, Check.ISE, () -> bare.repair(wanted));
        }
        Check.about("Promise 8: IllegalArgumentException when guard is not 0 .. 3");
        RepairDesk desk = Check.compiled(PAIRS);
        Check.text(desk, "ba");
        int[] counts = {Check.IAE, 2, 2, 3, 3, Check.IAE};
        for (int guard = -1; guard <= 4; guard++) {
            int wanted = guard;
            Check.due("guard " + guard, counts[guard + 1], () -> desk.repair(wanted));
        }
        for (int far : FAR) {
            Check.due("guard " + far, Check.IAE, () -> desk.repair(far));
        }
        Check.text(desk, "ab");
        Check.due("also when the text does not go wrong", Check.IAE, () -> desk.repair(4));
    }

    private static void repairForty() {
        Check.about("Promise 8: UnsupportedOperationException when there are more than 40");
        RepairDesk forty = Check.compiled(FORTY);
        Check.due("40", 40, () -> forty.repair(1));
        Set<String> all = new HashSet<>();
        String before = "";
        for (int k = 0; k < 40; k++) {
            String steps = Check.stepsOf(forty, k);
            Check.isTrue(before + " comes before " + steps, before.compareTo(steps) < 0);
            Check.same("steps of " + steps, 3, steps.length());
            all.add(steps);
            before = steps;
        }
        Check.same("all are different", 40, all.size());
        Check.nothingFrom(forty, "40", 40);
        Check.due("the last of them", 3, () -> forty.apply(39));
        Check.isText(forty, "deb");
        String[] more = java.util.Arrays.copyOf(FORTY, 10);
        more[9] = "A=fff";
        RepairDesk fortyOne = Check.compiled(more);
        Check.due("41", Check.UOE, () -> fortyOne.repair(1));
        Check.about("Promise 8: none are found then");
        Check.nothingFound(fortyOne, "41");
        for (int k = 0; k <= 41; k++) {
            Check.same("step of " + k, -1, fortyOne.step(k, 0));
        }
        Check.isText(fortyOne, "");
        Check.same("still compiled", fortyOne.count(1), Check.answerOf(fortyOne::compile));
        // The first letter alone is cheap: five repairs of cost 1, though far more cost 3.
        Check.due("guard 0", 5, () -> fortyOne.repair(0));
        RepairDesk many = Check.compiled("A=BBBf", "B=a", "B=b", "B=c", "B=d", "B=e");
        Check.text(many, "f");
        Check.due("125", Check.UOE, () -> many.repair(1));
        Check.nothingFound(many, "125");
    }

    private static void repairForgets() {
        Check.about("Promise 8: What was found before is forgotten, also when it throws");
        RepairDesk desk = withFinds();
        Check.due("another guard", 1, () -> desk.repair(1));
        Check.nothingFrom(desk, "another guard", 1);
        Check.finds(desk, 0, 1, "1:0", "6:1");
        Check.due("refused", Check.IAE, () -> desk.repair(-1));
        Check.nothingFound(desk, "refused");
        Check.same("still compiled", 8, desk.count(1));
        RepairDesk five = Check.compiled("A=BBB", "B=a", "B=b", "B=c", "B=d");
        Check.due("four", 4, () -> five.repair(0));
        Check.due("more than forty", Check.UOE, () -> five.repair(1));
        Check.nothingFound(five, "more than forty");
        RepairDesk none = withFinds();
        Check.isTrue("dear", none.cost(1, false, 3));
        Check.repairs(none, "aa", 1, 0);
        Check.nothingFound(none, "none");
    }

    private static void step() {
        Check.about("Promise 9: 0 .. 5 PUT that letter, 6 TAKE, 7 PASS; -1 when there is none");
        RepairDesk desk = Check.compiled(PAIRS);
        Check.repairs(desk, "ba", 2, 2, "076:0", "66:0", "671:0");
        int[][] steps = {{0, 7, 6}, {6, 6, -1}, {6, 7, 1}, {-1, -1, -1}};
        for (int k = -1; k <= 4; k++) {
            for (int i = -7; i <= 13; i++) {
                int want = k >= 0 && k < 3 && i >= 0 && i < 3 ? steps[k][i] : -1;
                Check.same("step " + k + " " + i, want, desk.step(k, i));
            }
        }
        for (int far : FAR) {
            Check.same("step " + far + " 0", -1, desk.step(far, 0));
            Check.same("step 0 " + far, -1, desk.step(0, far));
            Check.same("step both " + far, -1, desk.step(far, far));
            Check.same("step 2 " + far, -1, desk.step(2, far));
        }
        // The longest: three that cost, and three passed by.
        RepairDesk six = Check.compiled("A=abcB", "B=deab");
        Check.repairs(six, "bceb", 3, 3, "077370:1");
        Check.same("the sixth", 0, six.step(0, 5));
        Check.same("no seventh", -1, six.step(0, 6));
    }

    private static void price() {
        Check.about("Promise 10: The cost of the repairs that were found; 0 when there are none");
        RepairDesk desk = Check.compiled("A=abc");
        Check.same("nothing was looked for", 0, desk.price());
        String[] texts = {"abc", "ab", "a", "", "dddd"};
        int[] prices = {0, 1, 2, 3, 0};
        for (int i = 0; i < texts.length; i++) {
            Check.text(desk, texts[i]);
            Check.due("repair", prices[i] > 0 ? 1 : 0, () -> desk.repair(3));
            Check.same("price of " + texts[i], prices[i], desk.price());
        }
    }

    private static void reach() {
        Check.about("Promise 11: The reach of repair k");
        RepairDesk desk = Check.compiled(PAIRS);
        Check.repairs(desk, "baaaaaaa", 0, 1, "0:1", "6:7");
        Check.repairs(desk, "aabab", 0, 1, "1:0", "6:1");
        Check.about("Promise 11: NoSuchElementException when there is none");
        for (int k = -3; k <= 42; k++) {
            int number = k;
            int want = k == 0 || k == 1 ? k : Check.NSE;
            Check.due("reach " + k, want, () -> desk.reach(number));
        }
        for (int far : FAR) {
            Check.due("reach " + far, Check.NSE, () -> desk.reach(far));
        }
        Check.same("it changes nothing", 1, desk.price());
    }

    private static void applied(RepairDesk desk, int k, String due) {
        Check.due("apply " + k, due.length(), () -> desk.apply(k));
        Check.isText(desk, due);
    }

    private static void apply() {
        Check.about("Promise 12: The text is repaired by repair k: its new length");
        RepairDesk desk = Check.compiled(PAIRS);
        String[] repairs = {"0766:0", "666:0", "6671:0", "6716:0", "67711:0"};
        String[] texts = {"ab", "", "ab", "ab", "aabb"};
        for (int k = 0; k < repairs.length; k++) {
            Check.repairs(desk, "baa", 3, 3, repairs);
            applied(desk, k, texts[k]);
            Check.due("a sentence now", -1, desk::parse);
        }
        // What stands behind the last step stays, also where the text goes wrong again.
        Check.repairs(desk, "aabaccff", 0, 1, "1:0", "6:0");
        applied(desk, 1, "aabccff");
        Check.due("the next place", 3, desk::parse);
        Check.finds(desk, 0, 1, "1:0", "6:0");
        applied(desk, 0, "aabbccff");
        Check.due("further", 4, desk::parse);
    }

    private static void applyNone() {
        Check.about("Promise 12: NoSuchElementException when there is none");
        RepairDesk desk = withFinds();
        for (int k = -2; k <= 42; k++) {
            int number = k;
            if (k < 0 || k > 1) {
                Check.due("apply " + k, Check.NSE, () -> desk.apply(number));
            }
        }
        for (int far : FAR) {
            Check.due("apply " + far, Check.NSE, () -> desk.apply(far));
        }
        stillFound(desk);
    }

    /** A row of ab, made longer by repairs. */
    private static RepairDesk longText(int length) {
        RepairDesk desk = Check.compiled("A=abA", "A=C", "C=ccd", "A=f");
        Check.text(desk, "abababab");
        for (int i = 8; i < length; i++) {
            int put = i % 2;
            Check.isTrue("some repairs", desk.repair(0) > 0);
            int k = 0;
            while (k < 40 && desk.step(k, 0) != put) {
                k++;
            }
            int number = k;
            Check.same("one letter more", i + 1, Check.answerOf(() -> desk.apply(number)));
        }
        Check.isText(desk, "abababababababab".substring(0, length));
        return desk;
    }

    private static void applySixteen() {
        Check.about("Promise 12: IllegalStateException when it would have more than 16 letters");
        RepairDesk thirteen = longText(13);
        thirteen.cost(5, false, 3);
        Check.finds(thirteen, 1, 0);
        RepairDesk fourteen = longText(14);
        fourteen.cost(5, false, 3);
        Check.finds(fourteen, 1, 3, "223:0", "5:0");
        Check.due("17", Check.ISE, () -> fourteen.apply(0));
        Check.isText(fourteen, "ababababababab");
        applied(fourteen, 1, "ababababababab" + "f");
        RepairDesk fifteen = longText(15);
        Check.finds(fifteen, 1, 2, "15:0");
        Check.due("17", Check.ISE, () -> fifteen.apply(0));
        Check.finds(fifteen, 0, 1, "1:0");
        applied(fifteen, 0, "abababababababab");
        Check.same("the sixteenth", 1, fifteen.letter(15));
        Check.same("no seventeenth", -1, fifteen.letter(16));
        Check.due("it goes wrong at its end", 16, fifteen::parse);
        Check.finds(fifteen, 0, 1, "0:0", "2:0", "5:0");
        for (int k = 0; k < 3; k++) {
            int number = k;
            Check.due("17", Check.ISE, () -> fifteen.apply(number));
            Check.same("refused: nothing is forgotten", 1, fifteen.price());
            Check.isText(fifteen, "abababababababab");
        }
        Check.due("none is named before", Check.NSE, () -> fifteen.apply(3));
        threeMore();
        sixteenStay();
    }

    /** Thirteen and three are sixteen, fourteen and three are too many. */
    private static void threeMore() {
        RepairDesk desk = Check.compiled("A=aA", "A=bcd");
        for (int length = 13; length <= 14; length++) {
            String letters = "aaaaaaaaaaaaaa".substring(0, length);
            Check.text(desk, "aaaaaaaa");
            for (int i = 8; i < length; i++) {
                Check.finds(desk, 0, 1, "0:0", "1:0");
                Check.same("apply", i + 1, Check.answerOf(() -> desk.apply(0)));
            }
            Check.isText(desk, letters);
            Check.finds(desk, 1, 3, "123:0");
            Check.due("three more", length == 13 ? 16 : Check.ISE, () -> desk.apply(0));
            Check.isText(desk, length == 13 ? letters + "bcd" : letters);
        }
    }

    /** Fifteen a and then a letter that is wrong: a is put in before it, again and again. */
    private static RepairDesk wrongSixteenth(String last) {
        RepairDesk desk = Check.compiled("A=aA", last);
        Check.text(desk, "aaaaaaac");
        for (int length = 9; length <= 16; length++) {
            int due = length;
            Check.finds(desk, 0, 1, "0:0", "1:0", "6:0");
            Check.due("apply", due, () -> desk.apply(0));
        }
        Check.isText(desk, "aaaaaaaaaaaaaaac");
        Check.due("parse", 15, desk::parse);
        return desk;
    }

    /** Between the steps it may be longer; what counts is how long it would be behind them. */
    private static void sixteenStay() {
        RepairDesk stays = wrongSixteenth("A=b");
        Check.finds(stays, 3, 2, "16:0");
        applied(stays, 0, "aaaaaaaaaaaaaaab");
        Check.due("a sentence", -1, stays::parse);
        RepairDesk grows = wrongSixteenth("A=bd");
        Check.finds(grows, 3, 3, "136:0");
        Check.due("17", Check.ISE, () -> grows.apply(0));
        Check.isText(grows, "aaaaaaaaaaaaaaac");
        Check.finds(grows, 0, 1, "0:0", "1:0", "6:0");
        applied(grows, 2, "aaaaaaaaaaaaaaa");
    }

    private static void applyForgets() {
        Check.about("Promise 12: What was found is forgotten");
        RepairDesk desk = withFinds();
        applied(desk, 1, "aabb");
        Check.nothingFound(desk, "applied");
        Check.nothingFrom(desk, "applied", 1);
        Check.same("still compiled", 8, desk.count(1));
        Check.due("parse", -1, desk::parse);
    }

    private static void letter() {
        Check.about("Promise 13: The letter (0 .. 5) at a place of the text; -1 when there is none");
        RepairDesk desk = new RepairDesk();
        Check.text(desk, "abcdefab");
        for (int i = -3; i <= 20; i++) {
            Check.same("letter " + i, i >= 0 && i < 8 ? i % 6 : -1, desk.letter(i));
        }
        for (int far : FAR) {
            Check.same("letter " + far, -1, desk.letter(far));
        }
        Check.text(desk, "f");
        Check.same("letter 0", 5, desk.letter(0));
        Check.same("none of the old text", -1, desk.letter(1));
    }

    private static void count() {
        Check.about("Promise 14: How many rules there are (what = 0), states (1; 0 when nothing is compiled), items");
        RepairDesk desk = new RepairDesk();
        Check.same("no rules", 0, desk.count(0));
        Check.rule(desk, "A=a");
        Check.same("one rule", 1, desk.count(0));
        Check.same("nothing is compiled: states", 0, desk.count(1));
        Check.same("nothing is compiled: items", 0, desk.count(2));
        desk.compile();
        Check.same("states", 3, desk.count(1));
        Check.same("items", 4, desk.count(2));
        Check.rule(desk, "A=B");
        Check.same("a rule that is left out counts", 2, desk.count(0));
        Check.same("forgotten: states", 0, desk.count(1));
        Check.same("forgotten: items", 0, desk.count(2));
        desk.compile();
        Check.same("states", 3, desk.count(1));
        Check.same("items", 4, desk.count(2));
        Check.about("Promise 14: -1 for others");
        for (int what = -5; what <= 8; what++) {
            int[] known = {2, 3, 4};
            Check.same("count " + what, what >= 0 && what <= 2 ? known[what] : -1, desk.count(what));
        }
        for (int far : FAR) {
            Check.same("count " + far, -1, desk.count(far));
        }
    }
}
