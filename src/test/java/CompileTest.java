/** Promises 4 (compile), 7 (parse) and 14 (count). */
public final class CompileTest {
    public static void main(String[] args) {
        states();
        leftOut();
        refused();
        fortyStates();
        forgets();
        parse();
        count();
        Check.end();
    }

    private static void states(int states, int items, String... rules) {
        RepairDesk desk = Check.desk(rules);
        String name = String.join(" ", rules);
        Check.same(name + ": not yet", 0, desk.count(1));
        Check.due(name, states, desk::compile);
        Check.same(name + ": states", states, desk.count(1));
        Check.same(name + ": items", items, desk.count(2));
        Check.due(name + ": again", states, desk::compile);
        Check.same(name + ": items again", items, desk.count(2));
    }

    private static void states() {
        states(2, 3, "A=");
        states(3, 4, "A=a");
        states(8, 14, "A=aAb", "A=");
        // The well-known one of two lists, of which states with other lookaheads are kept apart.
        states(10, 26, "A=BB", "B=aB", "B=b");
        states(6, 9, "A=Ba", "A=b", "B=c");
        // Left recursion: 5 items with END and a, then 3 behind A, 2 behind b, 2 behind Aa.
        states(4, 12, "A=Aa", "A=b");
        // State 0 has 7 items, the one behind A 1, and those behind B, BB, BBB, BBBB and so on
        // 6 + 6 + 6 + 1, for C 5 + 5 + 5 + 1, and so on.
        states(22, 7 + 1 + 19 + 16 + 13 + 10 + 7, "A=BBBB", "B=CCCC", "C=DDDD", "D=EEEE", "E=FFFF", "F=");
    }

    private static void leftOut() {
        // C has no rules, D and E have no row of letters: all rules with them are left out.
        states(3, 4, "A=a", "A=C", "A=aD", "D=bD", "D=E", "E=D", "B=b");
        // Rule 0 is left out, its name is still the start.
        states(3, 4, "A=bC", "A=a");
        RepairDesk desk = Check.compiled("A=aB", "A=aC", "C=c");
        Check.text(desk, "ac");
        Check.due("ac", -1, desk::parse);
        Check.same("all rules count", 3, desk.count(0));
    }

    private static void refused(int want, String... rules) {
        RepairDesk desk = Check.desk(rules);
        String name = String.join(" ", rules);
        Check.due(name, want, desk::compile);
        Check.same(name + ": rules", rules.length, desk.count(0));
        Check.same(name + ": states", 0, desk.count(1));
        Check.same(name + ": items", 0, desk.count(2));
        Check.due(name + ": parse", Check.ISE, desk::parse);
    }

    private static void refused() {
        refused(Check.ISE);
        // Nothing comes of the start.
        refused(Check.UOE, "A=A");
        refused(Check.UOE, "A=B");
        refused(Check.UOE, "A=aA", "B=b");
        refused(Check.UOE, "A=aB", "B=bA", "C=");
        // Conflicts: two ends with the END; an end and a letter; the root's end and another.
        refused(Check.UOE, "A=B", "A=C", "B=a", "C=a");
        refused(Check.UOE, "A=AA", "A=a");
        refused(Check.UOE, "A=A", "A=a");
        refused(Check.UOE, "A=aAa", "A=");
        refused(Check.UOE, "A=BAc", "A=d", "B=");
        refused(Check.UOE, "A=BaC", "B=", "B=a", "C=a", "C=");
        // The same ends with other letters ahead are no conflict.
        states(9, 16, "A=aBc", "A=aCd", "B=e", "C=e", "A=f");
    }

    private static void fortyStates() {
        String[] rules = {"A=aBcd", "A=bBdc", "B=bbbb", "A=cccc", "A=dddd", "A=eeee", "A=ffff", "A=caaa", "A=dab", "A=ea"};
        RepairDesk forty = Check.desk(rules);
        Check.due("forty states", 40, forty::compile);
        rules[9] = "A=eab";
        refused(Check.UOE, rules);
    }

    private static void forgets() {
        RepairDesk desk = Check.compiled("A=aAb", "A=");
        Check.text(desk, "aab");
        Check.due("repair", 1, () -> desk.repair(0));
        Check.due("compile", 8, desk::compile);
        Check.same("price", 0, desk.price());
        Check.same("step", -1, desk.step(0, 0));
        Check.due("reach", Check.NSE, () -> desk.reach(0));
        Check.isTrue("keeps the text", Check.textOf(desk).equals("aab"));
        Check.due("parse", 3, desk::parse);
    }

    private static void parse(RepairDesk desk, String text, int want) {
        Check.same("text " + text, text.length(), Check.text(desk, text));
        Check.due("parse " + text, want, desk::parse);
        Check.due("parse again " + text, want, desk::parse);
    }

    private static void parse() {
        RepairDesk pairs = Check.compiled("A=aAb", "A=");
        parse(pairs, "", -1);
        parse(pairs, "ab", -1);
        parse(pairs, "aaaabbbb", -1);
        parse(pairs, "aaaaaaaa", 8);
        parse(pairs, "a", 1);
        parse(pairs, "b", 0);
        parse(pairs, "abb", 2);
        parse(pairs, "aba", 2);
        parse(pairs, "aacb", 2);
        RepairDesk sums = Check.compiled("E=EaD", "E=D", "D=b", "D=cEd");
        parse(sums, "babab", -1);
        parse(sums, "cbabdab", -1);
        parse(sums, "baab", 2);
        parse(sums, "cbab", 4);
        parse(sums, "", 0);
        parse(sums, "bd", 1);
        // The letter ahead is looked at before anything is closed: c may not follow the second b.
        RepairDesk ahead = Check.compiled("A=aBc", "A=bBd", "B=e");
        parse(ahead, "aec", -1);
        parse(ahead, "aed", 2);
        parse(ahead, "bec", 2);
        RepairDesk empties = Check.compiled("A=BBBB", "B=CCCC", "C=DDDD", "D=EEEE", "E=FFFF", "F=");
        parse(empties, "", -1);
        parse(empties, "a", 0);
        RepairDesk many = Check.compiled("A=aBBA", "B=CCCC", "C=DDDD", "D=EEEE", "E=FFFF", "F=", "A=");
        parse(many, "aaaaaaaa", -1);
        parse(many, "aaaaaaab", 7);
    }

    private static void count() {
        RepairDesk desk = Check.compiled("A=a");
        int[] others = {-1, 3, 4, Integer.MIN_VALUE, Integer.MAX_VALUE};
        for (int what : others) {
            Check.same("count " + what, -1, desk.count(what));
        }
        Check.same("rules", 1, desk.count(0));
        Check.same("states", 3, desk.count(1));
        Check.same("items", 4, desk.count(2));
    }
}
