/** Promises 1 (a new object), 2 (write), 3 (rule), 5 (text), 6 (cost) and 13 (letter). */
public final class LineTest {
    public static void main(String[] args) {
        newObject();
        write();
        goodRules();
        wrongRules();
        tenRules();
        ruleForgets();
        text();
        textForgets();
        cost();
        letter();
        Check.end();
    }

    private static void newObject() {
        RepairDesk desk = new RepairDesk();
        Check.same("new: rules", 0, desk.count(0));
        Check.same("new: states", 0, desk.count(1));
        Check.same("new: items", 0, desk.count(2));
        Check.same("new: letter", -1, desk.letter(0));
        Check.same("new: price", 0, desk.price());
        Check.same("new: step", -1, desk.step(0, 0));
        Check.due("new: reach", Check.NSE, () -> desk.reach(0));
        Check.due("new: apply", Check.NSE, () -> desk.apply(0));
        Check.due("new: parse", Check.ISE, desk::parse);
        Check.due("new: repair", Check.ISE, () -> desk.repair(0));
        Check.due("new: compile", Check.ISE, desk::compile);
        Check.due("new: empty line is no rule", Check.IAE, desk::rule);
        Check.due("new: empty line is a text", 0, desk::text);
    }

    private static void write() {
        RepairDesk desk = new RepairDesk();
        Check.isFalse("31", desk.write((char) 31));
        Check.isFalse("127", desk.write((char) 127));
        Check.isFalse("0", desk.write((char) 0));
        Check.isFalse("65535", desk.write((char) 65535));
        Check.isFalse("256 + a", desk.write((char) (256 + 'a')));
        Check.isTrue("32", desk.write((char) 32));
        Check.isTrue("126", desk.write((char) 126));
        for (int i = 2; i < 10; i++) {
            Check.isTrue("sign " + i, desk.write('a'));
        }
        Check.isFalse("sign 10", desk.write('a'));
        Check.due("ten signs are no text", Check.IAE, desk::text);
        Check.isTrue("the line is empty then", desk.write('a'));
        Check.due("one letter", 1, desk::text);
        Check.isFalse("none such", desk.write('\n'));
        Check.due("it was not appended", 0, desk::text);
    }

    private static void goodRules() {
        RepairDesk desk = Check.desk("A=", "A=abcd", "F=fFfF", "B=A", "A=abc", "A=abce", "B=abcd");
        Check.same("seven rules", 7, desk.count(0));
    }

    private static void wrongRules() {
        RepairDesk desk = Check.desk("A=ab", "B=");
        String[] wrong = {"", "A", "=", "A=ab", "B=", "a=b", "G=a", "A-a", "A=g", "A=G", "A=abcde", "A=a ", " A=a",
            "A =a", "AA=a", "A==", "A=a=", "A=abcdefgh", "@=a", "A=`", "A=@", "a", "ab", "Aa="};
        for (String line : wrong) {
            Check.same("rule '" + line + "'", Check.IAE, Check.rule(desk, line));
            Check.due("the line is empty behind it", 0, desk::text);
        }
        Check.same("still two", 2, desk.count(0));
        Check.same("the next number", 2, Check.rule(desk, "A=abc"));
    }

    private static void tenRules() {
        RepairDesk desk = Check.desk("A=a", "A=b", "A=c", "A=d", "A=e", "A=f", "A=aa", "A=bb", "A=cc", "A=dd");
        Check.same("an eleventh", Check.ISE, Check.rule(desk, "A=ee"));
        Check.due("the line is empty then", 0, desk::text);
        Check.same("one alike comes first", Check.IAE, Check.rule(desk, "A=dd"));
        Check.same("none comes first", Check.IAE, Check.rule(desk, "A=g"));
        Check.same("ten", 10, desk.count(0));
        Check.due("compile", 12, desk::compile);
        Check.same("an eleventh again", Check.ISE, Check.rule(desk, "A=ee"));
        Check.same("a rule that is refused forgets nothing", 12, desk.count(1));
    }

    private static RepairDesk withFinds() {
        RepairDesk desk = Check.compiled("A=aAb", "A=");
        Check.same("text", 3, Check.text(desk, "aab"));
        Check.due("repair", 1, () -> desk.repair(0));
        return desk;
    }

    private static void ruleForgets() {
        RepairDesk desk = withFinds();
        Check.same("a wrong rule", Check.IAE, Check.rule(desk, "A=aAb"));
        Check.same("forgets no states", 8, desk.count(1));
        Check.same("forgets no repairs", 1, desk.price());
        Check.same("a new rule", 2, Check.rule(desk, "B=b"));
        Check.same("forgets the states", 0, desk.count(1));
        Check.same("forgets the items", 0, desk.count(2));
        Check.same("forgets the price", 0, desk.price());
        Check.same("forgets the steps", -1, desk.step(0, 0));
        Check.due("forgets the reach", Check.NSE, () -> desk.reach(0));
        Check.due("cannot parse", Check.ISE, desk::parse);
        Check.due("cannot repair", Check.ISE, () -> desk.repair(0));
        Check.isTrue("keeps the text", Check.textOf(desk).equals("aab"));
    }

    private static void text() {
        RepairDesk desk = new RepairDesk();
        Check.same("eight letters", 8, Check.text(desk, "abcdefab"));
        String[] wrong = {"abcdefabc", "abcg", "A", "a b", "=", "abcdefabcd", "aB", "`"};
        for (String line : wrong) {
            Check.same("text '" + line + "'", Check.IAE, Check.text(desk, line));
            Check.isTrue("the text stays", Check.textOf(desk).equals("abcdefab"));
        }
        Check.same("a shorter one", 2, Check.text(desk, "fe"));
        Check.isTrue("it is there", Check.textOf(desk).equals("fe"));
        Check.same("the empty one", 0, Check.text(desk, ""));
        Check.same("no letter", -1, desk.letter(0));
    }

    private static void textForgets() {
        RepairDesk desk = withFinds();
        Check.same("no text", Check.IAE, Check.text(desk, "x"));
        Check.same("forgets nothing", 1, desk.price());
        Check.same("a text", 3, Check.text(desk, "aab"));
        Check.same("forgets the price", 0, desk.price());
        Check.same("forgets the steps", -1, desk.step(0, 0));
        Check.due("forgets the repairs", Check.NSE, () -> desk.apply(0));
        Check.same("keeps the states", 8, desk.count(1));
    }

    private static void cost() {
        RepairDesk desk = new RepairDesk();
        for (int letter = 0; letter < 6; letter++) {
            for (int c = 1; c <= 3; c++) {
                Check.isTrue("cost in", desk.cost(letter, false, c));
                Check.isTrue("cost out", desk.cost(letter, true, c));
            }
            Check.isFalse("cost 0", desk.cost(letter, false, 0));
            Check.isFalse("cost 4", desk.cost(letter, true, 4));
        }
        int[] noLetters = {-1, 6, Integer.MIN_VALUE, Integer.MAX_VALUE};
        for (int no : noLetters) {
            Check.isFalse("letter " + no, desk.cost(no, true, 1));
            Check.isFalse("letter " + no, desk.cost(no, false, 1));
            Check.isFalse("cost " + no, desk.cost(0, false, no));
        }
        costCounts();
    }

    /** A sentence is abc; "ac" is repaired by PUT b, "aabc" by TAKE a. */
    private static void costCounts() {
        RepairDesk desk = Check.compiled("A=abc");
        Check.text(desk, "ac");
        Check.isTrue("PUT b costs 2", desk.cost(1, false, 2));
        Check.due("repair", 1, () -> desk.repair(1));
        Check.same("price 2", 2, desk.price());
        Check.isTrue("PUT b costs 3", desk.cost(1, false, 3));
        Check.isFalse("a wrong cost changes nothing", desk.cost(1, false, 4));
        Check.same("what was found stays", 2, desk.price());
        Check.due("repair", 1, () -> desk.repair(1));
        Check.same("price 3", 3, desk.price());
        Check.text(desk, "aabc");
        Check.due("repair", 1, () -> desk.repair(1));
        Check.same("taking a is at its first cost", 1, desk.price());
        Check.isTrue("TAKE a costs 2", desk.cost(0, true, 2));
        Check.due("repair", 1, () -> desk.repair(1));
        Check.same("price 2", 2, desk.price());
    }

    private static void letter() {
        RepairDesk desk = new RepairDesk();
        Check.text(desk, "fab");
        Check.same("letter 0", 5, desk.letter(0));
        Check.same("letter 1", 0, desk.letter(1));
        Check.same("letter 2", 1, desk.letter(2));
        int[] none = {-1, 3, 16, 17, Integer.MIN_VALUE, Integer.MAX_VALUE};
        for (int i : none) {
            Check.same("letter " + i, -1, desk.letter(i));
        }
    }
}
