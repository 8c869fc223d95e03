/** The document's terms, sentence by sentence: the cases on both sides of each boundary that they name. */
public final class TermsEdgeTest {
    private static final String[] PAIRS = {"A=aAb", "A="};
    /** The only sentence is abcdef. */
    private static final String[] WORD = {"A=abcB", "B=def"};

    public static void main(String[] args) {
        lettersAndNames();
        upToFour();
        tenRules();
        noTwoAlike();
        start();
        nameWithoutRules();
        emptyRow();
        leftOut();
        places();
        closing();
        longChains();
        oneMoreRule();
        differentSets();
        conflictOfEnds();
        conflictWithLetter();
        noConflict();
        tooGreat();
        wrongAtLetter();
        wrongAtEnd();
        costs();
        fromThereOn();
        lastIsNoPass();
        noPutBehindTake();
        threePasses();
        costOfRepair();
        guards();
        notWrongAtAll();
        beginningAtEachStep();
        leastCost();
        order();
        reach();
        Check.end();
    }

    private static void lettersAndNames() {
        Check.about("LETTERS are a .. f, NAMES A .. F");
        for (char c = 32; c <= 126; c++) {
            boolean isLetter = "abcdef".indexOf(c) >= 0;
            boolean isName = "ABCDEF".indexOf(c) >= 0;
            RepairDesk desk = new RepairDesk();
            Check.same(c + " as a text", isLetter ? 1 : Check.IAE, Check.text(desk, "" + c));
            Check.same(c + " as a left side", isName ? 0 : Check.IAE, Check.rule(desk, c + "=ff"));
            int next = desk.count(0);
            boolean isSymbol = isLetter || isName;
            Check.same(c + " as a right side", isSymbol ? next : Check.IAE, Check.rule(desk, "A=" + c));
            next = desk.count(0);
            Check.same(c + " as the last of four", isSymbol ? next : Check.IAE, Check.rule(desk, "A=bbb" + c));
            next = desk.count(0);
            Check.same(c + " for =", c == '=' ? next : Check.IAE, Check.rule(desk, "B" + c + "b"));
        }
    }

    private static void upToFour() {
        Check.about("a row of up to 4 letters and names on its right");
        RepairDesk desk = Check.desk("A=", "A=F", "A=fA", "A=fAf", "A=fAfA", "F=FFFF", "F=aaaa");
        String[] longer = {"A=fAfAf", "A=FFFFF", "A=aaaaaa", "A=aaaaaaa", "A=aaaaaaaa"};
        for (String line : longer) {
            Check.same(line, Check.IAE, Check.rule(desk, line));
        }
        Check.same("seven rules", 7, desk.count(0));
    }

    private static void tenRules() {
        Check.about("at most 10 rules, numbered as they are made");
        RepairDesk desk = new RepairDesk();
        String[] rules = {"F=f", "A=", "E=eeee", "B=F", "A=a", "F=a", "C=cC", "C=c", "D=", "A=dddd"};
        for (int i = 0; i < rules.length; i++) {
            Check.same("rules before " + rules[i], i, desk.count(0));
            Check.same(rules[i], i, Check.rule(desk, rules[i]));
        }
        Check.same("an eleventh", Check.ISE, Check.rule(desk, "F=b"));
        Check.same("ten", 10, desk.count(0));
        Check.due("f and a alone come of the start", 4, desk::compile);
        Check.parses(desk, "f", -1);
        Check.parses(desk, "a", -1);
        Check.parses(desk, "b", 0);
    }

    private static void noTwoAlike() {
        Check.about("no two alike");
        RepairDesk desk = Check.desk("A=ab", "B=ab", "A=a", "A=abc", "A=ac", "A=aB", "A=ba", "A=", "B=", "C=Cccc");
        String[] known = {"A=ab", "B=ab", "A=a", "A=abc", "A=ac", "A=aB", "A=ba", "A=", "B=", "C=Cccc"};
        for (String line : known) {
            Check.same(line + " again", Check.IAE, Check.rule(desk, line));
        }
        Check.same("ten", 10, desk.count(0));
    }

    private static void start() {
        Check.about("The START is the left name of rule 0");
        RepairDesk desk = Check.compiled("F=fA", "A=a", "B=b");
        Check.parses(desk, "fa", -1);
        Check.parses(desk, "a", 0);
        Check.parses(desk, "b", 0);
        RepairDesk leftOut = Check.compiled("C=B", "A=a", "C=c");
        Check.parses(leftOut, "c", -1);
        Check.parses(leftOut, "a", 0);
    }

    private static void nameWithoutRules() {
        Check.about("A name without rules is allowed (nothing comes of it)");
        RepairDesk desk = Check.compiled("A=a", "A=bF");
        Check.due("states", 3, desk::compile);
        Check.parses(desk, "a", -1);
        Check.parses(desk, "b", 0);
        RepairDesk alone = Check.desk("A=F");
        Check.due("nothing comes of the start", Check.UOE, alone::compile);
    }

    private static void emptyRow() {
        Check.about("no row of letters comes (the empty one counts as one)");
        RepairDesk desk = Check.compiled("A=aB", "B=");
        Check.parses(desk, "a", -1);
        RepairDesk empties = Check.compiled("A=BCDE", "B=", "C=BB", "D=CB", "E=DCBB");
        Check.parses(empties, "", -1);
        Check.parses(empties, "a", 0);
    }

    private static void leftOut() {
        Check.about("Rules with a name on the right of which no row of letters comes are LEFT OUT in all that follows");
        // One after the other, F first: each has a name on the right of which nothing comes.
        RepairDesk chain = Check.desk("A=a", "A=bB", "B=cC", "C=dD", "D=eE", "E=fF", "E=E", "B=BB");
        Check.due("chain", 3, chain::compile);
        Check.same("its items", 4, chain.count(2));
        Check.parses(chain, "b", 0);
        // The name may stand first, or last of four.
        RepairDesk places = Check.compiled("A=Fabc", "A=abcF", "A=abFc", "A=d");
        Check.same("states", 3, places.count(1));
        Check.parses(places, "a", 0);
        // With A=aF there were a conflict: the empty B with a ahead, and the letter a.
        RepairDesk conflict = Check.compiled("A=Bab", "B=", "A=aF");
        Check.parses(conflict, "ab", -1);
        // With C=eF the letter e could follow B: two items more.
        RepairDesk follows = Check.compiled("A=BC", "B=b", "C=c", "C=", "C=eF");
        Check.same("items", 12, follows.count(2));
        Check.parses(follows, "be", 1);
        // The forty states of another test, and a rule that is left out.
        RepairDesk great = Check.desk("A=aBcd", "A=bBdc", "B=bbbb", "A=cccc", "A=dddd", "A=eeee", "A=ffff", "A=caaa",
                "A=dab", "A=fabF");
        Check.due("not too great", 39, great::compile);
    }

    private static void places() {
        Check.about("a place in its right side (0 .. its length)");
        RepairDesk none = Check.compiled("A=");
        Check.same("places of an empty right side, and of the one more rule", 3, none.count(2));
        RepairDesk four = Check.compiled("A=abcd");
        Check.same("places of a right side of 4, and of the one more rule", 5 + 2, four.count(2));
        Check.same("states", 6, four.count(1));
    }

    private static void closing() {
        Check.about("with each letter with which some row of letters that comes of w begins");
        // B has c of C, and the END as C may be empty: 4 + 1 + 3 + 2 + 1 + 1 items.
        RepairDesk one = Check.compiled("A=BC", "B=b", "C=c", "C=");
        Check.same("states of BC", 6, one.count(1));
        Check.same("items of BC", 12, one.count(2));
        Check.about("and, if the empty row comes of w, with what may follow the item");
        // w is empty: B has the END alone.
        RepairDesk last = Check.compiled("A=cB", "B=b");
        Check.same("states of cB", 5, last.count(1));
        Check.same("items of cB", 2 + 1 + 2 + 1 + 1, last.count(2));
        // B has c, and d behind an empty C and an empty D.
        RepairDesk far = Check.compiled("A=BCDd", "B=b", "C=c", "C=", "D=");
        Check.same("states of BCDd", 8, far.count(1));
        Check.same("items of BCDd", 15, far.count(2));
        // What comes of w is never empty: the END does not follow B.
        RepairDesk never = Check.compiled("A=BC", "B=b", "C=c");
        Check.same("items of a full C", 3 + 1 + 2 + 1 + 1 + 1, never.count(2));
        Check.parses(never, "b", 1);
    }

    /** What comes of a name is known only behind all rules after it, or before it. */
    private static void longChains() {
        Check.about("CLOSING a set of items: for each item with a name X behind its place .. each rule of X");
        RepairDesk down = Check.compiled("A=B", "B=C", "C=D", "D=E", "E=F", "F=f");
        Check.same("states of a chain", 8, down.count(1));
        Check.same("items of a chain", 7 + 7, down.count(2));
        Check.parses(down, "f", -1);
        RepairDesk mixed = Check.compiled("A=C", "D=d", "B=D", "C=B");
        Check.same("states of a mixed chain", 6, mixed.count(1));
        Check.same("items of a mixed chain", 5 + 5, mixed.count(2));
        Check.parses(mixed, "d", -1);
        RepairDesk empty = Check.compiled("A=Ba", "B=C", "C=D", "D=E", "E=F", "F=");
        Check.parses(empty, "a", -1);
        RepairDesk follows = Check.compiled("A=EB", "E=e", "B=C", "C=D", "D=F", "F=f");
        Check.same("states with f ahead", 9, follows.count(1));
        Check.same("items with f ahead", 15, follows.count(2));
        Check.parses(follows, "ef", -1);
        Check.parses(follows, "ee", 1);
    }

    private static void oneMoreRule() {
        Check.about("There is one more rule, of a name that stands nowhere else, with the start on its right");
        // The start on the right of its own rules: A behind state 0 is another thing than A behind a.
        RepairDesk desk = Check.compiled("A=aA", "A=b");
        Check.same("states", 5, desk.count(1));
        Check.same("items", 9, desk.count(2));
        Check.same("it is no rule that counts", 2, desk.count(0));
        RepairDesk loop = Check.desk("A=a", "A=A");
        Check.due("its end and that of A=A", Check.UOE, loop::compile);
    }

    private static void differentSets() {
        Check.about("States are different sets");
        // Behind ae and be the same place of the same rule, but c may follow there and d here.
        RepairDesk apart = Check.compiled("A=aBc", "A=bBd", "B=e");
        Check.same("states that differ in what may follow", 10, apart.count(1));
        Check.same("their items", 14, apart.count(2));
        RepairDesk once = Check.compiled("A=aBc", "A=bBc", "B=e");
        Check.same("e behind a and behind b is one state", 9, once.count(1));
        Check.same("items", 13, once.count(2));
    }

    private static void isGood(boolean want, String... rules) {
        RepairDesk desk = Check.desk(rules);
        String name = String.join(" ", rules);
        Check.same(name + " is good", want ? 1 : Check.UOE, Check.answerOf(() -> desk.compile() > 0 ? 1 : 0));
        Check.same(name + " is compiled", want ? 1 : 0, desk.count(1) > 0 ? 1 : 0);
    }

    private static void conflictOfEnds() {
        Check.about("an item in it is at its end with what may follow t, and another item is at its end with t");
        isGood(false, "A=B", "A=C", "B=a", "C=a");
        isGood(true, "A=B", "A=C", "B=a", "C=b");
        isGood(false, "A=Bd", "A=Cd", "B=a", "C=a");
        isGood(true, "A=Bd", "A=Ce", "B=a", "C=a");
        isGood(false, "A=B", "A=C", "B=", "C=");
        isGood(false, "A=Ba", "A=Ca", "B=", "C=");
        isGood(true, "A=Ba", "A=Cb", "B=", "C=");
        isGood(false, "A=", "A=A");
        // Here it matters that states with other lookaheads are never merged.
        isGood(true, "A=aBd", "A=bCd", "A=aCe", "A=bBe", "B=c", "C=c");
    }

    private static void conflictWithLetter() {
        Check.about("or has the letter t behind its place");
        isGood(false, "A=Bb", "B=a", "B=ab");
        isGood(true, "A=Bc", "B=a", "B=ab");
        isGood(false, "A=Ba", "A=ab", "B=");
        isGood(true, "A=Ba", "A=bb", "B=");
        isGood(false, "A=Bf", "B=e", "B=ef");
        isGood(false, "A=AA", "A=a");
        isGood(false, "A=aAa", "A=");
    }

    private static void noConflict() {
        Check.about("a CONFLICT is of another rule or place, with the same t, a letter behind the place");
        // The END is no letter.
        isGood(true, "A=a", "A=ab");
        isGood(true, "A=Aa", "A=b");
        // One end with two that may follow.
        isGood(true, "A=Bc", "A=Bd", "B=b");
        // A name behind the place.
        isGood(true, "A=aB", "B=", "B=b");
        // Two places with the same letter behind them.
        isGood(true, "A=ab", "A=ac");
        // Rules that no state has.
        isGood(true, "A=a", "B=C", "B=D", "C=c", "D=c");
    }

    private static void tooGreat() {
        Check.about("it is TOO GREAT, if there are more than 40 states");
        String[] rules = {"A=aBcd", "A=bBdc", "B=bbbb", "A=cccc", "A=dddd", "A=eeee", "A=ffff", "A=caaa", "A=dab", "A=ea"};
        RepairDesk forty = Check.desk(rules);
        Check.due("40", 40, forty::compile);
        Check.same("count", 40, forty.count(1));
        Check.parses(forty, "abbbbcd", -1);
        Check.parses(forty, "bbbbbcd", 5);
        Check.parses(forty, "bbbbbdc", -1);
        Check.parses(forty, "ea", -1);
        Check.parses(forty, "dab", -1);
        rules[9] = "A=ead";
        RepairDesk fortyOne = Check.desk(rules);
        Check.due("41", Check.UOE, fortyOne::compile);
        Check.same("41: nothing is compiled", 0, fortyOne.count(1));
        Check.same("41: no items", 0, fortyOne.count(2));
        // Some hundred states: C behind each of the four B, and so on.
        RepairDesk hundred = Check.desk("A=aBbB", "A=cBdB", "B=eCfC", "B=fCaC", "C=aDbD", "C=cDdD", "D=abcd", "D=cdef");
        Check.due("far more", Check.UOE, hundred::compile);
    }

    private static void wrongAtLetter() {
        Check.about("it goes WRONG at the first letter such that the letters before it and it are the beginning of no sentence");
        RepairDesk desk = Check.compiled(WORD);
        Check.parses(desk, "abcdef", -1);
        Check.parses(desk, "b", 0);
        Check.parses(desk, "aa", 1);
        Check.parses(desk, "abcdea", 5);
        Check.parses(desk, "abcdeff", 6);
        Check.parses(desk, "abcdeffa", 6);
        Check.parses(desk, "bbbbbbbb", 0);
        // b is in no sentence that begins with a, but could be next by the rules of B alone.
        RepairDesk ahead = Check.compiled("A=aBc", "A=bBd", "B=e");
        Check.parses(ahead, "aed", 2);
        RepairDesk empties = Check.compiled("A=BCa", "B=", "C=", "B=b", "C=c");
        Check.parses(empties, "a", -1);
        Check.parses(empties, "bca", -1);
        Check.parses(empties, "cb", 1);
    }

    private static void wrongAtEnd() {
        Check.about("or at its end, if it is the beginning of one, but none itself");
        RepairDesk desk = Check.compiled(WORD);
        Check.parses(desk, "", 0);
        Check.parses(desk, "a", 1);
        Check.parses(desk, "abcde", 5);
        RepairDesk pairs = Check.compiled(PAIRS);
        Check.parses(pairs, "", -1);
        Check.parses(pairs, "aaaaaaaa", 8);
        RepairDesk onlyEmpty = Check.compiled("A=");
        Check.parses(onlyEmpty, "", -1);
        Check.parses(onlyEmpty, "a", 0);
    }

    private static void costs() {
        Check.about("1 .. 3 each, at first 1");
        for (int letter = 0; letter < 6; letter++) {
            String sign = "" + (char) ('a' + letter);
            RepairDesk put = Check.compiled("A=" + sign);
            RepairDesk take = Check.compiled("A=");
            Check.repairs(put, "", 3, 1, letter + ":0");
            Check.repairs(take, sign, 3, 1, "6:0");
            for (int c = 3; c >= 1; c--) {
                Check.isTrue("PUT " + sign, put.cost(letter, false, c));
                Check.finds(put, 3, c, letter + ":0");
                Check.isTrue("TAKE " + sign, take.cost(letter, true, c));
                Check.finds(take, 3, c, "6:0");
            }
        }
    }

    private static void fromThereOn() {
        Check.about("A REPAIR of a text that goes wrong at p is a row of STEPS, from p on");
        // PUT a before all were as cheap, but the text goes wrong at d.
        RepairDesk desk = Check.compiled("A=abcd", "A=bc");
        Check.repairs(desk, "bcd", 3, 1, "6:0");
        // At the end of the text there is nothing to take or to pass by.
        RepairDesk pairs = Check.compiled(PAIRS);
        Check.repairs(pairs, "aaa", 1, 3, "111:0");
    }

    private static void lastIsNoPass() {
        Check.about("the last step is no PASS");
        RepairDesk desk = Check.compiled(WORD);
        Check.repairs(desk, "acdef", 0, 1, "1:4", "6:0");
        Check.repairs(desk, "acdef", 3, 1, "1:4");
    }

    private static void noPutBehindTake() {
        Check.about("no PUT comes right behind a TAKE");
        RepairDesk desk = Check.compiled("A=abc");
        Check.repairs(desk, "adc", 3, 2, "16:1");
        Check.repairs(desk, "aec", 1, 2, "16:1");
        // TAKE behind PUT and behind TAKE, PUT behind PASS and behind PUT, PASS behind TAKE and behind PUT.
        Check.repairs(desk, "ca", 3, 3, "0176:0", "6712:0");
        Check.repairs(desk, "abcddd", 3, 3, "666:0");
    }

    private static void threePasses() {
        Check.about("there are at most 3 PASSES");
        RepairDesk three = Check.compiled("A=abcB", "B=deab");
        Check.repairs(three, "bceb", 3, 3, "077370:1");
        // A fourth letter would have to be passed by: b, c, e and f.
        RepairDesk four = Check.compiled("A=abcB", "B=defC", "C=ab");
        Check.repairs(four, "bcefb", 3, 0);
        Check.repairs(four, "bcefb", 2, 1, "0:2");
    }

    private static void costOfRepair() {
        Check.about("Its cost is that of its PUTs and TAKEs");
        RepairDesk desk = Check.compiled(PAIRS);
        Check.repairs(desk, "ba", 2, 2, "076:0", "66:0", "671:0");
        desk.cost(1, true, 2);
        // TAKE b costs 2 now, in 66 and 671; 076 takes a out.
        Check.finds(desk, 2, 2, "076:0");
        desk.cost(0, true, 2);
        // 076 is 3 now, 671 is 2 + 1, 66 is 4.
        Check.finds(desk, 2, 3, "076:0", "671:0");
        desk.cost(1, false, 2);
        Check.finds(desk, 2, 3, "076:0");
        desk.cost(0, false, 2);
        Check.finds(desk, 2, 0);
    }

    private static void guards() {
        Check.about("goes wrong no earlier than GUARD letters of the rest further");
        RepairDesk desk = Check.compiled(WORD);
        // PUT b: the rest goes wrong 1, 2, 3 letters further.
        Check.repairs(desk, "aca", 1, 1, "1:1");
        Check.repairs(desk, "acda", 2, 1, "1:2");
        Check.repairs(desk, "acdea", 3, 1, "1:3");
        Check.repairs(desk, "acdea", 2, 1, "1:3");
        // One less than the guard is too little: it goes wrong at its end, or at a letter.
        RepairDesk pairs = Check.compiled(PAIRS);
        Check.repairs(pairs, "ba", 1, 1, "0:1", "6:1");
        Check.repairs(pairs, "ba", 2, 2, "076:0", "66:0", "671:0");
        Check.repairs(pairs, "baa", 2, 1, "6:2");
        Check.repairs(pairs, "baa", 3, 3, "0766:0", "666:0", "6671:0", "6716:0", "67711:0");
        // 0 letters: what is taken out helps always.
        Check.repairs(pairs, "cccccccc", 0, 1, "0:0", "6:0");
        Check.repairs(pairs, "cccccccc", 1, 0);
    }

    private static void notWrongAtAll() {
        Check.about("or does not go wrong at all");
        RepairDesk desk = Check.compiled(WORD);
        Check.repairs(desk, "abcdf", 3, 1, "4:1");
        Check.repairs(desk, "abcde", 3, 1, "5:0");
        Check.repairs(desk, "abcdeff", 3, 1, "6:0");
        Check.repairs(desk, "abcef", 3, 1, "3:2");
    }

    private static void beginningAtEachStep() {
        Check.about("if each of its steps lets the new text up to there be the beginning of a sentence");
        RepairDesk desk = Check.compiled(WORD);
        // No other letter may be put in, and taken out again or passed by later.
        Check.repairs(desk, "", 0, 1, "0:0");
        Check.repairs(desk, "def", 3, 3, "012:3");
        Check.repairs(desk, "f", 0, 1, "0:0", "6:0");
        // The letter that is wrong cannot be passed by.
        Check.repairs(desk, "abfc", 3, 0);
    }

    private static void leastCost() {
        Check.about("those that help with the least cost, when that is at most 3");
        RepairDesk desk = Check.compiled(PAIRS);
        Check.repairs(desk, "aaa", 3, 3, "111:0");
        Check.repairs(desk, "aaaa", 3, 0);
        desk.cost(1, false, 3);
        Check.repairs(desk, "a", 3, 3, "1:0");
        Check.repairs(desk, "aa", 3, 0);
        RepairDesk none = Check.compiled("A=");
        Check.repairs(none, "bbb", 3, 3, "666:0");
        Check.repairs(none, "bbbb", 3, 0);
        none.cost(1, true, 2);
        Check.repairs(none, "b", 3, 2, "6:0");
        Check.repairs(none, "bb", 3, 0);
        Check.repairs(none, "bc", 3, 3, "66:0");
        // The cheapest alone, though a dearer one helps too.
        RepairDesk pairs = Check.compiled(PAIRS);
        Check.repairs(pairs, "aabab", 0, 1, "1:0", "6:1");
        pairs.cost(1, false, 2);
        Check.finds(pairs, 0, 1, "6:1");
        pairs.cost(0, true, 3);
        Check.finds(pairs, 0, 2, "1:0");
    }

    private static void order() {
        Check.about("in order, by the first step in which they differ: PUT a, .., PUT f, TAKE, PASS");
        RepairDesk desk = Check.compiled("A=fB", "B=a", "B=b", "B=c", "B=d", "B=e", "B=f");
        Check.repairs(desk, "f", 1, 1, "0:0", "1:0", "2:0", "3:0", "4:0", "5:0");
        Check.repairs(desk, "a", 0, 1, "5:1", "6:0");
        RepairDesk five = Check.compiled("A=B", "B=e", "B=d", "B=c", "B=b", "B=a");
        Check.repairs(five, "f", 0, 1, "0:0", "1:0", "2:0", "3:0", "4:0", "6:0");
        RepairDesk pairs = Check.compiled(PAIRS);
        Check.repairs(pairs, "ba", 2, 2, "076:0", "66:0", "671:0");
    }

    private static void reach() {
        Check.about("how many letters of the rest behind it come before the new text goes wrong");
        RepairDesk desk = Check.compiled(WORD);
        Check.repairs(desk, "abcf", 0, 1, "3:0", "6:0");
        Check.repairs(desk, "acdff", 0, 1, "1:2", "6:0");
        Check.about("all of the rest, if it goes wrong at its end, or not at all");
        Check.repairs(desk, "bcde", 1, 1, "0:4");
        Check.repairs(desk, "bcdef", 1, 1, "0:5");
        Check.repairs(desk, "abcde", 0, 1, "5:0");
        RepairDesk pairs = Check.compiled(PAIRS);
        Check.repairs(pairs, "baaaaaaa", 3, 1, "6:7");
    }
}
