/** Counts the answers that are not as due, and ends a test with exit code 1 if there was one. */
final class Check {
    static final int IAE = -1001;
    static final int ISE = -1002;
    static final int UOE = -1003;
    static final int NSE = -1004;
    static final int OTHER = -1005;

    private static final int MOST_PRINTED = 60;
    /** More letters or steps than there ever are: a fault there is to be seen, not to hang the test. */
    private static final int MOST_READ = 40;
    private static int wrong;
    private static int asked;
    private static int sentences;
    private static int askedBefore;
    private static String sentence = "";

    private Check() {
    }

    /** One call of the face; what it throws becomes one of the numbers above. */
    interface Call {
        int answer();
    }

    /** From here on answers are asked about this sentence of the document, which is printed with a wrong one. */
    static void about(String words) {
        endOfSentence();
        sentence = "[" + words + "] ";
        sentences++;
        askedBefore = asked;
    }

    /** A sentence of which nothing is asked has no test. */
    private static void endOfSentence() {
        if (sentences > 0 && asked == askedBefore) {
            wrong++;
            System.out.println(sentence + "nothing was asked");
        }
    }

    static int answerOf(Call call) {
        try {
            return call.answer();
        } catch (RuntimeException e) {
            return numberOf(e.getClass());
        }
    }

    /** By the very class: one below it would be another exception than the document names. */
    private static int numberOf(Class<?> thrown) {
        if (thrown == IllegalArgumentException.class) {
            return IAE;
        }
        if (thrown == IllegalStateException.class) {
            return ISE;
        }
        if (thrown == UnsupportedOperationException.class) {
            return UOE;
        }
        return thrown == java.util.NoSuchElementException.class ? NSE : OTHER;
    }

    static void due(String what, int want, Call call) {
        same(what, want, answerOf(call));
    }

    static void same(String what, int want, int got) {
        asked++;
        if (got != want) {
            wrong++;
            if (wrong > MOST_PRINTED) {
                return;
            }
            System.out.println(sentence + what + " answered " + got + ", due is " + want);
        }
    }

    static void isTrue(String what, boolean got) {
        same(what, 1, got ? 1 : 0);
    }

    static void isFalse(String what, boolean got) {
        same(what, 0, got ? 1 : 0);
    }

    static void end() {
        endOfSentence();
        String about = sentences > 0 ? " about " + sentences + " sentences" : "";
        System.out.println(asked + " answers" + about + ", " + wrong + " not as due");
        if (wrong != 0) {
            System.exit(1);
        }
    }

    static void writeLine(RepairDesk desk, String line) {
        for (char c : line.toCharArray()) {
            desk.write(c);
        }
    }

    static int rule(RepairDesk desk, String line) {
        writeLine(desk, line);
        return answerOf(desk::rule);
    }

    static int text(RepairDesk desk, String line) {
        writeLine(desk, line);
        return answerOf(desk::text);
    }

    static RepairDesk desk(String... rules) {
        RepairDesk desk = new RepairDesk();
        for (int i = 0; i < rules.length; i++) {
            same("rule " + rules[i], i, rule(desk, rules[i]));
        }
        return desk;
    }

    static RepairDesk compiled(String... rules) {
        RepairDesk desk = desk(rules);
        isTrue("compile", answerOf(desk::compile) > 0);
        return desk;
    }

    /** A text is written and parsed: where it goes wrong. */
    static void parses(RepairDesk desk, String text, int want) {
        same("text " + text, text.length(), text(desk, text));
        due("parse " + text, want, desk::parse);
    }

    /** The best repairs of a text; each is written as its steps, a colon, and its reach. */
    static void repairs(RepairDesk desk, String text, int guard, int price, String... due) {
        same("text " + text, text.length(), text(desk, text));
        finds(desk, guard, price, due);
    }

    /** The best repairs of the text that is there. */
    static void finds(RepairDesk desk, int guard, int price, String... due) {
        String name = textOf(desk) + " guard " + guard;
        due(name + ": repairs", due.length, () -> desk.repair(guard));
        same(name + ": price", price, desk.price());
        for (int k = 0; k < due.length; k++) {
            int number = k;
            String got = stepsOf(desk, k) + ":" + answerOf(() -> desk.reach(number));
            isTrue(name + ": repair " + k + " is " + got + ", due " + due[k], got.equals(due[k]));
        }
        nothingFrom(desk, name, due.length);
    }

    /** There is no repair k. */
    static void nothingFrom(RepairDesk desk, String name, int k) {
        same(name + ": no step of " + k, -1, desk.step(k, 0));
        due(name + ": no reach of " + k, NSE, () -> desk.reach(k));
        due(name + ": none to apply at " + k, NSE, () -> desk.apply(k));
    }

    /** No repairs are found at all. */
    static void nothingFound(RepairDesk desk, String name) {
        same(name + ": no price", 0, desk.price());
        nothingFrom(desk, name, 0);
    }

    static void isText(RepairDesk desk, String want) {
        isTrue("the text is " + textOf(desk) + ", due " + want, textOf(desk).equals(want));
    }

    static String textOf(RepairDesk desk) {
        StringBuilder letters = new StringBuilder();
        for (int i = 0; i < MOST_READ && desk.letter(i) >= 0; i++) {
            letters.append((char) ('a' + desk.letter(i)));
        }
        return letters.toString();
    }

    static String stepsOf(RepairDesk desk, int k) {
        StringBuilder steps = new StringBuilder();
        for (int i = 0; i < MOST_READ && desk.step(k, i) >= 0; i++) {
            steps.append(desk.step(k, i));
        }
        return steps.toString();
    }
}
