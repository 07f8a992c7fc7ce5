/** Terms: The language. */
public final class TermsLanguageTest {
    private static final String DIGITS = "0123456789";
    private static final String FIELDS = "plvh";
    private static final String COMPARISONS = "<>=";
    /** 2 to the power of 63, which wraps round to the least long; the greatest one is 1 below. */
    private static final String LEAST = "8192*8192*8192*8192*2048";

    public static void main(String[] args) {
        Check.all(TermsLanguageTest.class);
    }

    private static void questions(String... texts) {
        for (String text : texts) {
            Values.question(text);
        }
    }

    // ---- the text

    @Says("One text is typed at a time, of at most 40 chars")
    static void aTextOf40CharsIsRun() {
        String text = "1+".repeat(19) + "11";
        Check.due("its length", 40, text.length());
        Values.question(text);
        Values.value(text, 30);
    }

    @Says("One text is typed at a time, of at most 40 chars")
    static void theChar41IsRefused() {
        Check.state(() -> new Desk().write("1+".repeat(19) + "11"), desk -> desk.type('1'));
    }

    @Says("One text is typed at a time")
    static void theTextIsTheOneTypedLast() {
        Desk desk = new Desk().write("1+1");
        Check.due("ask", 2, desk.ask(0, 0));
        desk.type('1');
        Check.due("ask", 12, desk.ask(0, 0));
        Check.due("askByCodes", 12, desk.askByCodes(0, 0));
        desk.write("7");
        Check.due("ask", 7, desk.ask(0, 0));
        Check.due("askByCodes", 7, desk.askByCodes(0, 0));
    }

    @Says("it stays when it is used")
    static void theTextStaysBehindEachUse() {
        Desk desk = Desk.of(1).write("n()+7");
        desk.errorAt();
        Check.due("behind errorAt", 7, desk.ask(0, 0));
        Check.due("behind ask", 7, desk.askByCodes(0, 0));
        Check.due("behind askByCodes", 7, desk.ask(0, 0));
        desk.addRule(0, 1, 0);
        Check.due("behind addRule", 7, desk.ask(0, 0));
        desk.pass(1);
        desk.risesAnew(0);
        desk.wouldRise(0);
        Check.due("behind the rule's own use", 7, desk.ask(0, 0));
        Check.due("its length", 5, desk.clearText());
    }

    @Says("A question is a text of this kind, without anything between")
    static void noSpaceAnywhere() {
        String whole = "(1+n()*s(v:!p=-1&(l<2|h>3)))/22<1";
        Values.question(whole);
        for (int at = 0; at <= whole.length(); at++) {
            Values.error(whole.substring(0, at) + " " + whole.substring(at), at);
        }
    }

    @Says("A question is a text of this kind")
    static void nothingAheadOfAQuestion() {
        Values.eachSign("", "", 0, DIGITS, -1, "-(nsmxdt", 1);
    }

    @Says("A question is a text of this kind")
    static void nothingBehindAQuestion() {
        Values.eachSign("1", "", 1, DIGITS, -1, "+-*/<>=", 2);
        Values.eachSign("1<1", "", 3, DIGITS, -1, "+-*/", 4);
        Values.eachSign("n()", "", 3, "+-*/<>=", 4);
        Values.eachSign("(1)", "", 3, "+-*/<>=", 4);
    }

    @Says("A question is a text of this kind")
    static void anEmptyTextIsNoQuestion() {
        Values.error("", 0);
    }

    // ---- test, sum, product, unit, number

    @Says("test: sum, or sum \"<\" sum, or sum \">\" sum, or sum \"=\" sum.")
    static void aTestHasASumOrTwo() {
        questions("1", "1+1", "1<2", "1>2", "1=2", "1+1<2", "1<1+1", "1*2=2-0", "-1>-1", "n()=s(v)");
        Values.error("<1", 0);
        Values.error(">1", 0);
        Values.error("=1", 0);
        Values.error("1<", 2);
        Values.error("1>", 2);
        Values.error("1=", 2);
        Values.eachSign("1", "1", 1, DIGITS, -1, "+-*/<>=", -1);
        Values.eachSign("1<", "", 2, DIGITS, -1, "-(nsmxdt", 3);
    }

    @Says("test: sum, or sum \"<\" sum, or sum \">\" sum, or sum \"=\" sum.")
    static void aTestHasNoSecondSign() {
        for (char first : COMPARISONS.toCharArray()) {
            for (char second : COMPARISONS.toCharArray()) {
                Values.error("1" + first + "2" + second + "3", 3);
                Values.error("(1" + first + "2" + second + "3)", 4);
                Values.error("1" + first + second + "3", 2);
                Values.question("(1" + first + "2)" + second + "3");
                Values.question("1" + first + "(2" + second + "3)");
            }
        }
    }

    @Says("sum: products with \"+\" or \"-\" between them, one at least.")
    static void aSumHasAProductAtLeast() {
        questions("1", "1+2", "1-2", "1+2-3+4", "1*2+3*4", "1--1", "1+-1");
        Values.error("()", 1);
        Values.error("+1", 0);
        Values.error("1+", 2);
        Values.error("1-", 2);
        Values.error("1++1", 2);
        Values.error("1-+1", 2);
        Values.error("1+)", 2);
        Values.eachSign("1+", "", 2, DIGITS, -1, "-(nsmxdt", 3);
        Values.eachSign("1-", "", 2, DIGITS, -1, "-(nsmxdt", 3);
    }

    @Says("sum: products with \"+\" or \"-\" between them, one at least.")
    static void aSumHasAsManyProductsAsTheTextHolds() {
        Values.question("1-".repeat(19) + "11");
        Values.value("1-".repeat(19) + "11", 1 - 18 - 11);
        Values.error("1-".repeat(20), 40);
    }

    @Says("product: units with \"*\" or \"/\" between them, one at least.")
    static void aProductHasAUnitAtLeast() {
        questions("1", "1*2", "1/2", "1*2/3*4", "1*-1", "1/-1", "1*(2)", "n()/n()");
        Values.error("*1", 0);
        Values.error("/1", 0);
        Values.error("1*", 2);
        Values.error("1/", 2);
        Values.error("1**1", 2);
        Values.error("1/*1", 2);
        Values.error("1*+1", 2);
        Values.error("1*)", 2);
        Values.eachSign("1*", "", 2, DIGITS, -1, "-(nsmxdt", 3);
        Values.eachSign("1/", "", 2, DIGITS, -1, "-(nsmxdt", 3);
    }

    @Says("product: units with \"*\" or \"/\" between them, one at least.")
    static void aProductHasAsManyUnitsAsTheTextHolds() {
        Values.question("2*".repeat(19) + "11");
        Values.value("2*".repeat(19) + "11", 11 << 19);
        Values.error("2*".repeat(20), 40);
    }

    @Says("unit: a number; \"-\" and a unit; \"(\", a test and \")\"; or an aggregate.")
    static void aUnitIsOneOfFour() {
        questions("1", "-1", "--1", "(1)", "((1))", "(-1)", "-(1)", "(1<2)", "n()", "-n()", "(n())");
        Values.error("-", 1);
        Values.error("-)", 1);
        Values.error("-+1", 1);
        Values.error("(", 1);
        Values.error("(1", 2);
        Values.error("(1<2", 4);
        Values.error("(-)", 2);
        Values.error(")", 0);
        Values.error("1)", 1);
        Values.error("(1))", 3);
        Values.error("1(2)", 1);
        Values.error("(1)(2)", 3);
        Values.error("(1)2", 3);
        Values.error("n()1", 3);
        Values.error("1n()", 1);
        Values.error("1-1-", 4);
        Values.eachSign("-", "", 1, DIGITS, -1, "-(nsmxdt", 2);
        Values.eachSign("(", "", 1, DIGITS, 2, "-(nsmxdt", 2);
        Values.eachSign("(1", "", 2, DIGITS, 3, "+-*/<>=", 3, ")", -1);
    }

    @Says("unit: a number; \"-\" and a unit; \"(\", a test and \")\"; or an aggregate.")
    static void unitsGoAsDeepAsTheTextHolds() {
        String minuses = "-".repeat(39);
        Values.question(minuses + "1");
        Values.value(minuses + "1", -1);
        Values.error(minuses + "-", 40);
        String brackets = "(".repeat(19) + "11" + ")".repeat(19);
        Values.question(brackets);
        Values.value(brackets, 11);
        Values.error("(".repeat(20) + "1" + ")".repeat(19), 40);
        Values.error("(".repeat(19) + "1" + ")".repeat(20), 39);
        Values.error("(".repeat(40), 40);
        Values.value("-(".repeat(12) + "1" + ")".repeat(12), 1);
    }

    @Says("number: 1 to 4 digits.")
    static void theLeastAndTheGreatestNumber() {
        Values.value("0", 0);
        Values.value("9", 9);
        Values.value("10", 10);
        Values.value("999", 999);
        Values.value("1000", 1000);
        Values.value("9999", 9999);
        Values.value("0000", 0);
        Values.value("0007", 7);
        Values.value("0009+9000", 9009);
    }

    @Says("number: 1 to 4 digits.")
    static void noFifthDigit() {
        Values.error("12345", 4);
        Values.error("00000", 4);
        Values.error("1+12345", 6);
        Values.error("(99999)", 5);
        Values.error("n(:p=12345)", 9);
        Values.error("n(:p=-12345)", 10);
        questions("n(:p=1234)", "n(:p=-1234)", "n(:p=0000)");
        for (char digit : DIGITS.toCharArray()) {
            Values.question("123" + digit);
            Values.error("1234" + digit, 4);
        }
    }

    @Says("number: 1 to 4 digits.")
    static void aDigitAtLeast() {
        Values.error("n(:p=)", 5);
        Values.error("n(:p=-)", 6);
        Values.eachSign("1", "1", 1, DIGITS, -1, "+-*/<>=", -1);
        Values.eachSign("n(:p=", ")", 5, DIGITS, -1, "-", 6);
        Values.eachSign("n(:p=-", ")", 6, DIGITS, -1);
    }

    // ---- aggregate, field

    @Says("aggregate: \"n\", \"(\" and \")\"; or \"n\", \"(\", \":\", a choice and \")\"")
    static void howManyHaveNoField() {
        questions("n()", "n(:p=1)");
        Values.error("n", 1);
        Values.error("n(", 2);
        Values.error("n(:", 3);
        Values.error("n(:)", 3);
        Values.error("n(:p=1", 6);
        Values.error("n(v)", 2);
        Values.error("n(v:p=1)", 2);
        Values.error("n())", 3);
        Values.error("n(:p=1))", 7);
        Values.error("n():p=1", 3);
        Values.eachSign("n", "", 1, "(", 2);
        Values.eachSign("n(", "", 2, ")", -1, ":", 3);
        Values.eachSign("n(:", "", 3, FIELDS, 4, "!(", 4);
        Values.eachSign("n(:p=1", "", 6, DIGITS, 7, "&|", 7, ")", -1);
    }

    @Says("or one of \"s\", \"m\", \"x\", \"d\", \"t\", then \"(\", a field and \")\"; "
            + "or one of these five, then \"(\", a field, \":\", a choice and \")\".")
    static void theOtherFiveHaveAField() {
        for (char kind : "smxdt".toCharArray()) {
            for (char field : FIELDS.toCharArray()) {
                questions(kind + "(" + field + ")", kind + "(" + field + ":p=1)");
            }
            Values.error(kind + "", 1);
            Values.error(kind + "(", 2);
            Values.error(kind + "()", 2);
            Values.error(kind + "(:p=1)", 2);
            Values.error(kind + "(v", 3);
            Values.error(kind + "(v:", 4);
            Values.error(kind + "(v:)", 4);
            Values.error(kind + "(v:p=1", 7);
            Values.error(kind + "(vv)", 3);
            Values.error(kind + "(v))", 4);
            Values.error(kind + "(v:p=1))", 8);
            Values.eachSign(kind + "", "", 1, "(", 2);
            Values.eachSign(kind + "(", ")", 2, FIELDS, -1);
            Values.eachSign(kind + "(v", "", 3, ")", -1, ":", 4);
            Values.eachSign(kind + "(v:", "", 4, FIELDS, 5, "!(", 5);
        }
    }

    @Says("aggregate: \"n\"")
    static void noOtherLetterIsAnAggregate() {
        Values.eachSign("", "(v)", 0, DIGITS, 1, "-(", 2, "n", 2, "smxdt", -1);
        Values.eachSign("", "()", 0, DIGITS, 1, "-(", 2, "n", -1, "smxdt", 2);
    }

    @Says("aggregate: \"n\"")
    static void noAggregateWithinAChoice() {
        Values.error("n(:n()=1)", 3);
        Values.error("n(:p=n())", 5);
        Values.error("s(n())", 2);
        Values.error("s(v:s(v)=1)", 4);
    }

    @Says("field: \"p\" the part, \"l\" the level, \"v\" the value, \"h\" the hour of the day.")
    static void theFourFields() {
        Desk desk = new Desk().passTo(30).tell(1, 2, 3, 28);
        Values.both(desk, "s(p)", 28, 28, 1);
        Values.both(desk, "s(l)", 28, 28, 2);
        Values.both(desk, "s(v)", 28, 28, 3);
        Values.both(desk, "s(h)", 28, 28, 4);
        Values.both(desk, "n(:p=1)", 28, 28, 1);
        Values.both(desk, "n(:l=2)", 28, 28, 1);
        Values.both(desk, "n(:v=3)", 28, 28, 1);
        Values.both(desk, "n(:h=4)", 28, 28, 1);
        Values.both(desk, "n(:p>1|l>2|v>3|h>4|p<1|l<2|v<3|h<4)", 28, 28, 0);
    }

    @Says("field: \"p\" the part, \"l\" the level, \"v\" the value, \"h\" the hour of the day.")
    static void noOtherField() {
        Values.eachSign("x(", ")", 2, FIELDS, -1);
        Values.eachSign("n(:", "=1)", 3, FIELDS, -1, "!", 4, "(", 4);
    }

    // ---- choice, group, term

    @Says("choice: groups with \"|\" between them, one at least.")
    static void aChoiceHasAGroupAtLeast() {
        questions("n(:p=1)", "n(:p=1|p=2)", "n(:p=1|p=2|p=3|p=4)", "n(:p=1&l=1|p=2&l=2)");
        Values.error("n(:)", 3);
        Values.error("n(:())", 4);
        Values.error("n(:|p=1)", 3);
        Values.error("n(:p=1|)", 7);
        Values.error("n(:p=1||p=2)", 7);
        Values.error("n(:p=1p=2)", 6);
        Values.eachSign("n(:p=1|", "", 7, FIELDS, 8, "!(", 8);
    }

    @Says("choice: groups with \"|\" between them, one at least.")
    static void aChoiceHasAsManyGroupsAsTheTextHolds() {
        String text = "n(:" + "p=1|".repeat(8) + "p=02)";
        Check.due("its length", 40, text.length());
        Desk desk = new Desk().tell(2, 0, 0, 0).tell(1, 0, 0, 0).tell(3, 0, 0, 0);
        Values.question(text);
        Values.both(desk, text, 0, 0, 2);
        Values.error("n(:" + "p=1|".repeat(9) + "p", 40);
    }

    @Says("group: terms with \"&\" between them, one at least.")
    static void aGroupHasATermAtLeast() {
        questions("n(:p=1&l=1)", "n(:p=1&l=1&v=1&h=1)", "n(:!p=1&!l=1)");
        Values.error("n(:&p=1)", 3);
        Values.error("n(:p=1&)", 7);
        Values.error("n(:p=1&&p=2)", 7);
        Values.error("n(:p=1&|p=2)", 7);
        Values.eachSign("n(:p=1&", "", 7, FIELDS, 8, "!(", 8);
    }

    @Says("group: terms with \"&\" between them, one at least.")
    static void aGroupHasAsManyTermsAsTheTextHolds() {
        String text = "n(:" + "p>1&".repeat(8) + "p<04)";
        Check.due("its length", 40, text.length());
        Desk desk = new Desk().tell(2, 0, 0, 0).tell(1, 0, 0, 0).tell(4, 0, 0, 0);
        Values.question(text);
        Values.both(desk, text, 0, 0, 1);
    }

    @Says("term: \"!\" and a term; \"(\", a choice and \")\"; "
            + "or a field, one of \"<\", \">\" and \"=\", and a number or \"-\" and a number.")
    static void aTermIsOneOfThree() {
        questions("n(:!p=1)", "n(:!!p=1)", "n(:(p=1))", "n(:!(p=1))", "n(:(!p=1))", "n(:p=-1)",
                "n(:v<-1000)", "n(:h>9999)");
        Values.error("n(:!)", 4);
        Values.error("n(:!", 4);
        Values.error("n(:(p=1)", 8);
        Values.error("n(:(p=1)))", 9);
        Values.error("n(:(p=1", 7);
        Values.error("n(:p)", 4);
        Values.error("n(:p", 4);
        Values.error("n(:p=", 5);
        Values.error("n(:p=-", 6);
        Values.error("n(:p=--1)", 6);
        Values.error("n(:p=+1)", 5);
        Values.error("n(:p=p)", 5);
        Values.error("n(:p=(1))", 5);
        Values.error("n(:p=1+1)", 6);
        Values.error("n(:p<=1)", 5);
        Values.error("n(:1=p)", 3);
        Values.error("n(:-p=1)", 3);
        Values.error("n(:(p)=1)", 5);
        Values.error("n(:p!=1)", 4);
        Values.error("n(:p=1=1)", 6);
        Values.error("n(:p=1<1)", 6);
        Values.error("n(:p=1!l=2)", 6);
        Values.eachSign("n(:p", "1)", 4, COMPARISONS, -1);
        Values.eachSign("n(:!", "", 4, FIELDS, 5, "!(", 5);
        Values.eachSign("n(:(", "", 4, FIELDS, 5, "!(", 5);
        Values.eachSign("n(:(p=1", "", 7, DIGITS, 8, "&|)", 8);
        Values.eachSign("n(:(p=1)", "", 8, "&|", 9, ")", -1);
    }

    @Says("term: \"!\" and a term; \"(\", a choice and \")\"")
    static void termsGoAsDeepAsTheTextHolds() {
        Desk desk = new Desk().tell(1, 0, 0, 0);
        String marks = "n(:" + "!".repeat(33) + "p=1)";
        Check.due("its length", 40, marks.length());
        Values.question(marks);
        Values.both(desk, marks, 0, 0, 0);
        Values.both(desk, "n(:" + "!".repeat(32) + "p=1)", 0, 0, 1);
        String brackets = "n(:" + "(".repeat(16) + "p=01" + ")".repeat(17);
        Check.due("its length", 40, brackets.length());
        Values.question(brackets);
        Values.both(desk, brackets, 0, 0, 1);
        Values.both(desk, "n(:" + "!(".repeat(11) + "p=1" + ")".repeat(12), 0, 0, 0);
        Values.error("n(:" + "(".repeat(37), 40);
        Values.error("n(:" + "!".repeat(37), 40);
        Values.question("-".repeat(32) + "n(:p=-1)");
    }

    @Says("and a number or \"-\" and a number")
    static void aTermsNumberCanBeBelowZero() {
        Desk desk = new Desk().tell(0, 0, -1, 0).tell(0, 0, 0, 0).tell(0, 0, 1, 0);
        Values.both(desk, "n(:v<-1)*100+n(:v=-1)*10+n(:v>-1)", 0, 0, 12);
        Values.both(desk, "n(:v<-0)*100+n(:v=-0)*10+n(:v>-0)", 0, 0, 111);
        Values.both(desk, "n(:v<1)*100+n(:v=1)*10+n(:v>1)", 0, 0, 210);
        Values.both(desk, "n(:v<-9999)*10+n(:v>-9999)", 0, 0, 3);
        Values.both(desk, "n(:v<9999)*10+n(:v>9999)", 0, 0, 30);
    }

    // ---- the error of a text

    @Says("The error of a text is the place of its first char up to and with which no question begins")
    static void theErrorIsTheFirstOne() {
        Values.error("a", 0);
        Values.error("1a", 1);
        Values.error("1+a+a", 2);
        Values.error("1<2<3<4", 3);
        Values.error("n(p)+s()", 2);
        Values.error("n()+s()", 6);
        Values.error("))))", 0);
        Values.error("1+".repeat(19) + "1)", 39);
        Values.error("(".repeat(39) + "a", 39);
        Values.error("a" + "1".repeat(39), 0);
    }

    @Says("(of whatever length)")
    static void whatLongerQuestionsBeginWithIsNoError() {
        Values.error("(".repeat(40), 40);
        Values.error("-".repeat(40), 40);
        Values.error("(".repeat(36) + "1+1)", 40);
        Values.error("n(:" + "(".repeat(36) + "p", 40);
        Values.error("s(v:" + "!".repeat(35) + "p", 40);
        Values.error("1+".repeat(18) + "n(:p", 40);
        Values.error("1+".repeat(19) + "s(", 40);
        Values.error("1+".repeat(19) + "1<", 40);
    }

    @Says("if there is no such char, but it is no question, its length")
    static void theErrorOfABeginningIsItsLength() {
        String whole = "(1-n(:!p=-1&(l<2|h>33))*s(v:v=4))/22<-1";
        Values.question(whole);
        Values.error("", 0);
        int whole22 = whole.indexOf("/22");
        for (int at = 0; at < whole.length(); at++) {
            boolean isQuestion = at == whole22 || at == whole22 + 2 || at == whole22 + 3;
            Values.error(whole.substring(0, at), isQuestion ? -1 : at);
        }
    }

    // ---- the value of a question

    @Says("A question is run over some logs and has a value, a long.")
    static void theGreatestAndTheLeastValueAreThoseOfALong() {
        Values.value(LEAST, Long.MIN_VALUE);
        Values.value(LEAST + "-1", Long.MAX_VALUE);
        Values.value("9999*9999*9999*9999", 9999L * 9999 * 9999 * 9999);
        Values.value("-9999*9999*9999", -9999L * 9999 * 9999);
    }

    @Says("A test with a sign between two sums is 1 if these are so (less, greater, the same), "
            + "otherwise 0.")
    static void aTestIs1Or0() {
        String[] pairs = {"1?2", "2?2", "3?2", "-1?0", "0?0", "0?-1", "1+1?1*3", "4?2*2", "9-1?7"};
        for (int i = 0; i < pairs.length; i++) {
            Values.value(pairs[i].replace('?', '<'), i % 3 == 0 ? 1 : 0);
            Values.value(pairs[i].replace('?', '='), i % 3 == 1 ? 1 : 0);
            Values.value(pairs[i].replace('?', '>'), i % 3 == 2 ? 1 : 0);
        }
        Values.value("(1<2)+(2=2)+(3>2)", 3);
        Values.value("(2<2)+(3=2)+(2>2)", 0);
        Values.value("-(1<2)", -1);
        Values.value("(5>4)=1", 1);
    }

    @Says("less, greater, the same")
    static void theLeastAndTheGreatestLongAreToldApart() {
        Values.value(LEAST + "<1", 1);
        Values.value(LEAST + ">1", 0);
        Values.value(LEAST + "=0", 0);
        Values.value(LEAST + "-1>-1", 1);
        Values.value("-1<" + LEAST + "-1", 1);
        Values.value("1>" + LEAST, 1);
        // Only the upper half of the long tells it from 0.
        Values.value("4096*4096*256=0", 0);
        Values.value("4096*4096*256>0", 1);
    }

    @Says("Sums and products are reckoned from the left")
    static void fromTheLeft() {
        Values.value("10-3-2", 5);
        Values.value("10-(3-2)", 9);
        Values.value("10-3+2", 9);
        Values.value("100/7/2", 7);
        Values.value("100/(7/2)", 33);
        Values.value("7/2*2", 6);
        Values.value("2*7/2", 7);
        Values.value("7*(2/2)", 7);
        Values.value("2+3*4-6/2", 11);
        Values.value("2*3+4*5", 26);
        Values.value("(2+3)*4", 20);
        Values.value("-7/2", -3);
        Values.value("-2-3", -5);
        Values.value("-2*-3", 6);
        Values.value("2---3", -1);
    }

    @Says("as long arithmetic does (they may wrap round)")
    static void sumsAndProductsWrapRound() {
        Values.value(LEAST + "-1", Long.MAX_VALUE);
        Values.value("(" + LEAST + "-1)+1", Long.MIN_VALUE);
        Values.value("1+(" + LEAST + "-1)", Long.MIN_VALUE);
        Values.value("0-(" + LEAST + ")", Long.MIN_VALUE);
        Values.value("-(" + LEAST + ")", Long.MIN_VALUE);
        Values.value("-1-(" + LEAST + ")", Long.MAX_VALUE);
        Values.value(LEAST + "+" + "4096*4096*64", Long.MIN_VALUE + (1L << 30));
        Values.value(LEAST + "*2", 0);
        Values.value(LEAST + "*3", Long.MIN_VALUE);
        Values.value(LEAST + "*-1", Long.MIN_VALUE);
        Values.value("9999*9999*9999*9999*9999", 9999L * 9999 * 9999 * 9999 * 9999);
        Values.value("9999*9999*9999*9999*9999*9999*9999/9999",
                9999L * 9999 * 9999 * 9999 * 9999 * 9999 * 9999 / 9999);
    }

    @Says("a division is rounded toward 0")
    static void divisionsAreRoundedToward0() {
        Values.value("7/2", 3);
        Values.value("-7/2", -3);
        Values.value("7/-2", -3);
        Values.value("-7/-2", 3);
        Values.value("1/2", 0);
        Values.value("-1/2", 0);
        Values.value("1/-9999", 0);
        Values.value("6/3", 2);
        Values.value("-6/3", -2);
        Values.value("0/5", 0);
        Values.value("9999/9999", 1);
        Values.value("9998/9999", 0);
        // The one division that wraps round.
        Values.value(LEAST + "/-1", Long.MIN_VALUE);
        Values.value("(" + LEAST + "-1)/-1", -Long.MAX_VALUE);
        Values.value(LEAST + "/3", Long.MIN_VALUE / 3);
        // "-" goes with its unit ahead of "/": the least long negated is the least one still.
        Values.value("-(" + LEAST + ")/2", Long.MIN_VALUE / 2);
        Values.value("-(" + LEAST + ")/-2*2", Long.MIN_VALUE);
    }

    @Says("and 0 if the divisor is 0")
    static void divisionsBy0Are0() {
        Values.value("7/0", 0);
        Values.value("-7/0", 0);
        Values.value("0/0", 0);
        Values.value("7/(1-1)", 0);
        Values.value("7/(1/2)", 0);
        Values.value("7/-0", 0);
        Values.value("7/n()", 0);
        Values.value("7/(1>2)", 0);
        Values.value("3+7/0*5-1", 2);
        Values.value("7/0/0", 0);
        Values.value(LEAST + "/0", 0);
        Values.value("1/(" + LEAST + "*2)", 0);
        // Not 0, though its lower half is.
        Values.value(LEAST + "/(4096*4096*256)", -(1L << 31));
    }

    // ---- aggregates

    private static void aggregates(Desk desk, String of, long... due) {
        String kinds = "nsmxdt";
        for (int i = 0; i < kinds.length(); i++) {
            String field = i == 0 ? "" : "v";
            Values.both(desk, kinds.charAt(i) + "(" + field + of + ")", 0, 0, due[i]);
        }
    }

    @Says("n is how many they are, s the sum of the field, m the least one, x the greatest one, "
            + "d how many unlike ones there are")
    static void aggregatesOfOneLog() {
        aggregates(new Desk().tell(0, 0, 0, 0), "", 1, 0, 0, 0, 1, 0);
        aggregates(new Desk().tell(0, 0, 5, 0), "", 1, 5, 5, 5, 1, 5);
        aggregates(new Desk().tell(0, 0, -5, 0), "", 1, -5, -5, -5, 1, -5);
        aggregates(new Desk().tell(0, 0, 1000, 0), "", 1, 1000, 1000, 1000, 1, 1000);
        aggregates(new Desk().tell(0, 0, -1000, 0), "", 1, -1000, -1000, -1000, 1, -1000);
    }

    @Says("n is how many they are, s the sum of the field, m the least one, x the greatest one, "
            + "d how many unlike ones there are")
    static void theLeastAbove0AndTheGreatestBelow0() {
        aggregates(new Desk().tell(0, 0, 9, 0).tell(0, 0, 4, 0), "", 2, 13, 4, 9, 2, 9);
        aggregates(new Desk().tell(0, 0, -9, 0).tell(0, 0, -4, 0), "", 2, -13, -9, -4, 2, -9);
        aggregates(new Desk().tell(0, 0, -4, 0).tell(0, 0, 9, 0), "", 2, 5, -4, 9, 2, -4);
    }

    @Says("n is how many they are, s the sum of the field, m the least one, x the greatest one, "
            + "d how many unlike ones there are")
    static void aggregatesOf100Logs() {
        Desk unlike = new Desk();
        Desk alike = new Desk();
        for (int i = 0; i < 100; i++) {
            unlike.tell(i % 8, i % 6, 20 * i - 1000, 0);
            alike.tell(7, 5, 1000, 0);
        }
        aggregates(unlike, "", 100, -1000, -1000, 980, 100, -1000);
        Values.both(unlike, "d(p)*10+d(l)", 0, 0, 86);
        Values.both(unlike, "t(p)*10+t(l)", 0, 0, 0);
        aggregates(alike, "", 100, 100000, 1000, 1000, 1, 1000);
        Values.both(alike, "s(p)+s(l)+s(h)", 0, 0, 1200);
    }

    @Says("t the one that occurs most often, of several the one that occurs first "
            + "in the order of the logs")
    static void ofSeveralMostOftenTheFirst() {
        Desk desk = new Desk().tell(0, 0, 30, 0).tell(1, 0, 20, 0);
        Values.both(desk, "t(v)", 0, 0, 30);
        desk.tell(1, 0, 20, 0);
        Values.both(desk, "t(v)", 0, 0, 20);
        desk.tell(0, 0, 30, 0);
        Values.both(desk, "t(v)", 0, 0, 30);
        desk.tell(2, 0, 20, 0).tell(2, 0, 30, 0);
        Values.both(desk, "t(v)", 0, 0, 30);
        // Of those for which the choice holds, 20 is ahead.
        Values.both(desk, "t(v:p>0)", 0, 0, 20);
        Values.both(desk, "t(v:p=2)", 0, 0, 20);
        Values.both(desk, "t(v:p=2&v>20)", 0, 0, 30);
    }

    @Says("of several the one that occurs first in the order of the logs")
    static void theFirstInTheOrderIsNotTheFirstTold() {
        Desk desk = new Desk().passTo(3).tell(0, 0, 30, 3).tell(0, 0, 20, 2).tell(0, 0, 10, 2);
        Values.both(desk, "t(v)", 0, 3, 20);
        Values.both(desk, "t(v)", 3, 3, 30);
        Values.both(desk, "t(h)", 0, 3, 2);
    }

    @Says("all are 0 if there are no such logs")
    static void aggregatesOfNoLogs() {
        aggregates(new Desk(), "", 0, 0, 0, 0, 0, 0);
        aggregates(new Desk(), ":v<9999", 0, 0, 0, 0, 0, 0);
        Desk desk = new Desk().tell(7, 5, 1000, 0).tell(1, 1, -1000, 0);
        aggregates(desk, ":p=0", 0, 0, 0, 0, 0, 0);
        aggregates(desk, ":p=7&p=1", 0, 0, 0, 0, 0, 0);
        desk.pass(1);
        for (String question : new String[] {"n()", "s(v)", "m(v)", "x(v)", "d(v)", "t(v)"}) {
            Values.both(desk, question, 1, 1, 0);
        }
    }

    @Says("An aggregate goes by those of the logs for which its choice holds (without one by all)")
    static void aggregatesGoByTheirChoice() {
        Desk desk = new Desk().tell(1, 0, 5, 0).tell(1, 0, 7, 0).tell(2, 0, 7, 0).tell(2, 0, -9, 0);
        aggregates(desk, "", 4, 10, -9, 7, 3, 7);
        aggregates(desk, ":p=1", 2, 12, 5, 7, 2, 5);
        aggregates(desk, ":p=2", 2, -2, -9, 7, 2, 7);
        aggregates(desk, ":v=7", 2, 14, 7, 7, 1, 7);
        aggregates(desk, ":p<9", 4, 10, -9, 7, 3, 7);
        // One aggregate's choice is not that of the next, and leaves nothing behind.
        Values.both(desk, "d(v)*100+n(:p=1)*10+d(v)", 0, 0, 323);
        Values.both(desk, "t(v)-t(v:p=1)", 0, 0, 2);
    }

    @Says("In a choice \"!\" is not, \"&\" and, \"|\" or.")
    static void notAndOr() {
        // The parts 0 to 3 are the four cases of two bits: p>1 the one, l>0 the other.
        Desk desk = new Desk();
        for (int part = 0; part < 4; part++) {
            desk.tell(part, part % 2, 1 << part, 0);
        }
        Values.both(desk, "s(v:p>1)", 0, 0, 12);
        Values.both(desk, "s(v:l>0)", 0, 0, 10);
        Values.both(desk, "s(v:!p>1)", 0, 0, 3);
        Values.both(desk, "s(v:p>1&l>0)", 0, 0, 8);
        Values.both(desk, "s(v:p>1|l>0)", 0, 0, 14);
        Values.both(desk, "s(v:!p>1&l>0)", 0, 0, 2);
        Values.both(desk, "s(v:!(p>1&l>0))", 0, 0, 7);
        Values.both(desk, "s(v:!p>1|l>0)", 0, 0, 11);
        Values.both(desk, "s(v:!(p>1|l>0))", 0, 0, 1);
        Values.both(desk, "s(v:!p>1&!l>0)", 0, 0, 1);
        Values.both(desk, "s(v:!!l>0)", 0, 0, 10);
        Values.both(desk, "s(v:!!!l>0)", 0, 0, 5);
        Values.both(desk, "s(v:p=0|p=1&l=0)", 0, 0, 1);
        Values.both(desk, "s(v:(p=0|p=1)&l=1)", 0, 0, 2);
        Values.both(desk, "s(v:l=1&p=0|p=3)", 0, 0, 8);
        Values.both(desk, "s(v:l=1&(p=0|p=3))", 0, 0, 8);
        Values.both(desk, "s(v:p=2|l=1&p=1)", 0, 0, 6);
        Values.both(desk, "s(v:p=0|p=1|p=2|p=3)", 0, 0, 15);
        Values.both(desk, "s(v:p<3&p>0&l=1)", 0, 0, 2);
    }
}
