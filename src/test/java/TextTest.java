/** Promises 1 to 4: a new object, type, clearText, errorAt. */
public final class TextTest {
    public static void main(String[] args) {
        newObject();
        type();
        clearText();
        errorOfQuestions();
        errorOfOtherTexts();
        errorStandsAlone();
        Check.end();
    }

    private static void newObject() {
        Pagerloom desk = new Pagerloom();
        Check.due("NONE", -1, Pagerloom.NONE);
        Check.due("new now", 0, desk.now());
        Check.due("new errorAt", 0, desk.errorAt());
        Check.due("new clearText", 0, desk.clearText());
        Check.due("new alarms", 0, desk.alarms());
        Check.due("new waiting", 0, desk.waiting());
        Check.due("new next", -1, desk.next());
        Check.due("new planned", -1, desk.planned(1));
        Check.due("new holder", -1, desk.holder(0));
        Check.none("new nights", () -> desk.nights(0));
        Check.none("new rises", () -> desk.rises(0));
        Check.none("new alarm", () -> desk.alarm(0));
        Check.text(desk, "n()");
        Check.due("new n()", 0, desk.ask(0, 0));
        Check.due("new first log", 0, desk.log(0, 0, 0, 0));
        Check.due("new first person", 0, desk.addPerson());
        Pagerloom other = new Pagerloom();
        Check.due("objects share nothing", 0, other.clearText());
    }

    private static void type() {
        Pagerloom desk = new Pagerloom();
        Check.range("type 31", () -> desk.type((char) 31));
        Check.range("type 127", () -> desk.type((char) 127));
        Check.range("type 0", () -> desk.type((char) 0));
        Check.range("type 65535", () -> desk.type((char) 65535));
        Check.due("type 32", 1, desk.type((char) 32));
        Check.due("type 126", 2, desk.type((char) 126));
        for (int i = 3; i <= 40; i++) {
            Check.due("type " + i, i, desk.type('1'));
        }
        Check.state("type into a full text", () -> desk.type('1'));
        Check.range("type 127 into a full text", () -> desk.type((char) 127));
        Check.due("a full text", 40, desk.clearText());
        Check.due("type after it", 1, desk.type('a'));
    }

    private static void clearText() {
        Pagerloom desk = new Pagerloom();
        Check.text(desk, "1+2");
        Check.due("clearText", 3, desk.clearText());
        Check.due("clearText of an empty text", 0, desk.clearText());
        Check.due("type behind clearText", 1, desk.type('7'));
        Check.due("the text is the new one", 7, desk.ask(0, 0));
    }

    private static final String[] QUESTIONS = {
        "0", "9999", "1+2-3", "1*2/3", "1<2", "1>2", "1=2", "-1", "---1", "1--1", "1*-1", "(1)", "((1))",
        "(1<2)<3", "(1=2)+(3>4)", "n()", "n(:p<1)", "n(:p=-1)", "s(p)", "m(l)", "x(v)", "d(h)", "t(p)",
        "s(v:l>3)", "m(h:!p=1)", "x(v:!!p=1)", "d(l:(p=1))", "t(h:p=1&l=2|v<-1000)", "n(:!(p=1|l=2)&h>9)",
        "n(:((p=9999)))", "1+n()*(2-s(v))<3", "1+".repeat(19) + "11",
        "(".repeat(19) + "11" + ")".repeat(19), "-".repeat(39) + "1", "n(:" + "!".repeat(33) + "p=1)",
        "n(:" + "(".repeat(16) + "p=-1" + ")".repeat(17), "n()+".repeat(9) + "n()",
    };

    private static void errorOfQuestions() {
        Pagerloom desk = new Pagerloom();
        for (String question : QUESTIONS) {
            Check.text(desk, question);
            Check.due("errorAt of " + question, -1, desk.errorAt());
        }
    }

    private static void errorOfOtherTexts() {
        Object[][] rows = {
            {"", 0}, {"1+", 2}, {"-", 1}, {"(", 1}, {"(1", 2}, {"n", 1}, {"n(", 2}, {"n(:", 3},
            {"n(:p", 4}, {"n(:p<", 5}, {"n(:p<-", 6}, {"n(:p<1", 6}, {"n(:!", 4}, {"n(:p=1&", 7},
            {"s", 1}, {"s(", 2}, {"s(v", 3}, {"s(v:", 4}, {"1<", 2}, {"1*", 2},
            {"12345", 4}, {"1<2<3", 3}, {"1<2=3", 3}, {"1=2>3", 3}, {"(1<2<3)", 4}, {"a", 0}, {" 1", 0},
            {"1 ", 1}, {"1 +1", 1}, {")", 0}, {"1)", 1}, {"()", 1}, {"+1", 0}, {"1+*2", 2}, {"1++2", 2},
            {"n()1", 3}, {"1n()", 1}, {"nn", 1}, {"n)", 1}, {"n(v)", 2}, {"n(p:p=1)", 2}, {"s()", 2},
            {"s(:p=1)", 2}, {"s(n)", 2}, {"s(v,", 3}, {"s(vv)", 3}, {"n(:)", 3}, {"n(:1", 3},
            {"n(:p=12345", 9}, {"n(:p=--1", 6}, {"n(:p=p", 5}, {"n(:p=(1", 5}, {"n(:p+1", 4}, {"n(:p!", 4},
            {"n(:p=1+", 6}, {"n(:p=1<", 6}, {"n(:p=1,", 6}, {"n(:p=1&&", 7}, {"n(:p=1||", 7}, {"n(:-", 3},
            {"n(:!-", 4}, {"n(:(p=1))&", 9}, {"1&1", 1}, {"1|1", 1}, {"!1", 0}, {"p", 0}, {"v=1", 0},
            {"#", 0}, {"~1", 0}, {"1~", 1}, {"N()", 0}, {"s(V)", 2}, {"(1<2", 4}, {"(1<2)<3<4", 7},
            {"n(:n()", 3}, {"s(v:s(v)", 4}, {"1/0", -1}, {"-n", 2}, {"-)", 1}, {"--a", 2},
            {"(".repeat(40), 40}, {"-".repeat(40), 40}, {"n(:" + "(".repeat(36) + "p", 40},
            {"n(:" + "!".repeat(37), 40}, {"(".repeat(39) + "a", 39}, {"1+".repeat(19) + "1)", 39},
        };
        Pagerloom desk = new Pagerloom();
        for (Object[] row : rows) {
            Check.text(desk, (String) row[0]);
            Check.due("errorAt of " + row[0], (Integer) row[1], desk.errorAt());
        }
    }

    private static void errorStandsAlone() {
        Pagerloom desk = new Pagerloom();
        Check.text(desk, "1+");
        Check.due("errorAt", 2, desk.errorAt());
        Check.due("errorAt leaves the text", 2, desk.errorAt());
        desk.type('2');
        Check.due("errorAt of the text then", -1, desk.errorAt());
        Check.due("ask of the text then", 3, desk.ask(0, 0));
        Check.due("clearText behind it", 3, desk.clearText());
    }
}
