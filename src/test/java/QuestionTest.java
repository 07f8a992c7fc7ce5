/** Promises 5 and 6: ask and askByCodes, each question run both ways. */
public final class QuestionTest {
    private static Pagerloom desk;

    public static void main(String[] args) {
        sums();
        aggregates();
        choices();
        mostOftenGoesByTheOrder();
        hourOfTheDay();
        hoursOfTheLogs();
        bothWaysStandAlone();
        wrongHours();
        wrongText();
        fullDesk();
        Check.end();
    }

    private static void both(String question, int from, int to, long want) {
        Check.text(desk, question);
        Check.due("ask " + question, want, desk.ask(from, to));
        Check.due("askByCodes " + question, want, desk.askByCodes(from, to));
        Check.due("the text stays " + question, question.length(), desk.clearText());
    }

    private static void both(String question, long want) {
        both(question, 0, desk.now(), want);
    }

    private static void sums() {
        desk = new Pagerloom();
        both("0", 0);
        both("0007", 7);
        both("9999", 9999);
        both("1+2-4", -1);
        both("10-3-2", 5);
        both("10-(3-2)", 9);
        both("2+3*4", 14);
        both("(2+3)*4", 20);
        both("100/7/2", 7);
        both("100/(7/2)", 33);
        both("7/2*2", 6);
        both("2*7/2", 7);
        both("-7/2", -3);
        both("7/-2", -3);
        both("-7/-2", 3);
        both("7/0", 0);
        both("0/0", 0);
        both("1+7/0+2", 3);
        both("-2-3", -5);
        both("2--3", 5);
        both("2---3", -1);
        both("-2*-3", 6);
        both("-(2-5)", 3);
        both("--4", 4);
        both("1<2", 1);
        both("2<1", 0);
        both("2<2", 0);
        both("2>1", 1);
        both("1>2", 0);
        both("2>2", 0);
        both("2=2", 1);
        both("2=1", 0);
        both("1+1=2", 1);
        both("3>1+1*1", 1);
        both("(1<2)+(3<4)+(5<4)", 2);
        both("-(1<2)", -1);
        both("(1<2)<(1<3)", 0);
        both("-1<0", 1);
        both("9999*9999*9999*9999*9999*9999", power());
        both("-9999*9999*9999*9999*9999*9999-1", -power() - 1);
        both("9999*9999*9999*9999*9999*9999/7", power() / 7);
        // The least long: 2 to the power of 63, which wraps round; its division by -1 does too.
        both("4096*4096*4096*4096*4096*8", Long.MIN_VALUE);
        both("4096*4096*4096*4096*4096*8/-1", Long.MIN_VALUE);
        both("-(4096*4096*4096*4096*4096*8)", Long.MIN_VALUE);
        both("4096*4096*4096*4096*4096*8-1", Long.MAX_VALUE);
        both("4096*4096*4096*4096*4096*8<0", 1);
        both("4096*4096*4096*4096*4096*16", 0);
        both("((((((((((((((((((1))))))))))))))))))", 1);
        both("---------------------------------------1", -1);
        both("1-1-1-1-1-1-1-1-1-1-1-1-1-1-1-1-1-1-1-11", -28);
    }

    private static long power() {
        long power = 1;
        for (int i = 0; i < 6; i++) {
            power *= 9999;
        }
        return power;
    }

    private static final String[] FIELDS = {"p", "l", "v", "h"};

    private static void aggregates() {
        desk = new Pagerloom();
        both("n()", 0);
        for (String field : FIELDS) {
            for (String kind : new String[] {"s", "m", "x", "d", "t"}) {
                both(kind + "(" + field + ")", 0);
            }
        }
        desk.log(7, 5, -1000, 0);
        both("n()", 1);
        both("s(p)", 7);
        both("m(l)", 5);
        both("x(v)", -1000);
        both("m(v)", -1000);
        both("d(v)", 1);
        both("t(v)", -1000);
        both("x(h)", 0);
        desk.log(3, 0, 1000, 0);
        desk.log(3, 2, 7, 0);
        desk.log(0, 2, 7, 0);
        both("n()", 4);
        both("s(p)", 13);
        both("s(l)", 9);
        both("s(v)", 14);
        both("m(p)", 0);
        both("x(p)", 7);
        both("m(l)", 0);
        both("x(l)", 5);
        both("m(v)", -1000);
        both("x(v)", 1000);
        both("d(p)", 3);
        both("d(l)", 3);
        both("d(v)", 3);
        both("d(h)", 1);
        both("t(p)", 3);
        both("t(l)", 2);
        both("t(v)", 7);
        both("n()*n()+s(v)/n()-d(p)", 16);
        both("x(v)-m(v)", 2000);
        both("-n()", -4);
        both("n()=4", 1);
        both("(n()>3)*(s(p)<14)", 1);
        // Asked once more: one question leaves nothing behind for the next.
        both("d(v)+d(v)+t(v)+t(v)", 20);
    }

    private static void choices() {
        desk = new Pagerloom();
        desk.log(1, 2, -5, 0);
        desk.log(1, 3, 5, 0);
        desk.log(2, 2, 50, 0);
        desk.log(4, 0, -50, 0);
        both("n(:p=1)", 2);
        both("n(:p<2)", 2);
        both("n(:p>1)", 2);
        both("n(:p<-1)", 0);
        both("n(:p>-1)", 4);
        both("n(:v=-5)", 1);
        both("n(:v<-5)", 1);
        both("n(:v>-5)", 2);
        both("n(:!p=1)", 2);
        both("n(:!!p=1)", 2);
        both("n(:!p=1&l=0)", 1);
        both("n(:!(p=1&l=2))", 3);
        both("n(:p=1&l=2)", 1);
        both("n(:p=1|l=2)", 3);
        both("n(:p=1|l=2&v>0)", 3);
        both("n(:(p=1|l=2)&v>0)", 2);
        both("n(:v>0&(p=1|l=2))", 2);
        both("n(:p=4|p=1&l=3|p=2)", 3);
        both("n(:p=1&l=2&v=-5)", 1);
        both("n(:h=0)", 4);
        both("n(:h>0)", 0);
        both("s(v:p=1)", 0);
        both("s(v:p>1)", 0);
        both("s(v:!l=2)", -45);
        both("m(v:l=2)", -5);
        both("x(v:l=0)", -50);
        both("m(v:l=3)", 5);
        both("x(v:l=3|l=2)", 50);
        both("d(l:p<4)", 2);
        both("t(l:p>1)", 2);
        both("t(p:v<0)", 1);
        both("m(v:p=7)", 0);
        both("x(v:p=7)", 0);
        both("d(v:p=7)", 0);
        both("t(v:p=7)", 0);
        both("s(v:p=7)", 0);
        both("n(:p=1)*n(:l=2)-n()", 0);
        both("n(:p=9999)", 0);
        both("n(:v>-9999)", 4);
    }

    private static void mostOftenGoesByTheOrder() {
        desk = new Pagerloom();
        desk.log(0, 0, 30, 0);
        desk.log(0, 0, 20, 0);
        both("t(v)", 30);
        desk.log(0, 0, 20, 0);
        both("t(v)", 20);
        desk.log(0, 0, 30, 0);
        both("t(v)", 30);
        desk.pass(5);
        desk.log(0, 1, 1, 5);
        desk.log(0, 2, 2, 4);
        desk.log(0, 3, 3, 4);
        both("t(v)", 1, 5, 2);
        both("t(l)", 4, 5, 2);
        both("t(v:l>2|l=1)", 1, 5, 3);
        desk.log(0, 1, 1, 2);
        desk.log(0, 2, 2, 5);
        both("t(v)", 1, 5, 1);
        both("t(v)", 3, 5, 2);
        both("t(v)", 5, 5, 1);
    }

    private static void hourOfTheDay() {
        desk = new Pagerloom();
        Check.passTo(desk, 75);
        desk.log(0, 0, 0, 23);
        desk.log(0, 0, 0, 24);
        desk.log(0, 0, 0, 49);
        both("x(h)", 23);
        both("m(h)", 0);
        both("s(h)", 24);
        both("n(:h=23)", 1);
        both("n(:h<2)", 2);
        both("n(:h>24)", 0);
    }

    private static void hoursOfTheLogs() {
        desk = new Pagerloom();
        Check.passTo(desk, 1000);
        desk.log(0, 0, 1, 0);
        desk.log(0, 0, 2, 1);
        desk.log(0, 0, 4, 999);
        desk.log(0, 0, 8, 1000);
        desk.log(0, 0, 16, 1);
        both("s(v)", 0, 1000, 31);
        both("s(v)", 0, 0, 1);
        both("s(v)", 1, 1, 18);
        both("s(v)", 0, 1, 19);
        both("s(v)", 2, 998, 0);
        both("s(v)", 2, 999, 4);
        both("s(v)", 1000, 1000, 8);
        both("s(v)", 1, 1000, 30);
    }

    /** What the one way went by is not what the other one goes by. */
    private static void bothWaysStandAlone() {
        desk = new Pagerloom();
        desk.pass(2);
        desk.log(0, 0, 1, 0);
        desk.log(0, 0, 2, 1);
        desk.log(0, 0, 4, 2);
        Check.text(desk, "s(v)");
        Check.due("ask", 1, desk.ask(0, 0));
        Check.due("askByCodes", 6, desk.askByCodes(1, 2));
        Check.due("ask", 2, desk.ask(1, 1));
        Check.due("askByCodes", 7, desk.askByCodes(0, 2));
        desk.clearText();
        Check.state("askByCodes of an empty text", () -> desk.askByCodes(0, 2));
        Check.text(desk, "n()");
        Check.due("askByCodes of another text", 2, desk.askByCodes(0, 1));
        Check.due("ask of another text", 3, desk.ask(0, 2));
    }

    private static void wrongHours() {
        desk = new Pagerloom();
        desk.pass(10);
        Check.text(desk, "1");
        int[][] rows = {{-1, 5}, {11, 11}, {5, 4}, {0, 11}, {0, -1}, {-1, -1}, {10, 9},
            {Integer.MIN_VALUE, Integer.MAX_VALUE}, {0, Integer.MAX_VALUE}, {Integer.MAX_VALUE, 5}};
        for (int[] row : rows) {
            Check.range("ask " + row[0] + " " + row[1], () -> desk.ask(row[0], row[1]));
            Check.range("askByCodes " + row[0] + " " + row[1], () -> desk.askByCodes(row[0], row[1]));
        }
        both("1", 0, 10, 1);
        both("1", 10, 10, 1);
        both("1", 0, 0, 1);
    }

    private static void wrongText() {
        desk = new Pagerloom();
        for (String text : new String[] {"", "1+", "n(:p=1", "a", "12345", "s()", "1<2<3", "1 "}) {
            Check.text(desk, text);
            Check.state("ask " + text, () -> desk.ask(0, 0));
            Check.state("askByCodes " + text, () -> desk.askByCodes(0, 0));
            Check.range("ask too late " + text, () -> desk.ask(0, 1));
            Check.range("askByCodes too late " + text, () -> desk.askByCodes(0, 1));
            Check.due("the text stays", text.length(), desk.clearText());
        }
    }

    private static void fullDesk() {
        desk = new Pagerloom();
        long sum = 0;
        for (int i = 0; i < 100; i++) {
            desk.log(i % 8, i % 6, i * 20 - 1000, 0);
            sum += i * 20 - 1000;
        }
        both("n()", 100);
        both("s(v)", sum);
        both("d(v)", 100);
        both("d(p)", 8);
        both("d(l)", 6);
        both("t(v)", -1000);
        both("t(l)", 0);
        both("t(p)", 0);
        both("x(v)", 980);
        both("n()+n()+n()+n()+n()+n()+n()+n()+n()+n()", 1000);
    }
}
