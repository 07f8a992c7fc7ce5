/** Promises 1 to 6: a new object, type, clearText, errorAt, ask, askByCodes. */
public final class PromisesOfTextTest {
    private static final String FULL = "1+".repeat(19) + "11";

    public static void main(String[] args) {
        Check.all(PromisesOfTextTest.class);
    }

    // ---- 1: a new object

    @Says("Begins in the hour 0")
    static void promise01TheHourIs0() {
        Desk desk = Desk.of(1);
        Check.due("now", 0, desk.now());
        Check.due("holder 0", -1, desk.holder(0));
        Check.due("planned 1", 0, desk.planned(1));
        Check.range(Desk::new, other -> other.holder(1), other -> other.planned(0));
    }

    @Says("without logs, people and rules")
    static void promise01NoLogs() {
        Desk desk = new Desk();
        Values.both(desk, "n()", 0, 0, 0);
        Check.due("the first log", 0, desk.log(0, 0, 0, 0));
    }

    @Says("without logs, people and rules")
    static void promise01NoPeople() {
        Desk desk = new Desk();
        Check.due("planned 1", -1, desk.planned(1));
        Check.due("next", -1, desk.next());
        Check.none(Desk::new, other -> other.nights(0), other -> other.owes(0, 0),
                other -> other.off(0, 1));
        Check.none(() -> new Desk().write("1"), other -> other.addRule(0, 1, 0));
        Check.due("the first person", 0, desk.addPerson());
    }

    @Says("without logs, people and rules")
    static void promise01NoRules() {
        Check.none(Desk::new, desk -> desk.drop(0), desk -> desk.silence(0, 1, 1),
                desk -> desk.inWindow(0), desk -> desk.rises(0), desk -> desk.risesAnew(0));
        Check.due("the first rule", 0, Desk.of(1).write("1").addRule(0, 1, 0));
    }

    @Says("without logs, people and rules")
    static void promise01NoAlarms() {
        Desk desk = new Desk();
        Check.due("alarms", 0, desk.alarms());
        Check.due("waiting", 0, desk.waiting());
        Check.none(Desk::new, other -> other.alarm(0), other -> other.woken(0),
                other -> other.wokenAt(0), other -> other.answer(0, true),
                other -> other.wouldRise(0));
    }

    @Says("with an empty text")
    static void promise01TheTextIsEmpty() {
        Check.due("errorAt", 0, new Desk().errorAt());
        Check.due("clearText", 0, new Desk().clearText());
        Check.due("type", 1, new Desk().type('1'));
        Check.state(Desk::new, desk -> desk.ask(0, 0), desk -> desk.askByCodes(0, 0));
    }

    @Says("Begins in the hour 0, without logs, people and rules, with an empty text.")
    static void promise01ObjectsShareNothing() {
        Desk first = Desk.of(8).tell(1, 2, 3, 0).rule("1", 0, 1, 0).turnOff(2, 1).swapShifts(3, 4)
                .passTo(30).answerAll(true, 9, 10);
        Desk second = new Desk();
        Check.due("now", 0, second.now());
        Check.due("clearText", 0, second.clearText());
        Check.due("alarms", 0, second.alarms());
        Check.due("the first person", 0, second.addPerson());
        Check.due("the first log", 0, second.log(0, 0, 0, 0));
        second.rule("0", 0, 1, 0).passTo(40);
        Check.due("rises", 0, second.rises(0));
        Check.due("now of the first", 30, first.now());
        Check.due("alarms of the first", 30, first.alarms());
        Check.due("text of the first", 1, first.clearText());
    }

    @Says("`Pagerloom()`: Begins")
    static void promise01TheConstantNone() {
        Check.due("NONE", -1, Pagerloom.NONE);
    }

    // ---- 2: type

    @Says("Puts a char at the end of the text.")
    static void promise02AtTheEnd() {
        Desk desk = new Desk();
        desk.type('1');
        desk.type('-');
        desk.type('3');
        Check.due("ask", -2, desk.ask(0, 0));
        desk.type('4');
        Check.due("ask", -33, desk.ask(0, 0));
    }

    @Says("a char from 32 to 126")
    static void promise02TheLeastAndTheGreatestSign() {
        Check.due("32", 1, new Desk().type((char) 32));
        Check.due("126", 1, new Desk().type((char) 126));
        Desk desk = new Desk();
        int count = 0;
        for (char sign = 32; sign < 72; sign++) {
            count++;
            Check.due("sign " + (int) sign, count, desk.type(sign));
        }
        desk = new Desk();
        for (char sign = 126; sign > 86; sign--) {
            Check.due("sign " + (int) sign, 127 - sign, desk.type(sign));
        }
    }

    @Says("Throws `IllegalArgumentException` if sign is out of range")
    static void promise02NoSignBesideThese() {
        Check.range(() -> new Desk().write("1"), desk -> desk.type((char) 31),
                desk -> desk.type((char) 127), desk -> desk.type((char) 0),
                desk -> desk.type((char) 10), desk -> desk.type((char) 128),
                desk -> desk.type((char) 233), desk -> desk.type((char) (256 + '1')),
                desk -> desk.type((char) 65535), desk -> desk.type((char) 32768));
    }

    @Says("Returns how many chars it has then.")
    static void promise02ReturnsTheLength() {
        Desk desk = new Desk();
        for (int length = 1; length <= 40; length++) {
            Check.due("type", length, desk.type('1'));
        }
        desk.clearText();
        Check.due("type behind clearText", 1, desk.type('1'));
    }

    @Says("Throws `IllegalStateException` if it has 40")
    static void promise02FullWith40() {
        Desk desk = new Desk().write(FULL.substring(1));
        Check.due("the char 40", 40, desk.type('1'));
        Check.state(() -> new Desk().write(FULL), other -> other.type('1'),
                other -> other.type((char) 32), other -> other.type((char) 126));
    }

    @Says("Throws `IllegalArgumentException` if sign is out of range")
    static void promise02TheRangeIsAheadOfTheFullText() {
        Check.range(() -> new Desk().write(FULL), desk -> desk.type((char) 31),
                desk -> desk.type((char) 127));
    }

    // ---- 3: clearText

    @Says("Empties the text.")
    static void promise03EmptiesTheText() {
        Desk desk = new Desk().write("1+1");
        desk.clearText();
        Check.due("errorAt", 0, desk.errorAt());
        Check.due("type", 1, desk.type('7'));
        Check.due("ask", 7, desk.ask(0, 0));
        Check.due("askByCodes", 7, desk.askByCodes(0, 0));
        Check.state(() -> {
            Desk other = new Desk().write("1+1");
            other.clearText();
            return other;
        }, other -> other.ask(0, 0), other -> other.askByCodes(0, 0));
    }

    @Says("Returns how many chars it had.")
    static void promise03ReturnsTheLength() {
        Check.due("of an empty text", 0, new Desk().clearText());
        Check.due("of one char", 1, new Desk().write("(").clearText());
        Check.due("of a full text", 40, new Desk().write(FULL).clearText());
        Desk desk = new Desk().write(FULL);
        desk.clearText();
        Check.due("of a text emptied before", 0, desk.clearText());
    }

    // ---- 4: errorAt

    @Says("Returns the error of the text; NONE if it is a question.")
    static void promise04NoneOfAQuestion() {
        Values.error("1", Pagerloom.NONE);
        Values.error("n()", Pagerloom.NONE);
        Values.error(FULL, Pagerloom.NONE);
    }

    @Says("Returns the error of the text")
    static void promise04TheErrorsFrom0To40() {
        for (int at = 0; at < 40; at++) {
            Values.error("(".repeat(at) + ")" + "1".repeat(39 - at), at);
            Values.error("-".repeat(at), at);
        }
        Values.error("(".repeat(40), 40);
    }

    @Says("Returns the error of the text")
    static void promise04GoesByTheTextOfNow() {
        Desk desk = new Desk().write("1+");
        Check.due("1+", 2, desk.errorAt());
        Check.due("1+ once more", 2, desk.errorAt());
        desk.type('2');
        Check.due("1+2", -1, desk.errorAt());
        desk.type('a');
        Check.due("1+2a", 3, desk.errorAt());
        Check.due("the text stays", 4, desk.clearText());
        Check.due("the empty text", 0, desk.errorAt());
    }

    // ---- 5 and 6: ask and askByCodes

    /** Logs with the values 1, 2, 4 and 8 in the hours 0, 1, 999 and 1000. */
    private static Desk inTheHour1000() {
        return new Desk().passTo(1000).tell(0, 0, 1, 0).tell(0, 0, 2, 1).tell(0, 0, 4, 999)
                .tell(0, 0, 8, 1000).write("s(v)");
    }

    private static final int[][] HOURS = {{0, 0, 1}, {0, 1, 3}, {1, 1, 2}, {0, 1000, 15}, {1, 1000, 14},
        {2, 998, 0}, {2, 999, 4}, {999, 1000, 12}, {1000, 1000, 8}, {0, 999, 7}};

    @Says("Runs the text as a question over the logs of some hours, going down its tree.")
    static void promise05TheFirstAndTheLastHourAreInIt() {
        Desk desk = inTheHour1000();
        for (int[] row : HOURS) {
            Check.due("ask " + row[0] + " " + row[1], row[2], desk.ask(row[0], row[1]));
        }
    }

    @Says("Returns the same, found by turning the text into a row of codes and running these "
            + "with a pile of numbers.")
    static void promise06TheFirstAndTheLastHourAreInIt() {
        Desk desk = inTheHour1000();
        for (int[] row : HOURS) {
            Check.due("askByCodes " + row[0] + " " + row[1], row[2], desk.askByCodes(row[0], row[1]));
        }
    }

    @Says("0 to now: the first hour")
    static void promise05TheLeastAndTheGreatestFrom() {
        Desk desk = new Desk().write("7");
        Check.due("in the hour 0", 7, desk.ask(0, 0));
        desk.pass(5);
        Check.due("the least", 7, desk.ask(0, 5));
        Check.due("the greatest", 7, desk.ask(5, 5));
    }

    @Says("0 to now: the first hour")
    static void promise06TheLeastAndTheGreatestFrom() {
        Desk desk = new Desk().write("7");
        Check.due("in the hour 0", 7, desk.askByCodes(0, 0));
        desk.pass(5);
        Check.due("the least", 7, desk.askByCodes(0, 5));
        Check.due("the greatest", 7, desk.askByCodes(5, 5));
    }

    @Says("from to now: the last hour")
    static void promise05TheLeastAndTheGreatestTo() {
        Desk desk = new Desk().passTo(5).write("7");
        Check.due("the least", 7, desk.ask(3, 3));
        Check.due("the greatest", 7, desk.ask(3, 5));
    }

    @Says("from to now: the last hour")
    static void promise06TheLeastAndTheGreatestTo() {
        Desk desk = new Desk().passTo(5).write("7");
        Check.due("the least", 7, desk.askByCodes(3, 3));
        Check.due("the greatest", 7, desk.askByCodes(3, 5));
    }

    @Says("Throws `IllegalArgumentException` if from or to is out of range")
    static void promise05NoHoursBesideThese() {
        Check.range(() -> new Desk().passTo(5).tell(0, 0, 9, 3).write("s(v)"),
                desk -> desk.ask(-1, 5), desk -> desk.ask(6, 6), desk -> desk.ask(6, 5),
                desk -> desk.ask(0, 6), desk -> desk.ask(3, 2), desk -> desk.ask(0, -1),
                desk -> desk.ask(-1, -1), desk -> desk.ask(Integer.MIN_VALUE, 5),
                desk -> desk.ask(0, Integer.MAX_VALUE), desk -> desk.ask(5, Integer.MIN_VALUE),
                desk -> desk.ask(Integer.MAX_VALUE, Integer.MAX_VALUE));
        Check.range(() -> new Desk().write("1"), desk -> desk.ask(0, 1), desk -> desk.ask(1, 1));
        Check.range(() -> new Desk().passTo(1000).write("1"), desk -> desk.ask(0, 1001),
                desk -> desk.ask(1001, 1001));
    }

    @Says("Throws `IllegalArgumentException` if from or to is out of range")
    static void promise06NoHoursBesideThese() {
        Check.range(() -> new Desk().passTo(5).tell(0, 0, 9, 3).write("s(v)"),
                desk -> desk.askByCodes(-1, 5), desk -> desk.askByCodes(6, 6),
                desk -> desk.askByCodes(6, 5), desk -> desk.askByCodes(0, 6),
                desk -> desk.askByCodes(3, 2), desk -> desk.askByCodes(0, -1),
                desk -> desk.askByCodes(-1, -1), desk -> desk.askByCodes(Integer.MIN_VALUE, 5),
                desk -> desk.askByCodes(0, Integer.MAX_VALUE),
                desk -> desk.askByCodes(5, Integer.MIN_VALUE),
                desk -> desk.askByCodes(Integer.MAX_VALUE, Integer.MAX_VALUE));
        Check.range(() -> new Desk().write("1"), desk -> desk.askByCodes(0, 1),
                desk -> desk.askByCodes(1, 1));
        Check.range(() -> new Desk().passTo(1000).write("1"), desk -> desk.askByCodes(0, 1001),
                desk -> desk.askByCodes(1001, 1001));
    }

    private static final String[] NO_QUESTIONS = {"", "1+", "n(:p=1", "a", "12345", "s()", "1<2<3", "1 ",
        "(".repeat(40), "-".repeat(40), "1+".repeat(20)};

    @Says("Throws `IllegalStateException` if the text is no question")
    static void promise05NoQuestion() {
        for (String text : NO_QUESTIONS) {
            Check.state(() -> new Desk().write(text), desk -> desk.ask(0, 0));
        }
    }

    @Says("Throws `IllegalStateException` if the text is no question")
    static void promise06NoQuestion() {
        for (String text : NO_QUESTIONS) {
            Check.state(() -> new Desk().write(text), desk -> desk.askByCodes(0, 0));
        }
    }

    @Says("Throws `IllegalArgumentException` if from or to is out of range")
    static void promise05TheRangeIsAheadOfTheText() {
        Check.range(() -> new Desk().write("1+"), desk -> desk.ask(-1, 0), desk -> desk.ask(0, 1));
    }

    @Says("Throws `IllegalArgumentException` if from or to is out of range")
    static void promise06TheRangeIsAheadOfTheText() {
        Check.range(() -> new Desk().write("1+"), desk -> desk.askByCodes(-1, 0),
                desk -> desk.askByCodes(0, 1));
    }

    @Says("Returns the same")
    static void promise06TheCodesAreThoseOfTheTextOfNow() {
        Desk desk = new Desk().passTo(2).tell(0, 0, 1, 0).tell(0, 0, 2, 1).tell(0, 0, 4, 2);
        desk.write("s(v)");
        Check.due("ask", 1, desk.ask(0, 0));
        Check.due("askByCodes of other hours", 6, desk.askByCodes(1, 2));
        Check.due("ask of other hours", 2, desk.ask(1, 1));
        desk.type('+');
        Check.due("no question", "java.lang.IllegalStateException",
                Check.outcome(() -> desk.askByCodes(0, 2)));
        desk.type('9');
        Check.due("askByCodes of the text then", 16, desk.askByCodes(0, 2));
        desk.write("n()");
        Check.due("askByCodes of another text", 2, desk.askByCodes(0, 1));
        Check.due("ask of another text", 3, desk.ask(0, 2));
    }

    @Says("Returns the same, found by turning the text into a row of codes")
    static void promise06TheLongestRowsOfCodes() {
        Desk desk = new Desk();
        for (int i = 0; i < 100; i++) {
            desk.log(i % 8, i % 6, i, 0);
        }
        Values.both(desk, "n()+".repeat(9) + "n()", 0, 0, 1000);
        Values.both(desk, "n()*(n()-(n()+(n()-(n()+(n()-(1))))))", 0, 0, 9900);
        Values.both(desk, "-(".repeat(12) + "n()" + ")".repeat(12), 0, 0, 100);
        Values.both(desk, "1-(1-(1-(1-(1-(1-(1-(1-(1-(2)))))))))", 0, 0, -1);
        String choice = "!(".repeat(7) + "p<4&!(l=1|l=2)" + ")".repeat(7);
        Values.both(desk, "s(v:" + choice + ")", 0, 0, oddParts());
        Values.both(desk, "0<1*2*3*4*5*6*7*8*9*1*2*3*4*5*6*7*8*9", 0, 0, 1);
    }

    /** The sum for which p<4 and neither l=1 nor l=2 do not hold, by hand. */
    private static long oddParts() {
        long sum = 0;
        for (int i = 0; i < 100; i++) {
            boolean holds = i % 8 < 4 && !(i % 6 == 1 || i % 6 == 2);
            sum += holds ? 0 : i;
        }
        return sum;
    }
}
