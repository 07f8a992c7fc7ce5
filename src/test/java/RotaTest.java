/** Promises 10 to 17: addPerson, off, swap, planned, next, holder, nights, owes. */
public final class RotaTest {
    public static void main(String[] args) {
        addPerson();
        off();
        planned();
        swap();
        swapRefused();
        swapKeepsWhenPeopleCome();
        next();
        standIns();
        holder();
        nights();
        owesAndPays();
        debtsWait();
        debtOrder();
        paidDebtsAreGone();
        debtsToTwo();
        debtsOnlyInNights();
        Check.end();
    }

    private static void addPerson() {
        Pagerloom desk = new Pagerloom();
        for (int i = 0; i < 8; i++) {
            Check.due("addPerson", i, desk.addPerson());
        }
        Check.state("the person 8", () -> desk.addPerson());
        Check.due("nights of 7", 0, desk.nights(7));
        Check.none("nights of 8", () -> desk.nights(8));
        Check.due("planned", 7, desk.planned(7));
        Check.due("planned", 0, desk.planned(8));
    }

    private static void off() {
        Pagerloom desk = Check.withPeople(8);
        Check.none("off -1", () -> desk.off(-1, 1) ? 1 : 0);
        Check.none("off 8", () -> desk.off(8, 1) ? 1 : 0);
        Check.none("off 8, wrong shift", () -> desk.off(8, 0) ? 1 : 0);
        for (int shift : new int[] {0, -1, 126, Integer.MAX_VALUE, Integer.MIN_VALUE}) {
            Check.range("off in " + shift, () -> desk.off(0, shift) ? 1 : 0);
        }
        Check.due("off", true, desk.off(7, 125));
        Check.due("off taken back", false, desk.off(7, 125));
        Check.due("off again", true, desk.off(7, 125));
        Check.due("another one", true, desk.off(0, 125));
        Check.due("another shift", true, desk.off(7, 124));
        Check.due("taken back alone", false, desk.off(0, 125));
        Check.due("the first one is still off", false, desk.off(7, 125));
        desk.pass(7);
        Check.due("off in the shift 1, from the hour 7", true, desk.off(0, 1));
        desk.pass(1);
        Check.range("off in the shift 1, from the hour 8", () -> desk.off(0, 1) ? 1 : 0);
        Check.due("off in the shift 2", true, desk.off(0, 2));
        Check.passTo(desk, 1000);
        Check.range("off in the shift 125, from it", () -> desk.off(0, 125) ? 1 : 0);
    }

    private static void planned() {
        Pagerloom desk = new Pagerloom();
        Check.due("planned of nobody", -1, desk.planned(1));
        Check.due("planned of nobody", -1, desk.planned(125));
        for (int shift : new int[] {0, -1, 126, Integer.MAX_VALUE}) {
            Check.range("planned " + shift, () -> desk.planned(shift));
        }
        desk.addPerson();
        Check.due("planned of one", 0, desk.planned(125));
        desk.addPerson();
        desk.addPerson();
        Check.due("planned of three", 1, desk.planned(1));
        Check.due("planned of three", 0, desk.planned(3));
        Check.due("planned of three", 2, desk.planned(125));
        desk.off(1, 1);
        Check.due("planned also if off", 1, desk.planned(1));
        desk.pass(8);
        Check.range("planned of the shift of now", () -> desk.planned(1));
        Check.due("planned of the next", 2, desk.planned(2));
    }

    private static void swap() {
        Pagerloom desk = Check.withPeople(3);
        desk.swap(1, 125);
        Check.due("swapped", 2, desk.planned(1));
        Check.due("swapped", 1, desk.planned(125));
        desk.swap(1, 3);
        Check.due("swapped twice", 0, desk.planned(1));
        Check.due("swapped on", 2, desk.planned(3));
        desk.swap(3, 125);
        Check.due("swapped on", 1, desk.planned(3));
        Check.due("swapped on", 2, desk.planned(125));
        desk.pass(8);
        Check.due("the swap is held", 0, desk.holder(1));
    }

    private static void swapRefused() {
        Pagerloom desk = new Pagerloom();
        Check.state("swap of nobody", () -> swapped(desk, 1, 2));
        Check.range("swap of the same, of nobody", () -> swapped(desk, 1, 1));
        desk.addPerson();
        Check.state("swap of one", () -> swapped(desk, 1, 2));
        desk.addPerson();
        Check.state("swap of the same person", () -> swapped(desk, 1, 3));
        int[][] wrong = {{0, 1}, {1, 0}, {126, 1}, {1, 126}, {-1, 1}, {1, -1}, {2, 2}};
        for (int[] row : wrong) {
            Check.range("swap " + row[0] + " " + row[1], () -> swapped(desk, row[0], row[1]));
        }
        desk.off(1, 2);
        Check.state("the first is off in the other", () -> swapped(desk, 1, 2));
        Check.state("the second is off in the other", () -> swapped(desk, 2, 1));
        desk.off(1, 2);
        desk.off(0, 1);
        Check.state("the other is off in the first", () -> swapped(desk, 1, 2));
        desk.off(0, 1);
        Check.due("nothing is swapped", 1, desk.planned(1));
        Check.due("nothing is swapped", 0, desk.planned(2));
        // Who is off in the shift that is given away may give it.
        desk.off(1, 1);
        desk.off(0, 2);
        desk.swap(1, 2);
        Check.due("swapped", 0, desk.planned(1));
        Check.due("swapped", 1, desk.planned(2));
        desk.pass(8);
        Check.range("swap of the shift of now", () -> swapped(desk, 1, 2));
        Check.range("swap with the shift of now", () -> swapped(desk, 2, 1));
    }

    private static int swapped(Pagerloom desk, int shift, int other) {
        desk.swap(shift, other);
        return 0;
    }

    private static void swapKeepsWhenPeopleCome() {
        Pagerloom desk = Check.withPeople(2);
        desk.swap(5, 6);
        desk.addPerson();
        desk.addPerson();
        Check.due("swapped stays", 0, desk.planned(5));
        Check.due("swapped stays", 1, desk.planned(6));
        Check.due("the others move", 3, desk.planned(7));
    }

    private static void next() {
        Pagerloom desk = new Pagerloom();
        Check.due("next of nobody", -1, desk.next());
        desk.addPerson();
        Check.due("next of one", 0, desk.next());
        desk.addPerson();
        Check.due("next of two", 1, desk.next());
        desk.off(1, 1);
        Check.due("next stands in", 0, desk.next());
        desk.off(0, 1);
        Check.due("next of nobody", -1, desk.next());
        desk.off(1, 1);
        desk.pass(7);
        Check.due("next in the hour 7", 1, desk.next());
        desk.pass(1);
        Check.due("next in the hour 8", 0, desk.next());
        Check.due("it held", 1, desk.holder(1));
        Check.passTo(desk, 991);
        Check.due("next in the hour 991", 0, desk.next());
        Check.passTo(desk, 999);
        Check.due("next in the hour 999", 1, desk.next());
        desk.pass(1);
        Check.due("next in the hour 1000", -1, desk.next());
        Check.due("the last one held", 1, desk.holder(125));
    }

    private static void standIns() {
        Pagerloom desk = Check.withPeople(4);
        for (int person : new int[] {2, 3}) {
            desk.off(person, 2);
        }
        desk.off(3, 3);
        desk.off(0, 3);
        for (int person = 0; person < 4; person++) {
            desk.off(person, 4);
        }
        desk.off(1, 5);
        Check.passTo(desk, 40);
        Check.due("behind the greatest one from 0 on", 0, desk.holder(2));
        Check.due("round to 1", 1, desk.holder(3));
        Check.due("all are off", -1, desk.holder(4));
        Check.due("the next one", 2, desk.holder(5));
        Check.due("the one who is planned", 1, desk.holder(1));
    }

    private static void holder() {
        Pagerloom desk = Check.withPeople(2);
        Check.due("the shift 0 has none", -1, desk.holder(0));
        Check.range("holder -1", () -> desk.holder(-1));
        Check.range("holder 1", () -> desk.holder(1));
        desk.pass(7);
        Check.range("holder 1 in the hour 7", () -> desk.holder(1));
        desk.pass(1);
        Check.due("holder 1", 1, desk.holder(1));
        desk.addPerson();
        Check.due("holder stays", 1, desk.holder(1));
        Check.due("the shift 0 has still none", -1, desk.holder(0));
        Check.range("holder 2", () -> desk.holder(2));
        Check.range("holder of the greatest", () -> desk.holder(Integer.MAX_VALUE));
        Check.passTo(desk, 1000);
        Check.due("holder 125", 2, desk.holder(125));
        Check.range("holder 126", () -> desk.holder(126));
    }

    private static void nights() {
        Pagerloom desk = Check.withPeople(2);
        Check.none("nights -1", () -> desk.nights(-1));
        Check.none("nights 2", () -> desk.nights(2));
        Check.passTo(desk, 23);
        Check.due("no night yet", 0, desk.nights(0) + desk.nights(1));
        desk.pass(1);
        Check.due("the night 3", 1, desk.nights(1));
        Check.passTo(desk, 48);
        Check.due("the night 6", 1, desk.nights(0));
        Check.passTo(desk, 1000);
        Check.due("nights of 0", 20, desk.nights(0));
        Check.due("nights of 1", 21, desk.nights(1));
    }

    /** A desk of three where 0 owns the rule 0, and one alarm has woken 1 in the night 3, hour 24. */
    private static Pagerloom nightAlarm() {
        Pagerloom desk = Check.withPeople(3);
        desk.swap(3, 4);
        Check.passTo(desk, 23);
        Check.rule(desk, "1", 0, 1, 72);
        desk.pass(1);
        Check.due("woken in the night", 1, desk.woken(0));
        return desk;
    }

    private static void owesAndPays() {
        Pagerloom desk = nightAlarm();
        Check.due("owes nothing", 0, desk.owes(0, 1));
        Check.due("answer", 1, desk.answer(0, true));
        Check.due("owes", 1, desk.owes(0, 1));
        Check.due("owes not the other way", 0, desk.owes(1, 0));
        Check.due("owes the same one", 0, desk.owes(0, 0));
        Check.none("owes 3", () -> desk.owes(3, 0));
        Check.none("owes to 3", () -> desk.owes(0, 3));
        Check.none("owes -1", () -> desk.owes(-1, 0));
        Check.none("owes to -1", () -> desk.owes(0, -1));
        // The next night of 1 is that of a swap: the shift 6 is of 0, 7 of 1.
        desk.swap(6, 7);
        Check.passTo(desk, 40);
        Check.due("not paid in a day", 1, desk.owes(0, 1));
        Check.passTo(desk, 47);
        Check.due("planned", 1, desk.planned(6));
        Check.due("next is the debtor", 0, desk.next());
        Check.due("next pays nothing", 1, desk.owes(0, 1));
        desk.pass(1);
        Check.due("the debtor holds", 0, desk.holder(6));
        Check.due("the debt is gone", 0, desk.owes(0, 1));
        Check.due("nights of 0", 1, desk.nights(0));
        Check.due("nights of 1", 1, desk.nights(1));
    }

    private static void debtsWait() {
        Pagerloom desk = nightAlarm();
        desk.answer(0, true);
        desk.swap(6, 7);
        desk.swap(9, 10);
        desk.swap(12, 13);
        // The debtor is off in the first night of 1; then 1 is off in the second one.
        desk.off(0, 6);
        desk.off(1, 9);
        Check.passTo(desk, 48);
        Check.due("the debtor is off", 1, desk.holder(6));
        Check.due("the debt stays", 1, desk.owes(0, 1));
        Check.passTo(desk, 72);
        Check.due("the one who is planned is off", 2, desk.holder(9));
        Check.due("the debt stays", 1, desk.owes(0, 1));
        Check.passTo(desk, 96);
        Check.due("paid", 0, desk.holder(12));
        Check.due("the debt is gone", 0, desk.owes(0, 1));
    }

    /** All alarms wake 2 in nights; the owners 1 and 0 owe it nights, 1 first. */
    private static Pagerloom debtsOfTwo() {
        Pagerloom desk = Check.withPeople(3);
        desk.swap(3, 5);
        Check.passTo(desk, 23);
        Check.rule(desk, "1", 1, 1, 72);
        Check.rule(desk, "1", 0, 1, 72);
        Check.rule(desk, "1", 1, 1, 72);
        desk.pass(1);
        Check.due("three alarms", 3, desk.alarms());
        Check.due("debts", 1, desk.answer(0, true));
        Check.due("debts", 2, desk.answer(1, true));
        Check.due("debts", 3, desk.answer(2, true));
        Check.due("1 owes two", 2, desk.owes(1, 2));
        Check.due("0 owes one", 1, desk.owes(0, 2));
        for (int rule = 0; rule < 3; rule++) {
            desk.drop(rule);
        }
        desk.swap(6, 8);
        desk.swap(9, 11);
        desk.swap(12, 14);
        return desk;
    }

    private static void debtOrder() {
        Pagerloom desk = debtsOfTwo();
        Check.passTo(desk, 96);
        Check.due("the first debt", 1, desk.holder(6));
        Check.due("the second debt", 0, desk.holder(9));
        Check.due("the third debt", 1, desk.holder(12));
        Check.due("all are gone", 0, desk.owes(1, 2) + desk.owes(0, 2));
        desk = debtsOfTwo();
        desk.off(1, 6);
        Check.passTo(desk, 96);
        Check.due("the first whose debtor is not off", 0, desk.holder(6));
        Check.due("the first debt then", 1, desk.holder(9));
        Check.due("the third debt then", 1, desk.holder(12));
    }

    private static void paidDebtsAreGone() {
        Pagerloom desk = nightAlarm();
        desk.answer(0, true);
        desk.drop(0);
        desk.swap(6, 7);
        desk.swap(9, 10);
        Check.passTo(desk, 71);
        Check.due("paid", 0, desk.holder(6));
        Check.due("planned", 1, desk.planned(9));
        Check.due("next, nothing owed", 1, desk.next());
        Check.rule(desk, "1", 2, 1, 72);
        desk.pass(1);
        Check.due("nothing owed", 1, desk.holder(9));
        Check.due("one debt then", 1, desk.answer(1, true));
        Check.due("the new one", 1, desk.owes(2, 1));
        Check.due("not the paid one", 0, desk.owes(0, 1));
    }

    /** The first debt is to 1, the second one to 2, the third one to 1; that to 2 is paid first. */
    private static void debtsToTwo() {
        Pagerloom desk = Check.withPeople(3);
        desk.swap(3, 4);
        desk.swap(6, 8);
        desk.swap(9, 11);
        desk.swap(12, 13);
        desk.swap(15, 16);
        Check.passTo(desk, 23);
        Check.rule(desk, "1", 0, 1, 23);
        Check.rule(desk, "1", 2, 1, 72);
        desk.pass(1);
        Check.due("0 owes 1", 1, desk.answer(0, true));
        Check.passTo(desk, 48);
        Check.due("woken in the night 6", 2, desk.woken(2));
        Check.due("0 owes 2", 2, desk.answer(2, true));
        Check.due("2 owes 1", 3, desk.answer(1, true));
        desk.drop(0);
        desk.drop(1);
        Check.passTo(desk, 72);
        Check.due("the second debt is paid", 0, desk.holder(9));
        Check.due("0 owes 2 nothing", 0, desk.owes(0, 2));
        Check.due("0 owes 1", 1, desk.owes(0, 1));
        Check.due("2 owes 1", 1, desk.owes(2, 1));
        Check.passTo(desk, 120);
        Check.due("the first debt is paid", 0, desk.holder(12));
        Check.due("the third debt is paid", 2, desk.holder(15));
        Check.due("nobody owes 1", 0, desk.owes(0, 1) + desk.owes(2, 1));
    }

    private static void debtsOnlyInNights() {
        Pagerloom desk = nightAlarm();
        desk.answer(0, true);
        desk.drop(0);
        Check.passTo(desk, 32);
        Check.due("the shift 4 is no night", 0, desk.holder(4));
        Check.passTo(desk, 56);
        Check.due("the shift 6 is not of 1", 0, desk.holder(6));
        Check.due("the shift 7 is of 1, and no night", 1, desk.holder(7));
        Check.due("the debt stays", 1, desk.owes(0, 1));
    }
}
