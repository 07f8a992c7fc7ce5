/** Terms: People, rota, shifts. */
public final class TermsRotaTest {
    public static void main(String[] args) {
        Check.all(TermsRotaTest.class);
    }

    // ---- people, and who is planned

    @Says("People are numbered from 0, at most 8.")
    static void theFirstPersonIs0AndTheLast7() {
        Desk desk = new Desk();
        for (int person = 0; person < 8; person++) {
            Check.due("addPerson", person, desk.addPerson());
        }
        Check.due("planned 7", 7, desk.planned(7));
        Check.due("planned 8", 0, desk.planned(8));
    }

    @Says("People are numbered from 0, at most 8.")
    static void noPersonBehindTheLast() {
        Check.state(() -> Desk.of(8), desk -> desk.addPerson());
        Check.state(() -> Desk.of(8).passTo(1000), desk -> desk.addPerson());
    }

    @Says("who got it by the last swap of this shift")
    static void theLastSwapOfAShiftCounts() {
        Desk desk = Desk.of(4).swapShifts(1, 2);
        Check.due("planned 1", 2, desk.planned(1));
        Check.due("planned 2", 1, desk.planned(2));
        desk.swap(1, 3);
        Check.due("planned 1, swapped again", 3, desk.planned(1));
        Check.due("planned 3", 2, desk.planned(3));
        Check.due("planned 2, still of the first swap", 1, desk.planned(2));
        desk.swap(3, 1);
        Check.due("planned 1, swapped back", 2, desk.planned(1));
        Check.due("planned 3, swapped back", 3, desk.planned(3));
        desk.passTo(24);
        Check.due("holder 1", 2, desk.holder(1));
        Check.due("holder 2", 1, desk.holder(2));
    }

    @Says("who got it by the last swap of this shift")
    static void aSwapStaysWhenPeopleCome() {
        Desk desk = Desk.of(2).swapShifts(5, 6).addPeople(2);
        Check.due("planned 5", 0, desk.planned(5));
        Check.due("planned 6", 1, desk.planned(6));
        Check.due("planned 7", 3, desk.planned(7));
        // Swapped back is not the same as not swapped: it stays with who got it.
        desk = Desk.of(2).swapShifts(5, 6).swapShifts(5, 6).addPeople(1);
        Check.due("planned 5", 1, desk.planned(5));
        Check.due("planned 6", 0, desk.planned(6));
        Check.due("planned 8", 2, desk.planned(8));
    }

    @Says("without one the person whose number is the rest of the number of the shift "
            + "divided by the number of people")
    static void theRestTellsThePerson() {
        for (int people = 1; people <= 8; people++) {
            Desk desk = Desk.of(people);
            for (int shift : new int[] {1, 2, 3, 6, 7, 8, 9, 15, 16, 123, 124, 125}) {
                Check.due(shift + " of " + people, shift % people, desk.planned(shift));
            }
        }
    }

    @Says("as many as there are by now")
    static void thosePlannedChangeWhenPeopleCome() {
        Desk desk = new Desk();
        int[] due = {0, 1, 2, 1, 0, 5, 5, 5};
        for (int person = 0; person < 8; person++) {
            desk.addPerson();
            Check.due("planned 5 of " + (person + 1), due[person], desk.planned(5));
        }
        desk = Desk.of(1).passTo(39).addPeople(2);
        desk.pass(1);
        Check.due("holder 4", 0, desk.holder(4));
        Check.due("holder 5", 2, desk.holder(5));
    }

    @Says("nobody, if there are none")
    static void nobodyIsPlannedWithoutPeople() {
        Desk desk = new Desk();
        Check.due("planned 1", -1, desk.planned(1));
        Check.due("planned 125", -1, desk.planned(125));
        desk.passTo(24);
        for (int shift = 0; shift <= 3; shift++) {
            Check.due("holder " + shift, -1, desk.holder(shift));
        }
    }

    @Says("Somebody can be off in shifts to come.")
    static void offInOneShiftAlone() {
        Desk desk = Desk.of(2);
        Check.due("off in 2", true, desk.off(0, 2));
        desk.passTo(32);
        int[] due = {-1, 1, 1, 1, 0};
        for (int shift = 0; shift <= 4; shift++) {
            Check.due("holder " + shift, due[shift], desk.holder(shift));
        }
    }

    @Says("Somebody can be off in shifts to come.")
    static void notOffInAShiftThatHasBegun() {
        Check.range(() -> Desk.of(1).passTo(16), desk -> desk.off(0, 2), desk -> desk.off(0, 1),
                desk -> desk.off(0, 0));
        Desk desk = Desk.of(1).passTo(15);
        Check.due("off in the shift to come", true, desk.off(0, 2));
    }

    // ---- the holder of a shift

    @Says("When a shift begins (with its first hour), it gets a holder: the one who is planned")
    static void whoIsPlannedHolds() {
        Desk desk = Desk.of(8).passTo(72);
        for (int shift = 1; shift <= 9; shift++) {
            Check.due("holder " + shift, shift % 8, desk.holder(shift));
        }
    }

    @Says("When a shift begins (with its first hour), it gets a holder")
    static void theHolderIsSettledWithTheFirstHour() {
        Desk desk = Desk.of(1).passTo(7).addPeople(1);
        desk.pass(1);
        Check.due("who came in the hour before", 1, desk.holder(1));
        desk.addPeople(1);
        Check.due("planned 4 by now", 1, desk.planned(4));
        Check.due("who came in the first hour", 1, desk.holder(1));
        desk = new Desk().passTo(8).addPeople(1);
        Check.due("nobody when it began", -1, desk.holder(1));
        desk.pass(7);
        Check.due("nobody to its last hour", -1, desk.holder(1));
        desk.pass(1);
        Check.due("the next one", 0, desk.holder(2));
    }

    /** Who holds the shift 2 of four people, of whom 2 is planned, with some off. */
    private static int standIn(int... off) {
        return Desk.of(4).turnOff(2, off).passTo(16).holder(2);
    }

    @Says("but if this one is off in it, the first one who is not, of those with the next numbers")
    static void theNextOneStandsIn() {
        Check.due("nobody off", 2, standIn());
        Check.due("others off", 2, standIn(0, 1, 3));
        Check.due("2 off", 3, standIn(2));
        Check.due("2 off and back", 2, standIn(2, 2));
        Check.due("2, 0 and 1 off", 3, standIn(2, 0, 1));
    }

    @Says("behind the greatest one from 0 on")
    static void behindTheGreatestOneFrom0On() {
        Check.due("2 and 3 off", 0, standIn(2, 3));
        Check.due("2, 3 and 0 off", 1, standIn(2, 3, 0));
        Check.due("2, 3 and 1 off", 0, standIn(2, 3, 1));
        Check.due("the greatest one off", 0, Desk.of(4).turnOff(3, 3).passTo(24).holder(3));
        Check.due("7 of 8 off", 0, Desk.of(8).turnOff(7, 7).passTo(56).holder(7));
        Check.due("all off but the one ahead", 6,
                Desk.of(8).turnOff(7, 7, 0, 1, 2, 3, 4, 5).passTo(56).holder(7));
        Check.due("0 off", 1, Desk.of(8).turnOff(8, 0).passTo(64).holder(8));
    }

    @Says("nobody, if all are off")
    static void nobodyIfAllAreOff() {
        Check.due("four off", -1, standIn(0, 1, 2, 3));
        Check.due("one off of one", -1, Desk.of(1).turnOff(1, 0).passTo(8).holder(1));
        Check.due("eight off", -1, Desk.of(8).turnOff(8, 0, 1, 2, 3, 4, 5, 6, 7).passTo(64).holder(8));
        Desk desk = Desk.of(2).turnOff(3, 0, 1).passTo(32);
        Check.due("a night of nobody", 0, desk.nights(0) + desk.nights(1));
        Check.due("the shift behind it", 0, desk.holder(4));
    }

    @Says("but if this one is off in it, the first one who is not")
    static void standInsGoByTheSwap() {
        // 0 got the shift 2 by the swap: behind 0 stands 1, though 3 stands behind 2.
        Desk desk = Desk.of(4).swapShifts(2, 4).turnOff(2, 0).passTo(32);
        Check.due("holder 2", 1, desk.holder(2));
        Check.due("holder 4", 2, desk.holder(4));
    }

    // ---- debts that are paid

    /**
     * Four people in the hour 24: the rules of the owners have woken the creditor, in this order.
     * The nights to come are, by the rest, 6 of 2, 9 of 1, 12 of 0, 15 of 3 and 18 of 2.
     */
    private static Desk owing(int creditor, int... owners) {
        Desk desk = Desk.of(4);
        for (int person = 0; person < 4; person++) {
            if (person != creditor) {
                desk.off(person, 3);
            }
        }
        desk.passTo(23);
        for (int owner : owners) {
            desk.rule("1", owner, 1, 72);
        }
        desk.pass(1);
        for (int i = 0; i < owners.length; i++) {
            Check.due("debts", i + 1, desk.answer(i, true));
            desk.drop(i);
        }
        return desk;
    }

    @Says("the first debt to this one, in the order of debts, whose debtor is not off in the shift, "
            + "is paid by that: the debtor is the holder, and the debt is gone.")
    static void theDebtorHoldsTheNight() {
        Desk desk = owing(2, 0).passTo(47);
        Check.due("planned 6", 2, desk.planned(6));
        Check.due("owed in the hour before", 1, desk.owes(0, 2));
        desk.pass(1);
        Check.due("holder 6", 0, desk.holder(6));
        Check.due("gone in the first hour", 0, desk.owes(0, 2));
        desk.passTo(144);
        Check.due("holder 18, nothing owed", 2, desk.holder(18));
        Check.due("nights of 2", 2, desk.nights(2));
        Check.due("nights of 0", 2, desk.nights(0));
    }

    @Says("and the shift is a night")
    static void noDebtIsPaidInADay() {
        Desk desk = owing(1, 0).passTo(47);
        Check.due("holder 5", 1, desk.holder(5));
        Check.due("owed", 1, desk.owes(0, 1));
        desk = owing(0, 1).passTo(71);
        Check.due("holder 4", 0, desk.holder(4));
        Check.due("holder 8", 0, desk.holder(8));
        Check.due("owed", 1, desk.owes(1, 0));
    }

    @Says("the first debt to this one")
    static void noDebtToAnotherOneIsPaid() {
        Desk desk = owing(1, 0).passTo(48);
        Check.due("the night of 2", 2, desk.holder(6));
        Check.due("owed to 1", 1, desk.owes(0, 1));
        desk.passTo(72);
        Check.due("the night of 1", 0, desk.holder(9));
        Check.due("owed to 1", 0, desk.owes(0, 1));
        // What the one who is planned owes is not what is owed to it.
        desk = owing(3, 2).passTo(48);
        Check.due("the night of the debtor", 2, desk.holder(6));
        Check.due("owed to 3", 1, desk.owes(2, 3));
    }

    @Says("If the one who is planned is not off")
    static void noDebtIsPaidIfTheOneWhoIsPlannedIsOff() {
        Desk desk = owing(2, 0).turnOff(6, 2).passTo(48);
        Check.due("the stand-in", 3, desk.holder(6));
        Check.due("owed", 1, desk.owes(0, 2));
        desk.passTo(144);
        Check.due("the next night of 2", 0, desk.holder(18));
        // Nor a debt to the stand-in, who is not the one who is planned.
        desk = owing(3, 0).turnOff(6, 2).passTo(48);
        Check.due("the stand-in", 3, desk.holder(6));
        Check.due("owed to the stand-in", 1, desk.owes(0, 3));
    }

    @Says("whose debtor is not off in the shift")
    static void aDebtorWhoIsOffPaysLater() {
        Desk desk = owing(2, 0).turnOff(6, 0).passTo(48);
        Check.due("holder 6", 2, desk.holder(6));
        Check.due("owed", 1, desk.owes(0, 2));
        desk.passTo(144);
        Check.due("holder 18", 0, desk.holder(18));
        Check.due("owed", 0, desk.owes(0, 2));
    }

    @Says("whose debtor is not off in the shift")
    static void theNextDebtIsPaidIfTheFirstDebtorIsOff() {
        Desk desk = owing(2, 0, 1).turnOff(6, 0).passTo(48);
        Check.due("holder 6", 1, desk.holder(6));
        Check.due("owed by 0", 1, desk.owes(0, 2));
        Check.due("owed by 1", 0, desk.owes(1, 2));
        desk = owing(2, 0, 0, 1).turnOff(6, 0).passTo(48);
        Check.due("holder 6, behind two debts of 0", 1, desk.holder(6));
        Check.due("owed by 0", 2, desk.owes(0, 2));
    }

    @Says("whose debtor is not off in the shift")
    static void noDebtIsPaidIfAllDebtorsAreOff() {
        Desk desk = owing(2, 0, 1).turnOff(6, 0, 1).passTo(48);
        Check.due("holder 6", 2, desk.holder(6));
        Check.due("owed", 2, desk.owes(0, 2) + desk.owes(1, 2));
    }

    @Says("in the order of debts")
    static void theFirstDebtIsPaidFirst() {
        Desk desk = owing(2, 1, 0, 1).passTo(48);
        Check.due("holder 6", 1, desk.holder(6));
        Check.due("owed by 1", 1, desk.owes(1, 2));
        Check.due("owed by 0, one debt a night", 1, desk.owes(0, 2));
        desk.passTo(144);
        Check.due("holder 18", 0, desk.holder(18));
        desk.passTo(240);
        Check.due("holder 30", 1, desk.holder(30));
        Check.due("owed", 0, desk.owes(0, 2) + desk.owes(1, 2));
        desk.passTo(336);
        Check.due("holder 42", 2, desk.holder(42));
    }

    @Says("in the order of debts")
    static void theOrderStaysWhenADebtBetweenIsPaid() {
        // 0 to 2, then 3 to 1, then 3 to 2: that to 1 is paid in the night 9, the others behind it.
        Desk desk = owing(2, 0).turnOff(6, 0, 2, 3).passTo(47).rule("1", 3, 1, 72);
        desk.pass(1);
        Check.due("woken", 1, desk.woken(1));
        Check.due("3 owes 1", 2, desk.answer(1, true));
        desk.drop(1);
        desk.turnOff(9, 0).turnOff(12, 0, 1, 3).passTo(72);
        Check.due("holder 9", 3, desk.holder(9));
        Check.due("3 owes 1", 0, desk.owes(3, 1));
        desk.passTo(95).rule("1", 3, 1, 72).pass(1);
        Check.due("woken", 2, desk.woken(2));
        Check.due("3 owes 2", 2, desk.answer(2, true));
        desk.drop(2);
        desk.passTo(144);
        Check.due("holder 18", 0, desk.holder(18));
        Check.due("3 owes 2", 1, desk.owes(3, 2));
        desk.passTo(240);
        Check.due("holder 30", 3, desk.holder(30));
        Check.due("3 owes 2", 0, desk.owes(3, 2));
    }

    @Says("the debtor is the holder, and the debt is gone.")
    static void aDebtToTheDebtorIsNotPaidOn() {
        // 0 owes 2 and 1 owes 0: in the night of 2, 0 holds, and 1 still owes.
        Desk desk = owing(2, 0).turnOff(6, 1, 2, 3).turnOff(12, 1).passTo(47).rule("1", 1, 1, 72);
        desk.pass(1);
        Check.due("woken", 0, desk.woken(1));
        Check.due("debts", 2, desk.answer(1, true));
        desk.drop(1);
        desk.passTo(144);
        Check.due("holder 12, the debtor off", 0, desk.holder(12));
        Check.due("holder 18", 0, desk.holder(18));
        Check.due("0 owes 2", 0, desk.owes(0, 2));
        Check.due("1 owes 0", 1, desk.owes(1, 0));
    }

    @Says("If the one who is planned is not off, and the shift is a night")
    static void debtsGoByTheSwap() {
        // 2 gives its night 6 to 1, and gets the night 9: that one is paid.
        Desk desk = owing(2, 0).swapShifts(6, 9).passTo(48);
        Check.due("holder 6", 1, desk.holder(6));
        Check.due("owed", 1, desk.owes(0, 2));
        desk.passTo(72);
        Check.due("holder 9", 0, desk.holder(9));
        Check.due("owed", 0, desk.owes(0, 2));
    }

    @Says("The shift 0 has no holder.")
    static void theShift0HasNoHolder() {
        Desk desk = Desk.of(3);
        for (int hour = 0; hour < 9; hour++) {
            Check.due("holder 0 in the hour " + hour, -1, desk.holder(0));
            Check.due("nights in the hour " + hour, 0, desk.nights(0));
            desk.pass(1);
        }
        desk.passTo(1000);
        Check.due("holder 0 in the hour 1000", -1, desk.holder(0));
    }

    @Says("The shift 0 has no holder.")
    static void alarmsOfTheShift0Wait() {
        Desk desk = Desk.of(3).rule("1", 0, 1, 0);
        desk.pass(7);
        Check.due("waiting", 7, desk.waiting());
    }
}
