/** Promises 10 to 17: addPerson, off, swap, planned, next, holder, nights, owes. */
public final class PromisesOfRotaTest {
    private static final int LEAST = Integer.MIN_VALUE;
    private static final int GREATEST = Integer.MAX_VALUE;

    public static void main(String[] args) {
        Check.all(PromisesOfRotaTest.class);
    }

    /** Four people in the hour 24, in the night 3: 0 and then 1 owe 2 a night; a rule is on. */
    private static Desk owing() {
        return Desk.of(4).turnOff(3, 0, 1, 3).passTo(23).rule("1", 0, 1, 40).rule("1", 1, 1, 72)
                .passTo(24).answerAll(true, 0, 1).dropRules(1);
    }

    // ---- 10: addPerson

    @Says("Adds somebody.")
    static void promise10ThePersonIsThere() {
        Desk desk = new Desk();
        Check.due("nights 0", "java.lang.IndexOutOfBoundsException",
                Check.outcome(() -> desk.nights(0)));
        desk.addPerson();
        Check.due("nights 0", 0, desk.nights(0));
        Check.due("planned 5", 0, desk.planned(5));
        Check.due("nights 1", "java.lang.IndexOutOfBoundsException",
                Check.outcome(() -> desk.nights(1)));
    }

    @Says("Returns the number of the person.")
    static void promise10TheNumbersFrom0To7() {
        Desk desk = new Desk();
        for (int person = 0; person < 8; person++) {
            Check.due("addPerson", person, desk.addPerson());
            desk.pass(24);
        }
        Check.due("nights 7", 0, desk.nights(7));
    }

    @Says("Throws `IllegalStateException` if there are 8")
    static void promise10FullWith8() {
        Check.due("the last one", 7, Desk.of(7).addPerson());
        Check.state(() -> Desk.of(8), desk -> desk.addPerson());
        Check.state(() -> owing().addPeople(4), desk -> desk.addPerson());
    }

    // ---- 11: off

    @Says("Makes somebody off in a shift, or takes that back.")
    static void promise11OffAndBackAndOff() {
        Desk desk = Desk.of(2);
        for (int times = 1; times <= 5; times++) {
            Check.due("off, the time " + times, times % 2 == 1, desk.off(1, 1));
        }
        Check.due("next", 0, desk.next());
        Check.due("taken back", false, desk.off(1, 1));
        Check.due("next", 1, desk.next());
    }

    @Says("Makes somebody off in a shift")
    static void promise11NobodyElseAndNoOtherShift() {
        Desk desk = Desk.of(8);
        Check.due("7 in 125", true, desk.off(7, 125));
        Check.due("0 in 125", true, desk.off(0, 125));
        Check.due("7 in 124", true, desk.off(7, 124));
        Check.due("6 in 125", true, desk.off(6, 125));
        Check.due("0 in 125, taken back", false, desk.off(0, 125));
        Check.due("7 in 125, taken back", false, desk.off(7, 125));
        Check.due("7 in 124, taken back", false, desk.off(7, 124));
        Check.due("6 in 125, taken back", false, desk.off(6, 125));
    }

    @Says("Returns true if the person is off in it then.")
    static void promise11EachPersonInEachOfThem() {
        Desk desk = Desk.of(8);
        for (int person = 0; person < 8; person++) {
            for (int shift : new int[] {1, 2, 63, 125}) {
                Check.due(person + " in " + shift, true, desk.off(person, shift));
            }
        }
        for (int person = 0; person < 8; person++) {
            for (int shift : new int[] {1, 2, 63, 125}) {
                Check.due(person + " in " + shift, false, desk.off(person, shift));
            }
        }
    }

    @Says("a shift to come, up to 125")
    static void promise11TheNextAndTheLastShift() {
        Desk desk = Desk.of(1);
        Check.due("the least in the hour 0", true, desk.off(0, 1));
        Check.due("the greatest", true, desk.off(0, 125));
        desk.pass(7);
        Check.due("the least in the hour 7", false, desk.off(0, 1));
        desk.pass(1);
        Check.due("the least in the hour 8", true, desk.off(0, 2));
        desk.passTo(999);
        Check.due("the least in the hour 999", false, desk.off(0, 125));
    }

    @Says("Throws `IllegalArgumentException` if shift is out of range")
    static void promise11NoShiftBesideThese() {
        Check.range(() -> Desk.of(2), desk -> desk.off(0, 0), desk -> desk.off(0, 126),
                desk -> desk.off(0, -1), desk -> desk.off(0, LEAST), desk -> desk.off(0, GREATEST),
                desk -> desk.off(1, 1000));
    }

    @Says("a shift to come, up to 125")
    static void promise11NoShiftThatHasBegun() {
        Check.range(() -> owing(), desk -> desk.off(0, 3), desk -> desk.off(0, 2),
                desk -> desk.off(0, 0));
        Check.range(() -> owing().passTo(31), desk -> desk.off(0, 3));
        Check.range(() -> Desk.of(1).passTo(1000), desk -> desk.off(0, 125), desk -> desk.off(0, 126));
    }

    @Says("Throws `IndexOutOfBoundsException` as told")
    static void promise11NoSuchPerson() {
        Check.none(Desk::new, desk -> desk.off(0, 1), desk -> desk.off(-1, 1));
        Check.none(() -> Desk.of(3), desk -> desk.off(-1, 1), desk -> desk.off(3, 1),
                desk -> desk.off(LEAST, 1), desk -> desk.off(GREATEST, 1), desk -> desk.off(32, 1));
        Check.none(() -> Desk.of(8), desk -> desk.off(8, 1));
    }

    @Says("Throws `IndexOutOfBoundsException` as told")
    static void promise11ThePersonIsAheadOfTheShift() {
        Check.none(() -> Desk.of(3), desk -> desk.off(3, 0), desk -> desk.off(-1, 126),
                desk -> desk.off(3, GREATEST));
    }

    // ---- 12: swap

    @Says("Swaps two shifts: those who are planned for them get each the shift of the other one.")
    static void promise12EachGetsTheShiftOfTheOther() {
        Desk desk = Desk.of(3).swapShifts(4, 8);
        Check.due("planned 4", 2, desk.planned(4));
        Check.due("planned 8", 1, desk.planned(8));
        Check.due("planned 5", 2, desk.planned(5));
        Check.due("planned 7", 1, desk.planned(7));
        desk.swap(8, 4);
        Check.due("planned 4, swapped back", 1, desk.planned(4));
        Check.due("planned 8, swapped back", 2, desk.planned(8));
    }

    @Says("those who are planned for them get each the shift of the other one.")
    static void promise12SwapsGoOnFromSwaps() {
        // By the rest 1 2 3 0 1.
        Desk desk = Desk.of(4).swapShifts(1, 2).swapShifts(2, 3).swapShifts(3, 4);
        int[] due = {2, 3, 0, 1, 1};
        for (int shift = 1; shift <= 5; shift++) {
            Check.due("planned " + shift, due[shift - 1], desk.planned(shift));
        }
        desk.passTo(40);
        for (int shift = 1; shift <= 5; shift++) {
            Check.due("holder " + shift, due[shift - 1], desk.holder(shift));
        }
    }

    @Says("a shift to come, up to 125")
    static void promise12TheNextAndTheLastShift() {
        Desk desk = Desk.of(2).swapShifts(1, 2).swapShifts(124, 125);
        Check.due("planned 1", 0, desk.planned(1));
        Check.due("planned 2", 1, desk.planned(2));
        Check.due("planned 124", 1, desk.planned(124));
        Check.due("planned 125", 0, desk.planned(125));
        desk = Desk.of(3).passTo(7).swapShifts(125, 1).passTo(15);
        Check.due("planned 125", 1, desk.planned(125));
        Check.due("holder 1", 2, desk.holder(1));
    }

    @Says("Throws `IllegalArgumentException` if shift or other is out of range, or both are the same")
    static void promise12NoShiftBesideThese() {
        Check.range(() -> Desk.of(3), desk -> desk.swap(0, 1), desk -> desk.swap(1, 0),
                desk -> desk.swap(126, 1), desk -> desk.swap(1, 126), desk -> desk.swap(-1, 1),
                desk -> desk.swap(1, -1), desk -> desk.swap(LEAST, 1), desk -> desk.swap(1, LEAST),
                desk -> desk.swap(GREATEST, 1), desk -> desk.swap(1, GREATEST));
        Check.range(() -> owing(), desk -> desk.swap(3, 4), desk -> desk.swap(4, 3));
        Check.range(() -> Desk.of(3).passTo(1000), desk -> desk.swap(125, 126),
                desk -> desk.swap(124, 125));
    }

    @Says("`other`: another one")
    static void promise12NotTheSameShift() {
        Check.range(() -> Desk.of(3), desk -> desk.swap(1, 1), desk -> desk.swap(125, 125));
        Check.range(() -> Desk.of(3).turnOff(2, 2), desk -> desk.swap(2, 2));
    }

    @Says("Throws `IllegalStateException` if there are no people")
    static void promise12NoPeople() {
        Check.state(Desk::new, desk -> desk.swap(1, 2), desk -> desk.swap(1, 125));
    }

    @Says("the same person is planned for both")
    static void promise12TheSamePersonForBoth() {
        Check.state(() -> Desk.of(1), desk -> desk.swap(1, 2));
        Check.state(() -> Desk.of(3), desk -> desk.swap(1, 4), desk -> desk.swap(125, 2));
        // By a swap, too: 1 got the shift 2, and has the shift 4 by the rest.
        Check.state(() -> Desk.of(3).swapShifts(1, 2), desk -> desk.swap(2, 4),
                desk -> desk.swap(4, 2), desk -> desk.swap(1, 5));
    }

    @Says("or one of the two is off in the shift that it would get")
    static void promise12OffInTheShiftThatItWouldGet() {
        // 1 is planned for 1, 2 for 2.
        Check.state(() -> Desk.of(3).turnOff(2, 1), desk -> desk.swap(1, 2),
                desk -> desk.swap(2, 1));
        Check.state(() -> Desk.of(3).turnOff(1, 2), desk -> desk.swap(1, 2),
                desk -> desk.swap(2, 1));
        Check.state(() -> Desk.of(3).turnOff(1, 2).turnOff(2, 1), desk -> desk.swap(1, 2));
    }

    @Says("or one of the two is off in the shift that it would get")
    static void promise12OffInTheShiftThatItGivesIsNoMatter() {
        Desk desk = Desk.of(3).turnOff(1, 1, 0).turnOff(2, 2, 0).swapShifts(1, 2);
        Check.due("planned 1", 2, desk.planned(1));
        Check.due("planned 2", 1, desk.planned(2));
        desk = Desk.of(3).turnOff(2, 1, 1).swapShifts(1, 2);
        Check.due("taken back", 2, desk.planned(1));
    }

    @Says("Throws `IllegalArgumentException` if shift or other is out of range, or both are the same")
    static void promise12TheRangeIsAheadOfTheState() {
        Check.range(Desk::new, desk -> desk.swap(0, 1), desk -> desk.swap(1, 126),
                desk -> desk.swap(1, 1));
        Check.range(() -> Desk.of(1), desk -> desk.swap(2, 126), desk -> desk.swap(3, 3));
        Check.range(() -> Desk.of(3).turnOff(1, 1), desk -> desk.swap(1, 1));
    }

    // ---- 13: planned

    @Says("Returns who is planned for a shift.")
    static void promise13AlsoIfOffOrOwed() {
        Desk desk = owing().turnOff(7, 3);
        Check.due("who is owed a night", 2, desk.planned(6));
        Check.due("who is off", 3, desk.planned(7));
        desk.swap(6, 9);
        Check.due("who got it", 1, desk.planned(6));
    }

    @Says("a shift to come, up to 125")
    static void promise13TheNextAndTheLastShift() {
        Desk desk = Desk.of(3);
        Check.due("the least", 1, desk.planned(1));
        Check.due("the greatest", 2, desk.planned(125));
        desk.pass(7);
        Check.due("the least in the hour 7", 1, desk.planned(1));
        desk.passTo(999);
        Check.due("the least in the hour 999", 2, desk.planned(125));
    }

    @Says("Returns the person; NONE if there are no people.")
    static void promise13NoneWithoutPeople() {
        Desk desk = new Desk();
        Check.due("the least", Pagerloom.NONE, desk.planned(1));
        Check.due("the greatest", Pagerloom.NONE, desk.planned(125));
        desk.addPerson();
        Check.due("of one", 0, desk.planned(125));
    }

    @Says("Throws `IllegalArgumentException` if shift is out of range")
    static void promise13NoShiftBesideThese() {
        Check.range(Desk::new, desk -> desk.planned(0), desk -> desk.planned(126));
        Check.range(() -> owing(), desk -> desk.planned(3), desk -> desk.planned(0),
                desk -> desk.planned(-1), desk -> desk.planned(126), desk -> desk.planned(LEAST),
                desk -> desk.planned(GREATEST));
        Check.range(() -> Desk.of(1).passTo(1000), desk -> desk.planned(125),
                desk -> desk.planned(126));
    }

    // ---- 14: next

    @Says("Returns who would hold the next shift, if nothing changed till then.")
    static void promise14IsTheHolderThen() {
        Desk desk = Desk.of(4).turnOff(2, 2).turnOff(3, 3, 0).turnOff(4, 0, 1, 2).swapShifts(5, 6);
        for (int shift = 1; shift <= 8; shift++) {
            int next = desk.next();
            desk.pass(8);
            Check.due("holder " + shift, next, desk.holder(shift));
        }
        int[] due = {-1, 1, 3, 1, 3, 2, 1, 3, 0};
        for (int shift = 0; shift <= 8; shift++) {
            Check.due("holder " + shift, due[shift], desk.holder(shift));
        }
    }

    @Says("Returns who would hold the next shift, if nothing changed till then.")
    static void promise14GoesByWhatIsByNow() {
        Desk desk = Desk.of(1);
        Check.due("of one", 0, desk.next());
        desk.addPerson();
        Check.due("of two", 1, desk.next());
        desk.off(1, 1);
        Check.due("1 off", 0, desk.next());
        desk.off(0, 1);
        Check.due("both off", -1, desk.next());
        desk.off(1, 1);
        Check.due("1 back", 1, desk.next());
        desk.off(0, 1);
        desk.swap(1, 2);
        Check.due("swapped", 0, desk.next());
    }

    @Says("Returns who would hold the next shift")
    static void promise14IsTheDebtorIfADebtWouldBePaid() {
        Desk desk = owing().passTo(40);
        Check.due("the debtor", 0, desk.next());
        Check.due("owed, asked alone", 1, desk.owes(0, 2));
        desk.off(0, 6);
        Check.due("the next debtor", 1, desk.next());
        desk.off(1, 6);
        Check.due("who is planned", 2, desk.next());
        desk.off(2, 6);
        Check.due("the stand-in", 3, desk.next());
        desk.turnOff(6, 0, 2);
        Check.due("the debtor", 0, desk.next());
        desk.pass(8);
        Check.due("holder 6", 0, desk.holder(6));
        Check.due("the shift 7", 3, desk.next());
    }

    @Says("Returns the person; NONE for nobody, or if it would be behind the shift 125.")
    static void promise14NoneForNobody() {
        Check.due("without people", Pagerloom.NONE, new Desk().next());
        Check.due("all off", Pagerloom.NONE, Desk.of(2).turnOff(1, 0, 1).next());
    }

    @Says("or if it would be behind the shift 125.")
    static void promise14NoneBehindTheShift125() {
        Desk desk = Desk.of(3).passTo(991);
        Check.due("in the hour 991", 124 % 3, desk.next());
        desk.pass(1);
        Check.due("in the hour 992", 125 % 3, desk.next());
        desk.passTo(999);
        Check.due("in the hour 999", 125 % 3, desk.next());
        desk.pass(1);
        Check.due("in the hour 1000", Pagerloom.NONE, desk.next());
    }

    @Says("Returns who would hold the next shift")
    static void promise14TheNextShiftFromHourToHour() {
        Desk desk = Desk.of(3);
        for (int hour = 0; hour < 48; hour++) {
            Check.due("in the hour " + hour, (hour / 8 + 1) % 3, desk.next());
            desk.pass(1);
        }
    }

    // ---- 15: holder

    @Says("Returns who holds, or held, a shift.")
    static void promise15HoldsAndHeld() {
        Desk desk = owing().passTo(48);
        int[] due = {-1, 1, 2, 2, 0, 1, 0};
        for (int shift = 0; shift <= 6; shift++) {
            Check.due("holder " + shift, due[shift], desk.holder(shift));
        }
        desk.addPeople(4).passTo(1000);
        for (int shift = 0; shift <= 6; shift++) {
            Check.due("held " + shift, due[shift], desk.holder(shift));
        }
    }

    @Says("0 to that of now")
    static void promise15TheLeastAndTheGreatestShift() {
        Desk desk = Desk.of(3);
        Check.due("in the hour 0", -1, desk.holder(0));
        desk.passTo(8);
        Check.due("in the hour 8", 1, desk.holder(1));
        desk.passTo(23);
        Check.due("in the hour 23", 2, desk.holder(2));
        desk.passTo(1000);
        Check.due("the least in the hour 1000", -1, desk.holder(0));
        Check.due("the greatest in the hour 1000", 2, desk.holder(125));
    }

    @Says("Throws `IllegalArgumentException` if shift is out of range")
    static void promise15NoShiftBesideThese() {
        Check.range(() -> Desk.of(3), desk -> desk.holder(-1), desk -> desk.holder(1));
        Check.range(() -> owing(), desk -> desk.holder(-1), desk -> desk.holder(4),
                desk -> desk.holder(LEAST), desk -> desk.holder(GREATEST), desk -> desk.holder(125));
        Check.range(() -> Desk.of(3).passTo(31), desk -> desk.holder(4));
        Check.range(() -> Desk.of(3).passTo(1000), desk -> desk.holder(126));
    }

    @Says("Returns the person; NONE for nobody.")
    static void promise15NoneForNobody() {
        Check.due("the shift 0", Pagerloom.NONE, Desk.of(8).holder(0));
        Check.due("without people", Pagerloom.NONE, new Desk().passTo(8).holder(1));
        Check.due("all off", Pagerloom.NONE, Desk.of(2).turnOff(1, 0, 1).passTo(8).holder(1));
    }

    // ---- 16: nights

    @Says("Returns how many nights somebody holds or held.")
    static void promise16TheNightOfNowAndThoseBefore() {
        Desk desk = Desk.of(2).passTo(23);
        Check.due("in the hour 23", 0, desk.nights(1));
        desk.pass(1);
        Check.due("in the hour 24", 1, desk.nights(1));
        Check.due("the other one", 0, desk.nights(0));
        desk.passTo(47);
        Check.due("in the hour 47", 0, desk.nights(0));
        desk.pass(1);
        Check.due("in the hour 48", 1, desk.nights(0));
        desk.passTo(1000);
        Check.due("of 41 nights, 0", 20, desk.nights(0));
        Check.due("of 41 nights, 1", 21, desk.nights(1));
    }

    @Says("Returns how many nights somebody holds or held.")
    static void promise16AllNightsAndNone() {
        Desk desk = Desk.of(3).passTo(1000);
        Check.due("of 0", 41, desk.nights(0));
        Check.due("of 1", 0, desk.nights(1));
        Check.due("of 2", 0, desk.nights(2));
    }

    @Says("Returns how many nights somebody holds or held.")
    static void promise16GoesByTheHolder() {
        Desk desk = owing().turnOff(9, 1).passTo(72);
        Check.due("the debtor", 1, desk.nights(0));
        Check.due("who stood in by then, and was owed", 2, desk.nights(2));
        Check.due("who was off", 0, desk.nights(1));
        Check.due("who is planned for no night yet", 0, desk.nights(3));
        desk = Desk.of(2).turnOff(3, 0, 1).passTo(24);
        Check.due("the night of nobody", 0, desk.nights(0) + desk.nights(1));
    }

    @Says("Throws `IndexOutOfBoundsException` as told")
    static void promise16NoSuchPerson() {
        Check.none(Desk::new, desk -> desk.nights(0), desk -> desk.nights(-1));
        Check.none(() -> owing(), desk -> desk.nights(-1), desk -> desk.nights(4),
                desk -> desk.nights(LEAST), desk -> desk.nights(GREATEST));
        Check.none(() -> Desk.of(8), desk -> desk.nights(8));
    }

    // ---- 17: owes

    @Says("Returns how many nights somebody owes another one")
    static void promise17FromNoneToMany() {
        Desk desk = Desk.of(2).turnOff(3, 1).passTo(23).rule("1", 1, 1, 0);
        Check.due("none", 0, desk.owes(1, 0));
        desk.pass(3);
        for (int alarm = 0; alarm < 3; alarm++) {
            desk.answer(alarm, true);
            Check.due("owes", alarm + 1, desk.owes(1, 0));
        }
        Check.due("not the other way", 0, desk.owes(0, 1));
        desk.passTo(48);
        Check.due("one is paid", 2, desk.owes(1, 0));
    }

    @Says("0 for somebody and the same one")
    static void promise17NothingToItself() {
        Desk desk = owing();
        for (int person = 0; person < 4; person++) {
            Check.due("owes itself", 0, desk.owes(person, person));
        }
        // Not even the owner whom its own rule has woken in vain.
        desk = Desk.of(1).passTo(23).rule("1", 0, 1, 0).passTo(24).answerAll(true, 0);
        Check.due("owes itself", 0, desk.owes(0, 0));
    }

    @Says("Throws `IndexOutOfBoundsException` as told, of either")
    static void promise17NoSuchPerson() {
        Check.none(Desk::new, desk -> desk.owes(0, 0));
        Check.none(() -> owing(), desk -> desk.owes(4, 0), desk -> desk.owes(0, 4),
                desk -> desk.owes(-1, 0), desk -> desk.owes(0, -1), desk -> desk.owes(4, 4),
                desk -> desk.owes(-1, -1), desk -> desk.owes(LEAST, 0),
                desk -> desk.owes(0, GREATEST), desk -> desk.owes(GREATEST, 0),
                desk -> desk.owes(0, LEAST));
        Check.none(() -> Desk.of(8), desk -> desk.owes(8, 0), desk -> desk.owes(0, 8));
    }
}
