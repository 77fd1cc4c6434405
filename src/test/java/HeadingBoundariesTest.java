/** The boundaries of promises 1 to 5, a test for each sentence that names one. */
public final class HeadingBoundariesTest extends Boundaries {
    public static void main(String[] args) {
        runAll(HeadingBoundariesTest.class);
    }

    // "Creates a desk without headings, rules and declarations"
    static void promise1_nothingIsThere() {
        CustomsDesk desk = new CustomsDesk();
        for (int what : upTo(12)) {
            due(0, () -> desk.account(what));
        }
        refuses(INDEX, () -> desk.told(0, 0));
        refuses(INDEX, () -> desk.drop(0));
        refuses(INDEX, () -> desk.quotaTold(0, 0));
        refuses(INDEX, () -> desk.declaration(0, 0));
    }

    // "with the first settings": 50, 30 and 600
    static void promise1_theSettingsHaveTheirFirstValues() {
        CustomsDesk desk = new CustomsDesk();
        due(50, () -> desk.set(0, 50));
        due(30, () -> desk.set(1, 30));
        due(600, () -> desk.set(2, 600));
    }

    // "There is a present day, at first 0"
    static void promise1_theDayIsZero() {
        CustomsDesk desk = taxed(100);
        due(0, () -> desk.account(10));
        desk.suspend(0, 0, 0);
        due(0, () -> desk.rateOf(0, 0, 1, 0));
    }

    static void promise1_nothingWasChangedSavedRefusedOrRead() {
        CustomsDesk desk = new CustomsDesk();
        due(0, desk::changes);
        refuses(STATE, desk::undo);
        refuses(STATE, desk::restore);
        refuses(NO_ELEMENT, desk::refusal);
        refuses(NO_ELEMENT, desk::errorPosition);
        due(1, () -> desk.append('1'));
    }

    static void promise1_eachDeskIsItsOwn() {
        CustomsDesk worked = worked();
        CustomsDesk desk = new CustomsDesk();
        due(2, () -> worked.account(11));
        due(0, () -> desk.account(0));
        due(0, desk::changes);
        due(50, () -> desk.set(0, 30));
        due(50, () -> worked.set(0, 30));
        due(1, () -> desk.append('1'));
    }

    // "numbered from 0 in the order in which they were added"
    static void promise2_numbersGoFromZeroInOrder() {
        CustomsDesk desk = new CustomsDesk();
        due(0, () -> desk.heading(-1, 9));
        due(1, () -> desk.heading(-1, 3));
        due(2, () -> desk.heading(0, 7));
        due(3, () -> desk.heading(-1, 1));
    }

    // "There are at most 20 headings"; "if there are 20 headings"
    static void promise2_twentyAreTheMost() {
        CustomsDesk desk = way();
        for (int digit = 2; digit <= 9; digit++) {
            desk.heading(-1, digit);
        }
        for (int made = 12; made < 20; made++) {
            int number = made;
            due(number, () -> desk.heading(4, number - 11));
        }
        due(20, () -> desk.account(0));
        refuses(STATE, () -> desk.heading(4, 9));
        refuses(STATE, () -> desk.heading(5, 1));
        due(20, () -> desk.account(0));
        desk.undo();
        due(19, () -> desk.heading(4, 9));
        refuses(STATE, () -> desk.heading(5, 1));
    }

    // "the parent, or -1 for none"; "if there is no such parent"
    static void promise2_theParentIsAHeadingOrMinusOne() {
        CustomsDesk desk = small();
        for (int parent : outside(-1, 3)) {
            refuses(INDEX, () -> desk.heading(parent, 5));
        }
        due(4, () -> desk.heading(3, 5));
        due(5, () -> desk.heading(-1, 5));
        due(3, () -> desk.told(4, 0));
        due(-1, () -> desk.told(5, 0));
    }

    static void promise2_anEmptyDeskHasNoParent() {
        CustomsDesk desk = new CustomsDesk();
        refuses(INDEX, () -> desk.heading(0, 1));
        due(0, () -> desk.heading(-1, 1));
    }

    // "a digit from 1 to 9"
    static void promise2_digitsGoFromOneToNine() {
        CustomsDesk desk = new CustomsDesk();
        for (int digit : outside(1, 9)) {
            refuses(ARGUMENT, () -> desk.heading(-1, digit));
        }
        due(0, () -> desk.heading(-1, 1));
        due(1, () -> desk.heading(-1, 9));
        for (int digit : outside(1, 9)) {
            refuses(ARGUMENT, () -> desk.heading(1, digit));
        }
        due(2, () -> desk.heading(1, 1));
        due(3, () -> desk.heading(1, 9));
    }

    // "which no other heading with the same parent ... has"
    static void promise2_aDigitIsTakenBelowTheSameParent() {
        CustomsDesk desk = small();
        refuses(ARGUMENT, () -> desk.heading(0, 1));
        refuses(ARGUMENT, () -> desk.heading(0, 2));
        due(4, () -> desk.heading(0, 3));
        refuses(ARGUMENT, () -> desk.heading(0, 3));
    }

    // "or of those without one, has"
    static void promise2_aDigitIsTakenWithoutParent() {
        CustomsDesk desk = small();
        refuses(ARGUMENT, () -> desk.heading(-1, 1));
        refuses(ARGUMENT, () -> desk.heading(-1, 2));
        due(4, () -> desk.heading(-1, 3));
        refuses(ARGUMENT, () -> desk.heading(-1, 3));
    }

    static void promise2_aDigitIsFreeWithAnotherParent() {
        CustomsDesk desk = new CustomsDesk();
        due(0, () -> desk.heading(-1, 5));
        due(1, () -> desk.heading(0, 5));
        due(2, () -> desk.heading(1, 5));
        due(3, () -> desk.heading(-1, 6));
        due(4, () -> desk.heading(3, 5));
        due(5, () -> desk.heading(3, 6));
    }

    static void promise2_aDigitIsFreeAgainWhenItsHeadingIsTakenBack() {
        CustomsDesk desk = small();
        desk.undo();
        due(3, () -> desk.heading(-1, 2));
    }

    // "at most 4 headings on the way from one to the one without a parent, both included"
    static void promise2_fourOnAWayAreTheMost() {
        CustomsDesk desk = way();
        due(4, () -> desk.told(3, 5));
        refuses(STATE, () -> desk.heading(3, 1));
        due(4, () -> desk.heading(2, 1));
        refuses(STATE, () -> desk.heading(4, 1));
        due(5, () -> desk.heading(1, 1));
        due(6, () -> desk.heading(5, 1));
    }

    // "Adds a heading that has no rate of its own"
    static void promise2_itHasNoRateOfItsOwn() {
        CustomsDesk desk = taxed(1000);
        due(4, () -> desk.heading(0, 5));
        due(-1, () -> desk.told(4, 2));
        due(-1, () -> desk.rate(4, 0));
    }

    static void promise2_itHasNoRateOfItsOwnWhereOneWasTakenBack() {
        CustomsDesk desk = small();
        desk.heading(0, 5);
        desk.rate(4, 7);
        desk.undo();
        desk.undo();
        desk.heading(0, 6);
        due(-1, () -> desk.told(4, 2));
    }

    static void promise2_theFirstListedIsThrown() {
        CustomsDesk full = full();
        refuses(INDEX, () -> full.heading(20, 0));
        refuses(INDEX, () -> full.heading(-2, 5));
        refuses(ARGUMENT, () -> full.heading(0, 0));
        refuses(ARGUMENT, () -> full.heading(3, 10));
        refuses(ARGUMENT, () -> full.heading(0, 1));
        CustomsDesk way = way();
        refuses(INDEX, () -> way.heading(4, 10));
        refuses(ARGUMENT, () -> way.heading(3, 0));
    }

    static void promise2_aRefusedCallLeavesAll() {
        leavesAll(INDEX, Boundaries::worked, desk -> desk.heading(4, 5), desk -> desk.heading(-2, 5));
        leavesAll(ARGUMENT, Boundaries::worked, desk -> desk.heading(0, 10), desk -> desk.heading(0, 1));
        leavesAll(STATE, Boundaries::full, desk -> desk.heading(1, 1));
        leavesAll(STATE, Boundaries::way, desk -> desk.heading(3, 1));
    }

    // "Rates are in thousandths, from 0 to 1000"; "the rate, or -1 for none of its own"
    static void promise3_ratesGoFromMinusOneToThousand() {
        CustomsDesk desk = small();
        for (int rate : outside(-1, 1000)) {
            refuses(ARGUMENT, () -> desk.rate(0, rate));
        }
        due(-1, () -> desk.rate(0, 1000));
        due(1000, () -> desk.told(0, 3));
        due(1000, () -> desk.rate(0, 0));
        due(0, () -> desk.told(0, 3));
        due(0, () -> desk.rate(0, -1));
        due(-1, () -> desk.told(0, 2));
    }

    // "Returns the rate of its own before, -1 if it had none"
    static void promise3_withoutRateItWasMinusOne() {
        CustomsDesk desk = taxed(100);
        due(-1, () -> desk.rate(1, 5));
        due(5, () -> desk.rate(1, -1));
        due(-1, () -> desk.rate(1, -1));
    }

    static void promise3_theRateBeforeIsItsOwnNotThatOfItsWay() {
        CustomsDesk desk = taxed(100);
        due(100, () -> desk.told(1, 3));
        due(-1, () -> desk.rate(1, 100));
    }

    // "if there is no such heading"
    static void promise3_theHeadingMustExist() {
        CustomsDesk desk = small();
        for (int heading : outside(0, 3)) {
            refuses(INDEX, () -> desk.rate(heading, 5));
        }
        due(-1, () -> desk.rate(3, 5));
        due(-1, () -> desk.rate(0, 5));
        CustomsDesk none = new CustomsDesk();
        refuses(INDEX, () -> none.rate(0, 5));
    }

    static void promise3_theFirstListedIsThrown() {
        CustomsDesk desk = small();
        refuses(INDEX, () -> desk.rate(4, 1001));
        refuses(INDEX, () -> desk.rate(-1, -2));
    }

    static void promise3_aRefusedCallLeavesAll() {
        leavesAll(INDEX, Boundaries::worked, desk -> desk.rate(4, 5));
        leavesAll(ARGUMENT, Boundaries::worked, desk -> desk.rate(1, 1001), desk -> desk.rate(1, -2));
    }

    // "0 for its parent, -1 without one"
    static void promise4_withoutParentItIsMinusOne() {
        CustomsDesk desk = way();
        due(-1, () -> desk.told(0, 0));
        due(0, () -> desk.told(1, 0));
        due(2, () -> desk.told(3, 0));
    }

    // "2 for the rate of its own, -1 without one"
    static void promise4_withoutRateOfItsOwnItIsMinusOne() {
        CustomsDesk desk = taxed(100);
        due(100, () -> desk.told(0, 2));
        due(-1, () -> desk.told(1, 2));
        desk.rate(1, 0);
        due(0, () -> desk.told(1, 2));
    }

    // "The rate of a heading is that of the first one on this way that has a rate of its own"
    static void promise4_theNearestRateOnTheWayHolds() {
        CustomsDesk desk = way();
        desk.rate(0, 400);
        due(400, () -> desk.told(3, 3));
        desk.rate(1, 500);
        due(500, () -> desk.told(3, 3));
        desk.rate(2, 450);
        due(450, () -> desk.told(3, 3));
        desk.rate(3, 999);
        due(999, () -> desk.told(3, 3));
        due(450, () -> desk.told(2, 3));
        due(500, () -> desk.told(1, 3));
        due(400, () -> desk.told(0, 3));
        desk.rate(3, -1);
        due(450, () -> desk.told(3, 3));
    }

    static void promise4_aRateOfZeroIsARate() {
        CustomsDesk desk = way();
        desk.rate(0, 400);
        desk.rate(2, 0);
        due(0, () -> desk.told(3, 3));
        due(0, () -> desk.told(2, 3));
        due(400, () -> desk.told(1, 3));
    }

    // "0 if none has"
    static void promise4_withoutRateOnTheWayItIsZero() {
        CustomsDesk desk = way();
        due(0, () -> desk.told(3, 3));
        due(0, () -> desk.told(0, 3));
        desk.rate(3, 70);
        due(0, () -> desk.told(2, 3));
    }

    // "1 for its digit", "a digit from 1 to 9"
    static void promise4_theLeastAndTheGreatestDigit() {
        CustomsDesk desk = new CustomsDesk();
        desk.heading(-1, 1);
        desk.heading(-1, 9);
        due(1, () -> desk.told(0, 1));
        due(9, () -> desk.told(1, 1));
    }

    // "4 for the number of headings whose parent it is": "A heading that is no parent is an end"
    static void promise4_anEndIsTheParentOfNone() {
        CustomsDesk desk = way();
        due(0, () -> desk.told(3, 4));
        due(1, () -> desk.told(2, 4));
        due(1, () -> desk.told(0, 4));
        for (int digit : new int[] {1, 3, 4, 5, 6, 7, 8, 9}) {
            desk.heading(0, digit);
        }
        due(9, () -> desk.told(0, 4));
    }

    // "5 for the length of its code; 6 for its code, read as a number"
    static void promise4_codesHaveOneToFourDigits() {
        CustomsDesk desk = way();
        for (int level : upTo(4)) {
            due(level + 1, () -> desk.told(level, 5));
            due(new int[] {1, 12, 123, 1234}[level], () -> desk.told(level, 6));
        }
    }

    static void promise4_theGreatestCode() {
        CustomsDesk desk = new CustomsDesk();
        for (int level : upTo(4)) {
            desk.heading(level - 1, 9);
        }
        due(9999, () -> desk.told(3, 6));
        due(4, () -> desk.told(3, 5));
        due(9, () -> desk.told(0, 6));
    }

    // "if what is not from 0 to 6"
    static void promise4_whatGoesFromZeroToSix() {
        CustomsDesk desk = small();
        for (int what : outside(0, 6)) {
            refuses(ARGUMENT, () -> desk.told(1, what));
        }
        due(0, () -> desk.told(1, 0));
        due(11, () -> desk.told(1, 6));
    }

    static void promise4_theHeadingMustExist() {
        CustomsDesk desk = small();
        for (int heading : outside(0, 3)) {
            refuses(INDEX, () -> desk.told(heading, 1));
        }
        due(1, () -> desk.told(0, 1));
        due(2, () -> desk.told(3, 1));
    }

    static void promise4_theFirstListedIsThrown() {
        CustomsDesk desk = small();
        refuses(INDEX, () -> desk.told(4, 7));
        refuses(INDEX, () -> desk.told(-1, -1));
    }

    static void promise4_aRefusedCallLeavesAll() {
        leavesAll(INDEX, Boundaries::worked, desk -> desk.told(4, 0));
        leavesAll(ARGUMENT, Boundaries::worked, desk -> desk.told(0, 7));
    }

    static void promise5_theShortestAndTheLongestCode() {
        CustomsDesk desk = way();
        due(0, () -> desk.find(1));
        due(1, () -> desk.find(12));
        due(2, () -> desk.find(123));
        due(3, () -> desk.find(1234));
    }

    static void promise5_theFirstAndTheLastOfTwenty() {
        CustomsDesk desk = full();
        due(0, () -> desk.find(1));
        due(9, () -> desk.told(19, 1));
        due(19, () -> desk.find(19));
        due(18, () -> desk.find(9));
    }

    // "Throws NoSuchElementException if there is none"
    static void promise5_noHeadingHasAnotherCode() {
        CustomsDesk desk = way();
        int[] codes = {0, -1, -12, 2, 10, 11, 21, 23, 120, 124, 234, 1230, 1233, 4321, 12341, 12340,
            Integer.MIN_VALUE, Integer.MAX_VALUE};
        for (int code : codes) {
            refuses(NO_ELEMENT, () -> desk.find(code));
        }
    }

    static void promise5_anEmptyDeskHasNoCode() {
        CustomsDesk desk = new CustomsDesk();
        refuses(NO_ELEMENT, () -> desk.find(0));
        refuses(NO_ELEMENT, () -> desk.find(-1));
        refuses(NO_ELEMENT, () -> desk.find(1));
    }

    static void promise5_aHeadingTakenBackIsNotFound() {
        CustomsDesk desk = way();
        desk.undo();
        refuses(NO_ELEMENT, () -> desk.find(1234));
        due(2, () -> desk.find(123));
    }

    static void promise5_aRefusedCallLeavesAll() {
        leavesAll(NO_ELEMENT, Boundaries::worked, desk -> desk.find(3));
    }
}
