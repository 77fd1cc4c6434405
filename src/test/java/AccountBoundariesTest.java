/** The boundaries of promises 26 to 31, a test for each sentence that names one. */
public final class AccountBoundariesTest extends Boundaries {
    public static void main(String[] args) {
        runAll(AccountBoundariesTest.class);
    }

    // "if what is not from 0 to 11"
    static void promise26_whatGoesFromZeroTo11() {
        CustomsDesk desk = worked();
        for (int what : outside(0, 11)) {
            refuses(ARGUMENT, () -> desk.account(what));
        }
        due(4, () -> desk.account(0));
        due(2, () -> desk.account(11));
    }

    static void promise26_whenAllIsFull() {
        CustomsDesk desk = full();
        int[] accounts = {20, 10, 6, 6, 30, 10, 19, 1};
        for (int what : upTo(8)) {
            due(accounts[what], () -> desk.account(what));
        }
        due(1, () -> desk.account(10));
        due(4, () -> desk.account(11));
    }

    // "5 for the lodged ones; 6 for the settled ones; 7 for the refunded ones"
    static void promise26_eachDeclarationIsLodgedSettledOrRefunded() {
        CustomsDesk desk = taxed(100);
        claims(desk, 1, 1, -1);
        claims(desk, 1, 1, -1);
        statuses(desk, 2, 0, 0);
        desk.pass(1);
        statuses(desk, 0, 2, 0);
        desk.refund(0);
        statuses(desk, 0, 1, 1);
        claims(desk, 1, 1, -1);
        statuses(desk, 1, 1, 1);
        desk.refund(1);
        statuses(desk, 1, 0, 2);
    }

    private static void statuses(CustomsDesk desk, int lodged, int settled, int refunded) {
        due(lodged, () -> desk.account(5));
        due(settled, () -> desk.account(6));
        due(refunded, () -> desk.account(7));
        due(lodged + settled + refunded, () -> desk.account(4));
    }

    // "8 for the duties that were found at the ends of days; 9 for what was given back"
    static void promise26_whatIsGivenBackWasFoundAllTheSame() {
        CustomsDesk desk = taxed(100);
        goods(desk, 1, 0, 1000, 1, 0, -1);
        due(0, () -> desk.account(8));
        desk.pass(1);
        due(100, () -> desk.account(8));
        due(0, () -> desk.account(9));
        desk.refund(0);
        due(100, () -> desk.account(8));
        due(100, () -> desk.account(9));
    }

    static void promise26_theGreatestDuties() {
        CustomsDesk desk = taxed(1000);
        for (int i = 0; i < 30; i++) {
            goods(desk, 1, 7, 39996, 999, 0, -1);
        }
        desk.pass(1);
        due(1199880, () -> desk.account(8));
        due(1199880, () -> desk.kept(7));
        for (int declaration : upTo(30)) {
            due(39996, () -> desk.refund(declaration));
        }
        due(1199880, () -> desk.account(9));
        due(0, () -> desk.kept(7));
    }

    // "10 for the present day", "at first 0, at most 999"
    static void promise26_theFirstAndTheLastDay() {
        CustomsDesk desk = new CustomsDesk();
        due(0, () -> desk.account(10));
        for (int i = 0; i < 10; i++) {
            desk.pass(99);
        }
        desk.pass(9);
        due(999, () -> desk.account(10));
    }

    static void promise26_aRefusedCallLeavesAll() {
        leavesAll(ARGUMENT, Boundaries::worked, desk -> desk.account(12), desk -> desk.account(-1));
    }

    // "if there is no such country": "8 countries, numbered from 0"
    static void promise27_countriesGoFromZeroToSeven() {
        CustomsDesk desk = bothEnds();
        for (int country : outside(0, 7)) {
            refuses(INDEX, () -> desk.kept(country));
        }
        due(100, () -> desk.kept(0));
        due(200, () -> desk.kept(7));
    }

    static void promise27_withoutDeclarationsNothingIsKept() {
        CustomsDesk desk = bothEnds();
        for (int country = 1; country < 7; country++) {
            int other = country;
            due(0, () -> desk.kept(other));
        }
    }

    // "as it is counted when days end"
    static void promise27_nothingIsKeptOfALodgedOne() {
        CustomsDesk desk = taxed(100);
        goods(desk, 1, 3, 1000, 1, 0, -1);
        due(0, () -> desk.kept(3));
        desk.pass(1);
        due(100, () -> desk.kept(3));
    }

    // "what was found at the end of their day less what was given back"
    static void promise27_whatIsGivenBackIsNotKept() {
        CustomsDesk desk = taxed(100);
        desk.prefer(0, 3, 60, 1);
        goods(desk, 1, 3, 1000, 1, 0, -1);
        goods(desk, 1, 3, 1000, 1, 0, -1);
        desk.pass(1);
        due(200, () -> desk.kept(3));
        desk.prove(0, 1);
        due(160, () -> desk.kept(3));
        desk.refund(0);
        due(100, () -> desk.kept(3));
        desk.refund(1);
        due(0, () -> desk.kept(3));
    }

    static void promise27_aRefusedCallLeavesAll() {
        leavesAll(INDEX, Boundaries::worked, desk -> desk.kept(8), desk -> desk.kept(-1));
    }

    static void promise28_countriesGoFromZeroToSeven() {
        CustomsDesk desk = bothEnds();
        for (int country : outside(0, 7)) {
            refuses(INDEX, () -> desk.keptAgain(country));
        }
        due(100, () -> desk.keptAgain(0));
        due(200, () -> desk.keptAgain(7));
        due(0, () -> desk.keptAgain(1));
    }

    static void promise28_nothingIsKeptOfALodgedOrRefundedOne() {
        CustomsDesk desk = taxed(100);
        goods(desk, 1, 3, 1000, 1, 0, -1);
        due(0, () -> desk.keptAgain(3));
        desk.pass(1);
        due(100, () -> desk.keptAgain(3));
        desk.refund(0);
        due(0, () -> desk.keptAgain(3));
    }

    // "from both parts of their duties"
    static void promise28_bothPartsAreKept() {
        CustomsDesk desk = taxed(100);
        desk.quota(0, -1, 5, 10, 0);
        goods(desk, 1, 3, 1000, 10, 0, 0);
        desk.pass(1);
        due(55, () -> desk.keptAgain(3));
        desk.prefer(0, 3, 60, 1);
        desk.prove(0, 1);
        due(35, () -> desk.keptAgain(3));
    }

    // "Returns the same as kept"
    static void promise28_itIsTheSameAsKeptAtEachStep() {
        CustomsDesk desk = taxed(100);
        desk.quota(0, -1, 7, 10, 1);
        desk.prefer(0, 2, 60, 1);
        for (int made : upTo(6)) {
            goods(desk, 1, made % 3, 999 + made, 3, 0, made % 2 - 1);
        }
        same(desk);
        desk.pass(1);
        same(desk);
        desk.prove(2, 1);
        same(desk);
        desk.refund(1);
        same(desk);
        desk.refund(2);
        same(desk);
        desk.undo();
        same(desk);
    }

    private static void same(CustomsDesk desk) {
        for (int country : upTo(8)) {
            due(desk.kept(country), () -> desk.keptAgain(country));
        }
    }

    static void promise28_aRefusedCallLeavesAll() {
        leavesAll(INDEX, Boundaries::worked, desk -> desk.keptAgain(8), desk -> desk.keptAgain(-1));
    }

    static void promise29_theHeadingMustExist() {
        CustomsDesk desk = bothEnds();
        for (int heading : outside(0, 3)) {
            refuses(INDEX, () -> desk.keptUnder(heading));
        }
        due(300, () -> desk.keptUnder(0));
        due(0, () -> desk.keptUnder(3));
        CustomsDesk none = new CustomsDesk();
        refuses(INDEX, () -> none.keptUnder(0));
    }

    // "A heading is under each heading on this way, itself included"
    static void promise29_underItselfAndAllAboveIt() {
        CustomsDesk desk = way();
        desk.heading(2, 9);
        desk.rate(0, 100);
        goods(desk, 3, 0, 1000, 1, 0, -1);
        desk.pass(1);
        for (int level : upTo(4)) {
            due(100, () -> desk.keptUnder(level));
        }
        due(0, () -> desk.keptUnder(4));
    }

    static void promise29_aHeadingAddedBelowHasNothing() {
        CustomsDesk desk = bothEnds();
        desk.heading(1, 1);
        due(100, () -> desk.keptUnder(1));
        due(0, () -> desk.keptUnder(4));
    }

    static void promise29_nothingIsKeptOfALodgedOrRefundedOne() {
        CustomsDesk desk = taxed(100);
        goods(desk, 1, 3, 1000, 1, 0, -1);
        due(0, () -> desk.keptUnder(0));
        desk.pass(1);
        due(100, () -> desk.keptUnder(0));
        desk.refund(0);
        due(0, () -> desk.keptUnder(0));
    }

    static void promise29_aRefusedCallLeavesAll() {
        leavesAll(INDEX, Boundaries::worked, desk -> desk.keptUnder(4), desk -> desk.keptUnder(-1));
    }

    /** 100 are kept for country 0 under heading 1, and 200 for country 7 under heading 2. */
    private static CustomsDesk bothEnds() {
        CustomsDesk desk = taxed(100);
        goods(desk, 1, 0, 1000, 1, 0, -1);
        goods(desk, 2, 7, 2000, 1, 0, -1);
        desk.pass(1);
        return desk;
    }

    // "Throws ArithmeticException if account 8 is 0"
    static void promise30_withoutDutiesThereIsNoShare() {
        CustomsDesk desk = small();
        refuses(ARITHMETIC, desk::givenBack);
        goods(desk, 1, 0, 1000, 1, 0, -1);
        refuses(ARITHMETIC, desk::givenBack);
        desk.pass(1);
        refuses(ARITHMETIC, desk::givenBack);
        desk.refund(0);
        refuses(ARITHMETIC, desk::givenBack);
    }

    static void promise30_aDutyOfOneCentIsEnough() {
        CustomsDesk desk = taxed(1);
        goods(desk, 1, 0, 1000, 1, 0, -1);
        desk.pass(1);
        due(0.0, desk::givenBack);
        desk.refund(0);
        due(1.0, desk::givenBack);
    }

    // "account 9, as a double, divided by account 8, as a double"
    static void promise30_theQuotientIsADouble() {
        CustomsDesk desk = taxed(1);
        goods(desk, 1, 0, 1000, 1, 0, -1);
        goods(desk, 1, 0, 2000, 1, 0, -1);
        desk.pass(1);
        desk.refund(0);
        due(1.0 / 3.0, desk::givenBack);
    }

    static void promise30_aRefusedCallLeavesAll() {
        leavesAll(ARITHMETIC, AccountBoundariesTest::withoutDuties, CustomsDesk::givenBack);
    }

    // "Throws ArithmeticException if there are no such declarations"
    static void promise31_withoutSettledOnesThereIsNoMeanRate() {
        CustomsDesk desk = taxed(100);
        refuses(ARITHMETIC, desk::meanRate);
        goods(desk, 1, 0, 1000, 1, 0, -1);
        refuses(ARITHMETIC, desk::meanRate);
        desk.pass(1);
        due(0.1f, desk::meanRate);
        desk.undo();
        refuses(ARITHMETIC, desk::meanRate);
    }

    // "the values of all settled and refunded declarations"
    static void promise31_refundedOnesAreEnough() {
        CustomsDesk desk = taxed(100);
        goods(desk, 1, 0, 1000, 1, 0, -1);
        goods(desk, 1, 0, 1000, 1, 0, -1);
        desk.pass(1);
        desk.refund(0);
        due(0.05f, desk::meanRate);
        desk.refund(1);
        due(0.0f, desk::meanRate);
    }

    static void promise31_lodgedOnesDoNotCount() {
        CustomsDesk desk = taxed(100);
        goods(desk, 1, 0, 1000, 1, 0, -1);
        desk.pass(1);
        goods(desk, 1, 0, 1000, 1, 0, -1);
        due(0.1f, desk::meanRate);
    }

    static void promise31_aRateOfZeroIsAMeanRate() {
        CustomsDesk desk = small();
        goods(desk, 1, 0, 1, 1, 0, -1);
        desk.pass(1);
        due(0.0f, desk::meanRate);
    }

    static void promise31_theGreatestMeanRateIsOne() {
        CustomsDesk desk = taxed(1000);
        goods(desk, 1, 0, 39996, 1, 0, -1);
        desk.pass(1);
        due(1.0f, desk::meanRate);
    }

    // "as a float, divided by ..., as a float"
    static void promise31_theQuotientIsAFloat() {
        CustomsDesk desk = taxed(334);
        goods(desk, 1, 0, 3, 1, 0, -1);
        desk.pass(1);
        due(1.0f / 3.0f, desk::meanRate);
    }

    static void promise31_aRefusedCallLeavesAll() {
        leavesAll(ARITHMETIC, AccountBoundariesTest::withoutDuties, CustomsDesk::meanRate);
    }

    private static CustomsDesk withoutDuties() {
        CustomsDesk desk = taxed(100);
        desk.prefer(0, 0, 10, 2);
        goods(desk, 1, 0, 1000, 1, 0, -1);
        desk.save();
        desk.part(0, 5);
        Check.write(desk, "11");
        return desk;
    }
}
