/** The boundaries of promises 22 to 25, a test for each sentence that names one. */
public final class DayBoundariesTest extends Boundaries {
    public static void main(String[] args) {
        runAll(DayBoundariesTest.class);
    }

    // "the number of days, 1 to 99"
    static void promise22_oneTo99DaysPass() {
        CustomsDesk desk = small();
        for (int days : outside(1, 99)) {
            refuses(ARGUMENT, () -> desk.pass(days));
        }
        due(0, () -> desk.pass(1));
        due(1, () -> desk.account(10));
        due(0, () -> desk.pass(99));
        due(100, () -> desk.account(10));
    }

    // "a present day, at first 0, at most 999"; "if the present day would be greater than 999"
    static void promise22_theLastDayOfAllIs999() {
        CustomsDesk desk = onDay(990);
        refuses(STATE, () -> desk.pass(10));
        refuses(STATE, () -> desk.pass(99));
        due(990, () -> desk.account(10));
        due(0, () -> desk.pass(9));
        due(999, () -> desk.account(10));
    }

    static void promise22_theLastDayOfAllDoesNotEnd() {
        CustomsDesk desk = onDay(999);
        claims(desk, 1, 1, -1);
        refuses(STATE, () -> desk.pass(1));
        refuses(STATE, () -> desk.pass(99));
        due(0, () -> desk.declaration(0, 7));
        due(999, () -> desk.account(10));
    }

    static void promise22_theDayBeforeTheLastEnds() {
        CustomsDesk desk = onDay(998);
        claims(desk, 1, 1, -1);
        refuses(STATE, () -> desk.pass(2));
        due(1, () -> desk.pass(1));
        due(998, () -> desk.declaration(0, 6));
    }

    static void promise22_theFirstListedIsThrown() {
        CustomsDesk desk = onDay(999);
        for (int days : outside(1, 99)) {
            refuses(ARGUMENT, () -> desk.pass(days));
        }
    }

    static void promise22_aRefusedCallLeavesAll() {
        leavesAll(ARGUMENT, Boundaries::worked, desk -> desk.pass(0), desk -> desk.pass(100));
        leavesAll(STATE, DayBoundariesTest::workedOnTheLastDay, desk -> desk.pass(1));
    }

    // "Returns the number of declarations that are settled": none, and all that there can be
    static void promise22_noneOrThirtyAreSettled() {
        CustomsDesk desk = small();
        due(0, () -> desk.pass(1));
        for (int i = 0; i < 30; i++) {
            claims(desk, 1, 1, -1);
        }
        due(30, () -> desk.pass(1));
        due(0, () -> desk.pass(1));
    }

    static void promise22_onlyLodgedOnesAreSettled() {
        CustomsDesk desk = taxed(100);
        claims(desk, 1, 1, -1);
        claims(desk, 1, 1, -1);
        desk.pass(1);
        desk.refund(0);
        claims(desk, 1, 1, -1);
        due(1, () -> desk.pass(1));
        due(2, () -> desk.declaration(0, 7));
        due(30, () -> desk.account(8));
    }

    // "are at most what is left, each gets its whole quantity"
    static void promise22_justEnoughIsWholeQuantities() {
        units(10, 1, 4, 5);
        units(10, 0, 4, 6);
    }

    // "Otherwise each gets its quantity times what is left, divided by the sum": "rounded down"
    static void promise22_oneTooManyIsProRata() {
        units(10, new int[] {4, 7}, new int[] {4, 6});
        units(10, new int[] {7, 4}, new int[] {7, 3});
        units(5, new int[] {10}, new int[] {5});
        units(10, new int[] {10, 10}, new int[] {5, 5});
    }

    // "what remains is given to them one unit each, in ascending order, until nothing is left"
    static void promise22_whatRemainsIsGivenInAscendingOrder() {
        units(8, new int[] {3, 3, 3}, new int[] {3, 3, 2});
        units(7, new int[] {3, 3, 3}, new int[] {3, 2, 2});
        units(6, new int[] {3, 3, 3}, new int[] {2, 2, 2});
    }

    static void promise22_oneUnitGoesToTheFirst() {
        units(1, new int[] {1, 1}, new int[] {1, 0});
        units(1, new int[] {1, 999, 999}, new int[] {1, 0, 0});
        units(2, new int[] {1, 999, 999}, new int[] {1, 1, 0});
        units(1, new int[] {999}, new int[] {1});
    }

    static void promise22_whatRemainsGoesToGoodClaimsOnly() {
        CustomsDesk desk = taxed(100);
        desk.quota(0, -1, 5, 50, 9);
        desk.quota(0, -1, 99, 50, 9);
        claims(desk, 3, 3, 0);
        claims(desk, 1, 3, -1);
        claims(desk, 1, 3, 0);
        claims(desk, 2, 3, 1);
        claims(desk, 2, 3, 0);
        desk.pass(1);
        int[] got = {0, 0, 3, 3, 2};
        for (int declaration : upTo(5)) {
            due(got[declaration], () -> desk.declaration(declaration, 8));
        }
        due(0, () -> desk.quotaTold(0, 6));
        due(96, () -> desk.quotaTold(1, 6));
    }

    static void promise22_thirtyClaimsOnTheGreatestQuota() {
        CustomsDesk desk = taxed(100);
        desk.quota(0, -1, 9999, 50, 9);
        for (int i = 0; i < 30; i++) {
            claims(desk, 1, 999, 0);
        }
        desk.pass(1);
        for (int declaration : upTo(30)) {
            due(declaration < 9 ? 334 : 333, () -> desk.declaration(declaration, 8));
        }
        due(0, () -> desk.quotaTold(0, 6));
        due(9999, () -> desk.quotaTold(0, 7));
    }

    // "What they get is left no more"
    static void promise22_whatTheyGetIsLeftNoMore() {
        CustomsDesk desk = taxed(100);
        desk.quota(0, -1, 10, 50, 9);
        claims(desk, 1, 4, 0);
        desk.pass(1);
        due(6, () -> desk.quotaTold(0, 6));
        claims(desk, 1, 7, 0);
        desk.pass(1);
        due(6, () -> desk.declaration(1, 8));
        due(0, () -> desk.quotaTold(0, 6));
    }

    // "5, no unit is left as the claims on this quota begin to be looked at"
    static void promise22_theLastUnitDoesNotMakeTheNextClaimBad() {
        CustomsDesk desk = taxed(100);
        desk.quota(0, -1, 1, 50, 9);
        claims(desk, 1, 1, 0);
        claims(desk, 1, 1, 0);
        desk.pass(1);
        due(0, () -> desk.declaration(0, 14));
        due(0, () -> desk.declaration(1, 14));
        due(0, () -> desk.declaration(1, 8));
        claims(desk, 1, 1, 0);
        desk.pass(1);
        due(5, () -> desk.declaration(2, 14));
        due(0, () -> desk.declaration(2, 8));
    }

    // "the value times the units that it got, divided by its quantity, is the value in the quota": rounded down
    static void promise22_theValueInTheQuotaIsRoundedDown() {
        CustomsDesk desk = taxed(1000);
        desk.quota(0, -1, 2, 500, 0);
        goods(desk, 1, 0, 10, 3, 0, 0);
        desk.pass(1);
        due(3, () -> desk.declaration(0, 9));
        due(4, () -> desk.declaration(0, 10));
    }

    // "that times the rate of the quota, divided by 1000, is the first part": rounded down
    static void promise22_theFirstPartIsRoundedDown() {
        due(0, () -> firstPart(1, 999));
        due(0, () -> firstPart(999, 1));
        due(1, () -> firstPart(1000, 1));
        due(1, () -> firstPart(1001, 1));
        due(1998, () -> firstPart(2000, 999));
        due(0, () -> firstPart(39996, 0));
    }

    // "the value less the value in the quota, times the rate of the goods, divided by 1000": rounded down
    static void promise22_theSecondPartIsRoundedDown() {
        due(0, () -> secondPart(1, 999));
        due(1, () -> secondPart(1, 1000));
        due(0, () -> secondPart(999, 1));
        due(1, () -> secondPart(1000, 1));
        due(1, () -> secondPart(1999, 1));
    }

    // "Rates are in thousandths, from 0 to 1000"
    static void promise22_theLeastAndTheGreatestRate() {
        due(39996, () -> secondPart(39996, 1000));
        due(39956, () -> secondPart(39996, 999));
        due(0, () -> secondPart(39996, 0));
    }

    static void promise22_allInTheQuotaLeavesNoSecondPart() {
        CustomsDesk desk = taxed(1000);
        desk.quota(0, -1, 999, 0, 0);
        goods(desk, 1, 0, 39996, 999, 0, 0);
        desk.pass(1);
        due(999, () -> desk.declaration(0, 8));
        due(0, () -> desk.declaration(0, 9));
        due(0, () -> desk.declaration(0, 10));
        due(1000, () -> desk.declaration(0, 12));
    }

    static void promise22_allButOneUnitOfTheGreatestGoods() {
        CustomsDesk desk = taxed(1000);
        desk.quota(0, -1, 998, 999, 0);
        goods(desk, 1, 0, 39996, 999, 0, 0);
        desk.pass(1);
        due(39915, () -> desk.declaration(0, 9));
        due(41, () -> desk.declaration(0, 10));
    }

    static void promise22_withoutUnitsThereIsNoFirstPart() {
        CustomsDesk desk = taxed(100);
        desk.quota(3, -1, 10, 50, 9);
        goods(desk, 1, 0, 1000, 10, 0, 0);
        goods(desk, 1, 0, 1000, 10, 0, -1);
        desk.pass(1);
        due(0, () -> desk.declaration(0, 9));
        due(100, () -> desk.declaration(0, 10));
        due(0, () -> desk.declaration(1, 9));
        due(100, () -> desk.declaration(1, 10));
        due(10, () -> desk.quotaTold(0, 6));
    }

    // "The rates of lodged declarations, and whether their claims are good, are found by what there is when their day
    // ends"
    static void promise22_theRateIsThatOfTheEndOfTheDay() {
        CustomsDesk desk = taxed(100);
        goods(desk, 1, 0, 1000, 10, 0, -1);
        goods(desk, 2, 0, 600, 10, 2, -1);
        desk.rate(0, 200);
        desk.prefer(2, 0, 20, 2);
        desk.pass(1);
        due(200, () -> desk.declaration(0, 10));
        due(20, () -> desk.declaration(1, 12));
    }

    static void promise22_theLimitIsThatOfTheEndOfTheDay() {
        CustomsDesk desk = taxed(100);
        desk.prefer(0, 0, 20, 2);
        goods(desk, 1, 0, 600, 10, 2, -1);
        desk.set(2, 599);
        desk.pass(1);
        due(100, () -> desk.declaration(0, 12));
    }

    static void promise22_theClaimIsGoodOrNotAtTheEndOfTheDay() {
        CustomsDesk desk = taxed(100);
        desk.quota(0, -1, 10, 50, 9);
        claims(desk, 1, 5, 0);
        claims(desk, 2, 5, 0);
        desk.rate(1, 50);
        desk.pass(1);
        due(4, () -> desk.declaration(0, 14));
        due(0, () -> desk.declaration(1, 14));
        due(5, () -> desk.quotaTold(0, 6));
    }

    // the day that ends is the day of the declaration, however many days pass
    static void promise22_aSuspensionFromTheNextDayOnDoesNotHold() {
        CustomsDesk desk = taxed(100);
        desk.suspend(0, 1, 999);
        goods(desk, 1, 0, 1000, 1, 0, -1);
        desk.pass(99);
        due(100, () -> desk.declaration(0, 10));
    }

    static void promise22_aSuspensionOfTheDayThatEndsHolds() {
        CustomsDesk desk = taxed(100);
        desk.suspend(0, 0, 0);
        goods(desk, 1, 0, 1000, 1, 0, -1);
        desk.pass(99);
        due(0, () -> desk.declaration(0, 10));
        due(2, () -> desk.declaration(0, 13));
    }

    static void promise22_aQuotaOnItsLastDayIsServed() {
        CustomsDesk desk = taxed(100);
        desk.quota(0, -1, 10, 50, 0);
        claims(desk, 1, 4, 0);
        desk.pass(99);
        due(4, () -> desk.declaration(0, 8));
        claims(desk, 1, 4, 0);
        desk.pass(1);
        due(3, () -> desk.declaration(1, 14));
        due(6, () -> desk.quotaTold(0, 6));
    }

    // "for each quota in ascending order": all six of them
    static void promise22_eachOfSixQuotasIsServed() {
        CustomsDesk desk = taxed(100);
        for (int made : upTo(6)) {
            desk.quota(0, -1, 1 + made, 50, 0);
            claims(desk, 1, 3, made);
        }
        desk.pass(1);
        for (int quota : upTo(6)) {
            due(Math.min(3, 1 + quota), () -> desk.declaration(quota, 8));
            due(Math.max(0, quota - 2), () -> desk.quotaTold(quota, 6));
        }
    }

    // "that times the rate of the quota": of the one that is claimed, whatever the day
    static void promise22_theFirstPartIsByTheQuotaThatIsClaimed() {
        CustomsDesk desk = taxed(1000);
        desk.pass(2);
        for (int made : upTo(6)) {
            desk.quota(0, -1, 5, 10 + made, 9);
        }
        for (int made : upTo(6)) {
            goods(desk, 1, 0, 1000, 1, 0, 5 - made);
        }
        desk.pass(1);
        for (int declaration : upTo(6)) {
            due(15 - declaration, () -> desk.declaration(declaration, 9));
        }
    }

    private static CustomsDesk onDay(int day) {
        CustomsDesk desk = small();
        int rest = day;
        while (rest > 0) {
            int days = Math.min(99, rest);
            desk.pass(days);
            rest -= days;
        }
        return desk;
    }

    private static CustomsDesk workedOnTheLastDay() {
        CustomsDesk desk = plain();
        for (int i = 0; i < 10; i++) {
            desk.pass(99);
        }
        desk.pass(7);
        claims(desk, 1, 1, 0);
        desk.part(2, 5);
        Check.write(desk, "11");
        return desk;
    }

    private static void units(int units, int left, int... quantities) {
        CustomsDesk desk = served(units, quantities);
        for (int at : upTo(quantities.length)) {
            due(quantities[at], () -> desk.declaration(at, 8));
        }
        due(left, () -> desk.quotaTold(0, 6));
    }

    private static void units(int units, int[] quantities, int[] got) {
        CustomsDesk desk = served(units, quantities);
        for (int at : upTo(quantities.length)) {
            due(got[at], () -> desk.declaration(at, 8));
        }
        due(0, () -> desk.quotaTold(0, 6));
    }

    private static CustomsDesk served(int units, int... quantities) {
        CustomsDesk desk = taxed(100);
        desk.quota(0, -1, units, 50, 9);
        for (int quantity : quantities) {
            claims(desk, 1, quantity, 0);
        }
        desk.pass(1);
        return desk;
    }

    private static int firstPart(int value, int rate) {
        CustomsDesk desk = taxed(1000);
        desk.quota(0, -1, 1, rate, 0);
        goods(desk, 1, 0, value, 1, 0, 0);
        desk.pass(1);
        return desk.declaration(0, 9);
    }

    private static int secondPart(int value, int rate) {
        CustomsDesk desk = taxed(rate);
        goods(desk, 1, 0, value, 1, 0, -1);
        desk.pass(1);
        return desk.declaration(0, 10);
    }

    // "A settled declaration can be refunded"; "1, the declaration is lodged"
    static void promise23_aLodgedOneIsRefused() {
        CustomsDesk desk = taxed(100);
        goods(desk, 1, 0, 1000, 1, 0, -1);
        refuses(UNSUPPORTED, () -> desk.refund(0));
        due(1, desk::refusal);
        desk.pass(1);
        due(100, () -> desk.refund(0));
    }

    // "2, it was refunded"
    static void promise23_aRefundedOneIsRefused() {
        CustomsDesk desk = taxed(100);
        goods(desk, 1, 0, 1000, 1, 0, -1);
        desk.pass(1);
        desk.refund(0);
        refuses(UNSUPPORTED, () -> desk.refund(0));
        due(2, desk::refusal);
        desk.undo();
        due(100, () -> desk.refund(0));
    }

    // "3, more days than the time for refunds have gone by since its day"
    static void promise23_onTheLastDayForItItIsNotTooLate() {
        CustomsDesk desk = taxed(100);
        desk.pass(5);
        goods(desk, 1, 0, 1000, 1, 0, -1);
        goods(desk, 1, 0, 1000, 1, 0, -1);
        desk.pass(30);
        due(100, () -> desk.refund(0));
        desk.pass(1);
        refuses(UNSUPPORTED, () -> desk.refund(1));
        due(3, desk::refusal);
    }

    static void promise23_theTimeIsThatOfNow() {
        CustomsDesk desk = taxed(100);
        goods(desk, 1, 0, 1000, 1, 0, -1);
        desk.pass(31);
        refuses(UNSUPPORTED, () -> desk.refund(0));
        desk.set(1, 31);
        due(100, () -> desk.refund(0));
    }

    static void promise23_aTimeOfZeroDaysIsOverAtOnce() {
        CustomsDesk desk = taxed(100);
        desk.set(1, 0);
        goods(desk, 1, 0, 1000, 1, 0, -1);
        desk.pass(1);
        refuses(UNSUPPORTED, () -> desk.refund(0));
        due(3, desk::refusal);
        desk.set(1, 1);
        due(100, () -> desk.refund(0));
    }

    static void promise23_theGreatestTimeIs99Days() {
        CustomsDesk desk = taxed(100);
        desk.set(1, 99);
        goods(desk, 1, 0, 1000, 1, 0, -1);
        goods(desk, 1, 0, 1000, 1, 0, -1);
        desk.pass(99);
        due(100, () -> desk.refund(0));
        desk.pass(1);
        refuses(UNSUPPORTED, () -> desk.refund(1));
    }

    // "for the first of these reasons that applies"
    static void promise23_refundedComesBeforeTooLate() {
        CustomsDesk desk = taxed(100);
        goods(desk, 1, 0, 1000, 1, 0, -1);
        desk.pass(1);
        desk.refund(0);
        desk.pass(99);
        refuses(UNSUPPORTED, () -> desk.refund(0));
        due(2, desk::refusal);
    }

    static void promise23_theTimeIsCountedFromItsOwnDay() {
        CustomsDesk desk = onDay(900);
        desk.rate(0, 100);
        goods(desk, 1, 0, 1000, 1, 0, -1);
        desk.pass(30);
        due(100, () -> desk.refund(0));
    }

    // "all of its duty that has not been given back is given back"
    static void promise23_whatWasGivenBackIsNotGivenAgain() {
        CustomsDesk desk = taxed(100);
        desk.prefer(0, 0, 60, 1);
        goods(desk, 1, 0, 1000, 1, 0, -1);
        desk.pass(1);
        desk.prove(0, 1);
        due(60, () -> desk.refund(0));
        due(100, () -> desk.declaration(0, 11));
        due(100, () -> desk.account(9));
    }

    static void promise23_bothPartsAreGivenBack() {
        CustomsDesk desk = taxed(100);
        desk.quota(0, -1, 5, 10, 0);
        goods(desk, 1, 0, 1000, 10, 0, 0);
        desk.pass(1);
        due(55, () -> desk.refund(0));
    }

    static void promise23_aDutyOfZeroGivesNothingBack() {
        CustomsDesk desk = small();
        goods(desk, 1, 0, 1000, 1, 0, -1);
        desk.pass(1);
        due(0, () -> desk.refund(0));
        due(2, () -> desk.declaration(0, 7));
        refuses(UNSUPPORTED, () -> desk.refund(0));
    }

    // "left in the quota again if the present day is not behind its last day; otherwise they are lost"
    static void promise23_onTheLastDayOfTheQuotaUnitsAreLeftAgain() {
        CustomsDesk desk = taxed(100);
        desk.quota(0, -1, 10, 50, 3);
        claims(desk, 1, 4, 0);
        desk.pass(3);
        desk.refund(0);
        due(10, () -> desk.quotaTold(0, 6));
        due(0, () -> desk.quotaTold(0, 8));
    }

    static void promise23_behindTheLastDayOfTheQuotaUnitsAreLost() {
        CustomsDesk desk = taxed(100);
        desk.quota(0, -1, 10, 50, 3);
        claims(desk, 1, 4, 0);
        desk.pass(4);
        desk.refund(0);
        due(6, () -> desk.quotaTold(0, 6));
        due(4, () -> desk.quotaTold(0, 8));
        due(0, () -> desk.quotaTold(0, 7));
    }

    static void promise23_unitsGoBackToTheQuotaThatWasClaimed() {
        CustomsDesk desk = taxed(100);
        desk.pass(2);
        for (int made : upTo(6)) {
            desk.quota(0, -1, 10, 50, made < 3 ? 3 : 4);
        }
        for (int made : upTo(6)) {
            claims(desk, 1, 1 + made, 5 - made);
        }
        desk.pass(2);
        for (int declaration : upTo(6)) {
            desk.refund(declaration);
        }
        for (int quota : upTo(6)) {
            due(quota < 3 ? 4 + quota : 10, () -> desk.quotaTold(quota, 6));
            due(0, () -> desk.quotaTold(quota, 7));
            due(quota < 3 ? 6 - quota : 0, () -> desk.quotaTold(quota, 8));
        }
    }

    static void promise23_unitsThatAreLeftAgainCanBeGot() {
        CustomsDesk desk = taxed(100);
        desk.quota(0, -1, 4, 50, 9);
        claims(desk, 1, 4, 0);
        desk.pass(1);
        due(0, () -> desk.quotaTold(0, 6));
        desk.refund(0);
        claims(desk, 1, 9, 0);
        desk.pass(1);
        due(4, () -> desk.declaration(1, 8));
    }

    static void promise23_withoutUnitsNoQuotaChanges() {
        CustomsDesk desk = taxed(100);
        desk.quota(3, -1, 4, 50, 0);
        desk.quota(0, -1, 4, 50, 0);
        goods(desk, 1, 0, 1000, 9, 0, 0);
        goods(desk, 1, 0, 1000, 9, 0, -1);
        desk.pass(1);
        due(100, () -> desk.refund(0));
        due(100, () -> desk.refund(1));
        for (int quota : upTo(2)) {
            due(4, () -> desk.quotaTold(quota, 6));
            due(0, () -> desk.quotaTold(quota, 8));
        }
    }

    static void promise23_theDeclarationMustExist() {
        CustomsDesk desk = taxed(100);
        refuses(INDEX, () -> desk.refund(0));
        goods(desk, 1, 0, 1000, 1, 0, -1);
        desk.pass(1);
        for (int declaration : outside(0, 0)) {
            refuses(INDEX, () -> desk.refund(declaration));
        }
        refuses(NO_ELEMENT, desk::refusal);
        due(100, () -> desk.refund(0));
    }

    static void promise23_aRefusedCallLeavesAllButTheReason() {
        leavesAll(INDEX, Boundaries::worked, desk -> desk.refund(4), desk -> desk.refund(-1));
        leavesDesk(UNSUPPORTED, Boundaries::plain, desk -> desk.refund(3), desk -> desk.refund(0));
        leavesDesk(UNSUPPORTED, DayBoundariesTest::workedOnTheLastDay, desk -> desk.refund(1));
        CustomsDesk desk = worked();
        refuses(UNSUPPORTED, () -> desk.refund(0));
        due(1, desk::errorPosition);
        due(3, () -> desk.append('1'));
    }

    // "the proof, 1 or 2"
    static void promise24_proofsAreOneOrTwo() {
        CustomsDesk desk = taxed(100);
        goods(desk, 1, 0, 1000, 1, 0, -1);
        desk.pass(1);
        for (int proof : outside(1, 2)) {
            refuses(ARGUMENT, () -> desk.prove(0, proof));
        }
        due(0, () -> desk.prove(0, 1));
        due(1, () -> desk.declaration(0, 4));
        due(0, () -> desk.prove(0, 2));
        due(2, () -> desk.declaration(0, 4));
    }

    // "if it is less than before, the difference is given back"
    static void promise24_oneCentLessIsGivenBack() {
        CustomsDesk desk = provable(1000, 0);
        desk.prefer(0, 0, 99, 1);
        due(1, () -> desk.prove(0, 1));
        due(99, () -> desk.declaration(0, 10));
        due(99, () -> desk.declaration(0, 12));
        due(1, () -> desk.declaration(0, 13));
        due(1, () -> desk.declaration(0, 11));
    }

    // "otherwise nothing is given back, and the rate and the second part stay": an equal one
    static void promise24_anEqualSecondPartLeavesTheRate() {
        CustomsDesk desk = provable(9, 0);
        desk.prefer(0, 0, 50, 1);
        due(0, () -> desk.prove(0, 1));
        due(0, () -> desk.declaration(0, 10));
        due(100, () -> desk.declaration(0, 12));
        due(0, () -> desk.declaration(0, 13));
        due(0, () -> desk.declaration(0, 11));
    }

    // a greater one
    static void promise24_aGreaterSecondPartChangesNothingButTheProof() {
        CustomsDesk desk = provable(1000, 1);
        desk.rate(0, 200);
        due(0, () -> desk.prove(0, 2));
        due(100, () -> desk.declaration(0, 10));
        due(100, () -> desk.declaration(0, 12));
        due(0, () -> desk.declaration(0, 11));
        due(0, () -> desk.account(9));
        due(100, () -> desk.kept(0));
        due(2, () -> desk.declaration(0, 4));
    }

    // "A proof that is given later takes the place of the earlier one also if nothing is given back"
    static void promise24_theProofTakesThePlaceOfTheEarlierOne() {
        CustomsDesk desk = provable(1000, 1);
        due(0, () -> desk.prove(0, 2));
        due(2, () -> desk.declaration(0, 4));
        desk.prefer(0, 0, 50, 1);
        due(0, () -> desk.prove(0, 2));
        due(100, () -> desk.declaration(0, 12));
        due(50, () -> desk.prove(0, 1));
        due(1, () -> desk.declaration(0, 4));
    }

    // "the new one counts from then on"
    static void promise24_theNewSecondPartCountsFromThenOn() {
        CustomsDesk desk = provable(1000, 0);
        desk.prefer(0, 0, 60, 1);
        due(40, () -> desk.prove(0, 1));
        due(0, () -> desk.prove(0, 1));
        desk.rate(0, 70);
        due(0, () -> desk.prove(0, 2));
        due(60, () -> desk.declaration(0, 12));
        desk.rate(0, 50);
        due(10, () -> desk.prove(0, 2));
        due(50, () -> desk.declaration(0, 11));
        due(50, () -> desk.account(9));
    }

    static void promise24_allOfTheSecondPartCanBeGivenBack() {
        CustomsDesk desk = provable(1000, 0);
        desk.prefer(0, 0, 0, 1);
        due(100, () -> desk.prove(0, 1));
        due(0, () -> desk.declaration(0, 10));
        due(0, () -> desk.declaration(0, 12));
        due(0, () -> desk.refund(0));
    }

    // "but the need 2 only if the value of the goods is at most the limit for statements"
    static void promise24_aStatementCountsUpToTheLimit() {
        CustomsDesk desk = taxed(100);
        desk.prefer(0, 0, 50, 2);
        goods(desk, 1, 0, 600, 1, 0, -1);
        goods(desk, 1, 0, 601, 1, 0, -1);
        desk.pass(1);
        due(30, () -> desk.prove(0, 2));
        due(0, () -> desk.prove(1, 2));
        desk.set(2, 601);
        due(30, () -> desk.prove(1, 2));
    }

    // "A certificate meets each need, whatever the value of the goods is"
    static void promise24_aCertificateCountsForEachValue() {
        CustomsDesk desk = taxed(100);
        desk.prefer(0, 0, 50, 2);
        goods(desk, 1, 0, 39996, 1, 0, -1);
        desk.pass(1);
        due(0, () -> desk.prove(0, 2));
        due(2000, () -> desk.prove(0, 1));
    }

    // "is found anew, for the day of the declaration"
    static void promise24_suspensionsCountForTheDayOfTheDeclaration() {
        CustomsDesk desk = provable(1000, 0);
        desk.suspend(0, 1, 999);
        due(0, () -> desk.prove(0, 1));
        due(100, () -> desk.declaration(0, 10));
        desk.suspend(0, 0, 0);
        due(100, () -> desk.prove(0, 1));
        due(2, () -> desk.declaration(0, 13));
    }

    // "by the headings, preferences, suspensions and settings as they are now"
    static void promise24_headingsAndPreferencesCountAsTheyAreNow() {
        CustomsDesk desk = taxed(100);
        desk.prefer(0, 0, 50, 1);
        goods(desk, 1, 0, 1000, 1, 0, -1);
        desk.pass(1);
        desk.drop(0);
        due(0, () -> desk.prove(0, 1));
        desk.rate(1, 90);
        due(10, () -> desk.prove(0, 1));
        due(0, () -> desk.declaration(0, 13));
    }

    // "with the units that were got"; "What was got from the quota stays"
    static void promise24_theUnitsThatWereGotStay() {
        CustomsDesk desk = taxed(100);
        desk.quota(0, -1, 2, 10, 0);
        goods(desk, 1, 0, 1000, 3, 0, 0);
        desk.pass(1);
        due(33, () -> desk.declaration(0, 10));
        desk.prefer(0, 0, 5, 1);
        due(32, () -> desk.prove(0, 1));
        due(1, () -> desk.declaration(0, 10));
        due(6, () -> desk.declaration(0, 9));
        due(2, () -> desk.declaration(0, 8));
        due(0, () -> desk.declaration(0, 14));
        due(2, () -> desk.quotaTold(0, 7));
    }

    static void promise24_allInTheQuotaLeavesNothingToGiveBack() {
        CustomsDesk desk = taxed(100);
        desk.quota(0, -1, 9, 10, 9);
        goods(desk, 1, 0, 1000, 9, 0, 0);
        desk.pass(1);
        desk.prefer(0, 0, 0, 1);
        due(0, () -> desk.prove(0, 1));
        due(10, () -> desk.declaration(0, 9));
        due(100, () -> desk.declaration(0, 12));
    }

    // "Both are refused for the first of these reasons that applies"
    static void promise24_aLodgedOneIsRefused() {
        CustomsDesk desk = taxed(100);
        goods(desk, 1, 0, 1000, 1, 0, -1);
        refuses(UNSUPPORTED, () -> desk.prove(0, 1));
        due(1, desk::refusal);
        due(0, () -> desk.declaration(0, 4));
    }

    static void promise24_aRefundedOneIsRefused() {
        CustomsDesk desk = provable(1000, 0);
        desk.refund(0);
        refuses(UNSUPPORTED, () -> desk.prove(0, 1));
        due(2, desk::refusal);
        due(0, () -> desk.declaration(0, 4));
    }

    static void promise24_refundedComesBeforeTooLate() {
        CustomsDesk desk = provable(1000, 0);
        desk.refund(0);
        desk.pass(99);
        refuses(UNSUPPORTED, () -> desk.prove(0, 1));
        due(2, desk::refusal);
    }

    static void promise24_onTheLastDayForItItIsNotTooLate() {
        CustomsDesk desk = provable(1000, 0);
        desk.prefer(0, 0, 50, 0);
        desk.pass(29);
        due(50, () -> desk.prove(0, 2));
        desk.pass(1);
        refuses(UNSUPPORTED, () -> desk.prove(0, 1));
        due(3, desk::refusal);
        due(2, () -> desk.declaration(0, 4));
    }

    static void promise24_theDeclarationMustExist() {
        CustomsDesk desk = taxed(100);
        refuses(INDEX, () -> desk.prove(0, 1));
        goods(desk, 1, 0, 1000, 1, 0, -1);
        desk.pass(1);
        for (int declaration : outside(0, 0)) {
            refuses(INDEX, () -> desk.prove(declaration, 1));
        }
        refuses(NO_ELEMENT, desk::refusal);
    }

    static void promise24_theFirstListedIsThrown() {
        CustomsDesk desk = taxed(100);
        goods(desk, 1, 0, 1000, 1, 0, -1);
        refuses(INDEX, () -> desk.prove(1, 0));
        refuses(INDEX, () -> desk.prove(-1, 3));
        refuses(ARGUMENT, () -> desk.prove(0, 0));
        refuses(ARGUMENT, () -> desk.prove(0, 3));
        refuses(NO_ELEMENT, desk::refusal);
        desk.pass(1);
        desk.refund(0);
        refuses(ARGUMENT, () -> desk.prove(0, 0));
        refuses(NO_ELEMENT, desk::refusal);
    }

    static void promise24_aRefusedCallLeavesAllButTheReason() {
        leavesAll(INDEX, Boundaries::worked, desk -> desk.prove(4, 1));
        leavesAll(ARGUMENT, Boundaries::worked, desk -> desk.prove(1, 0), desk -> desk.prove(1, 3));
        leavesDesk(UNSUPPORTED, Boundaries::plain, desk -> desk.prove(3, 1), desk -> desk.prove(0, 1));
        leavesDesk(UNSUPPORTED, DayBoundariesTest::workedOnTheLastDay, desk -> desk.prove(1, 1));
        CustomsDesk desk = worked();
        refuses(UNSUPPORTED, () -> desk.prove(0, 1));
        due(1, desk::errorPosition);
        due(3, () -> desk.append('1'));
    }

    /** Declaration 0, at the rate 100 and without a quota, is settled. */
    private static CustomsDesk provable(int value, int proof) {
        CustomsDesk desk = taxed(100);
        goods(desk, 1, 0, value, 1, proof, -1);
        desk.pass(1);
        return desk;
    }

    // "Throws NoSuchElementException if neither was refused"
    static void promise25_beforeARefusalThereIsNoReason() {
        CustomsDesk desk = provable(1000, 0);
        refuses(NO_ELEMENT, desk::refusal);
        refuses(NO_ELEMENT, desk::errorPosition);
        desk.prove(0, 1);
        desk.refund(0);
        refuses(NO_ELEMENT, desk::refusal);
    }

    static void promise25_otherExceptionsAreNoRefusals() {
        CustomsDesk desk = provable(1000, 0);
        refuses(INDEX, () -> desk.refund(1));
        refuses(INDEX, () -> desk.prove(1, 1));
        refuses(ARGUMENT, () -> desk.prove(0, 3));
        refuses(STATE, () -> desk.claim(0));
        refuses(NO_ELEMENT, desk::refusal);
    }

    // "the reason for which refund or prove was refused last", "1 to 3"
    static void promise25_theReasonsGoFromOneToThree() {
        CustomsDesk desk = taxed(100);
        goods(desk, 1, 0, 1000, 1, 0, -1);
        goods(desk, 1, 0, 1000, 1, 0, -1);
        refuses(UNSUPPORTED, () -> desk.refund(0));
        due(1, desk::refusal);
        desk.pass(1);
        desk.refund(0);
        refuses(UNSUPPORTED, () -> desk.prove(0, 1));
        due(2, desk::refusal);
        desk.pass(30);
        refuses(UNSUPPORTED, () -> desk.refund(1));
        due(3, desk::refusal);
        refuses(UNSUPPORTED, () -> desk.prove(0, 1));
        due(2, desk::refusal);
    }

    static void promise25_whatSucceedsLeavesTheReason() {
        CustomsDesk desk = taxed(100);
        goods(desk, 1, 0, 1000, 1, 0, -1);
        refuses(UNSUPPORTED, () -> desk.refund(0));
        desk.pass(1);
        desk.prove(0, 1);
        due(1, desk::refusal);
        desk.refund(0);
        due(1, desk::refusal);
        refuses(INDEX, () -> desk.refund(1));
        due(1, desk::refusal);
    }

    static void promise25_aRefusedCallLeavesAll() {
        leavesAll(NO_ELEMENT, Boundaries::full, CustomsDesk::refusal);
    }
}
