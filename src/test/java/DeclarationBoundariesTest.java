/** The boundaries of promises 15 to 21, a test for each sentence that names one. */
public final class DeclarationBoundariesTest extends Boundaries {
    public static void main(String[] args) {
        runAll(DeclarationBoundariesTest.class);
    }

    // "1 to 4 parts"; "if there are 4 parts"
    static void promise15_fourAreTheMost() {
        CustomsDesk desk = new CustomsDesk();
        for (int number : upTo(4)) {
            due(number + 1, () -> desk.part(number, 5));
        }
        refuses(STATE, () -> desk.part(0, 5));
        due(4, () -> desk.account(11));
        desk.forget();
        due(1, () -> desk.part(0, 5));
    }

    static void promise15_countriesGoFromZeroToSeven() {
        CustomsDesk desk = new CustomsDesk();
        for (int country : outside(0, 7)) {
            refuses(INDEX, () -> desk.part(country, 5));
        }
        due(1, () -> desk.part(7, 5));
        due(7, desk::origin);
        due(2, () -> desk.part(0, 6));
        due(0, desk::origin);
    }

    // "the value, 1 to 9999"
    static void promise15_valuesGoFromOneTo9999() {
        CustomsDesk desk = new CustomsDesk();
        for (int value : outside(1, 9999)) {
            refuses(ARGUMENT, () -> desk.part(0, value));
        }
        due(1, () -> desk.part(0, 1));
        due(2, () -> desk.part(0, 9999));
    }

    static void promise15_aCountryCanHaveSeveralParts() {
        CustomsDesk desk = new CustomsDesk();
        due(1, () -> desk.part(3, 5));
        due(2, () -> desk.part(3, 5));
    }

    static void promise15_theFirstListedIsThrown() {
        CustomsDesk full = full();
        refuses(INDEX, () -> full.part(8, 0));
        refuses(INDEX, () -> full.part(-1, 5));
        refuses(ARGUMENT, () -> full.part(0, 0));
        refuses(ARGUMENT, () -> full.part(0, 10000));
        CustomsDesk desk = new CustomsDesk();
        refuses(INDEX, () -> desk.part(8, 10000));
    }

    static void promise15_aRefusedCallLeavesAll() {
        leavesAll(INDEX, Boundaries::worked, desk -> desk.part(8, 5));
        leavesAll(ARGUMENT, Boundaries::worked, desk -> desk.part(0, 0), desk -> desk.part(0, 10000));
        leavesAll(STATE, Boundaries::full, desk -> desk.part(0, 5));
    }

    // "Returns the number of parts that there were": none
    static void promise16_nothingToForget() {
        CustomsDesk desk = new CustomsDesk();
        due(0, desk::forget);
        due(0, desk::forget);
        due(0, () -> desk.account(11));
    }

    // four at most
    static void promise16_fourAreForgotten() {
        CustomsDesk desk = new CustomsDesk();
        for (int country : upTo(4)) {
            desk.part(country, 5);
        }
        due(4, desk::forget);
        due(0, () -> desk.account(11));
        refuses(NO_ELEMENT, desk::origin);
        due(0, desk::forget);
    }

    static void promise16_forgottenPartsDoNotComeBackWithLaterOnes() {
        CustomsDesk desk = small();
        desk.part(2, 500);
        desk.part(2, 500);
        desk.forget();
        desk.part(5, 3);
        due(5, desk::origin);
        desk.declare(1, 1, 0, -1);
        due(3, () -> desk.declaration(0, 2));
    }

    static void promise16_nothingIsThereAfterDeclare() {
        CustomsDesk desk = small();
        desk.part(2, 500);
        desk.declare(1, 1, 0, -1);
        due(0, desk::forget);
    }

    // "Throws NoSuchElementException if there are no parts"
    static void promise17_withoutPartsThereIsNone() {
        CustomsDesk desk = small();
        refuses(NO_ELEMENT, desk::origin);
        desk.part(3, 1);
        due(3, desk::origin);
        desk.forget();
        refuses(NO_ELEMENT, desk::origin);
        desk.part(0, 1);
        due(0, desk::origin);
        desk.declare(1, 1, 0, -1);
        refuses(NO_ELEMENT, desk::origin);
    }

    // "amount times 100 is at least the threshold times the value of the goods"
    static void promise17_justTheThresholdIsEnough() {
        due(2, () -> originBy(60, 2, 60, 4, 40));
        due(4, () -> originBy(60, 2, 59, 4, 41));
        due(2, () -> originBy(50, 2, 50, 4, 50));
        due(4, () -> originBy(51, 2, 50, 4, 50));
        due(4, () -> originBy(50, 2, 4999, 3, 5000, 4, 2));
        due(3, () -> originBy(50, 2, 4999, 3, 5000, 4, 1));
    }

    static void promise17_theLeastThreshold() {
        due(1, () -> originBy(30, 1, 30, 3, 24, 4, 23, 6, 23));
        due(6, () -> originBy(30, 1, 29, 3, 24, 4, 24, 6, 23));
    }

    static void promise17_theGreatestThresholdWantsAll() {
        due(5, () -> originBy(100, 5, 9999, 5, 1));
        due(1, () -> originBy(100, 5, 9999, 1, 1));
        due(5, () -> originBy(99, 5, 9999, 1, 1));
    }

    // "the origin is the one with the greatest amount"
    static void promise17_theGreatestAmountNotTheLowestCountry() {
        due(6, () -> originBy(30, 0, 49, 6, 51));
        due(6, () -> originBy(30, 6, 51, 0, 49));
    }

    // "of several the lowest one"
    static void promise17_ofEqualAmountsItIsTheLowest() {
        due(3, () -> originBy(50, 6, 10, 3, 10));
        due(2, () -> originBy(30, 6, 10, 4, 10, 2, 10));
        due(0, () -> originBy(50, 7, 10, 0, 10));
    }

    // "if there is none, it is the country of the last part"
    static void promise17_ifThereIsNoneItIsTheLastPart() {
        due(0, () -> originBy(50, 7, 40, 5, 30, 0, 30));
        due(5, () -> originBy(50, 7, 40, 0, 30, 5, 30));
        due(1, () -> originBy(50, 7, 40, 0, 30, 5, 29, 1, 1));
    }

    // "the amount of a country is the sum of those of its parts"
    static void promise17_theAmountIsTheSumOfAllParts() {
        due(7, () -> originBy(50, 7, 20, 0, 39, 7, 20));
        due(1, () -> originBy(51, 7, 20, 1, 39, 7, 20, 1, 9));
        due(4, () -> originBy(100, 4, 9999, 4, 9999, 4, 9999, 4, 9999));
    }

    static void promise17_theLeastValueOfGoods() {
        due(7, () -> originBy(100, 7, 1));
        due(3, () -> originBy(50, 5, 1, 3, 1));
        due(3, () -> originBy(50, 3, 1, 5, 1));
    }

    static void promise17_itGoesByTheThresholdOfNow() {
        CustomsDesk desk = new CustomsDesk();
        desk.part(2, 59);
        desk.part(4, 41);
        due(2, desk::origin);
        desk.set(0, 60);
        due(4, desk::origin);
        desk.set(0, 59);
        due(2, desk::origin);
    }

    static void promise17_aRefusedCallLeavesAll() {
        leavesAll(NO_ELEMENT, DeclarationBoundariesTest::workedWithoutParts, CustomsDesk::origin);
    }

    private static int originBy(int threshold, int... countriesAndValues) {
        CustomsDesk desk = new CustomsDesk();
        desk.set(0, threshold);
        for (int at = 0; at < countriesAndValues.length; at += 2) {
            desk.part(countriesAndValues[at], countriesAndValues[at + 1]);
        }
        return desk.origin();
    }

    private static CustomsDesk workedWithoutParts() {
        CustomsDesk desk = worked();
        desk.forget();
        return desk;
    }

    // "There are at most 30 declarations, numbered from 0"; "or there are 30 declarations"
    static void promise18_thirtyAreTheMost() {
        CustomsDesk desk = small();
        for (int made : upTo(30)) {
            due(made, () -> claims(desk, 1, 1, -1));
        }
        desk.part(0, 5);
        refuses(STATE, () -> desk.declare(1, 1, 0, -1));
        due(30, () -> desk.account(4));
        due(1, () -> desk.account(11));
    }

    static void promise18_settledAndRefundedOnesCount() {
        CustomsDesk desk = small();
        for (int i = 0; i < 30; i++) {
            claims(desk, 1, 1, -1);
        }
        desk.pass(1);
        desk.refund(0);
        desk.part(0, 5);
        refuses(STATE, () -> desk.declare(1, 1, 0, -1));
    }

    static void promise18_whenTheThirtiethIsTakenBackThereIsRoomForOne() {
        CustomsDesk desk = small();
        for (int i = 0; i < 30; i++) {
            claims(desk, 1, 1, -1);
        }
        desk.undo();
        due(29, () -> desk.declare(1, 1, 0, -1));
        desk.part(0, 5);
        refuses(STATE, () -> desk.declare(1, 1, 0, -1));
    }

    static void promise18_theHeadingMustExist() {
        CustomsDesk desk = small();
        desk.part(0, 5);
        for (int heading : outside(0, 3)) {
            refuses(INDEX, () -> desk.declare(heading, 1, 0, -1));
        }
        due(0, () -> desk.declare(3, 1, 0, -1));
        CustomsDesk none = new CustomsDesk();
        none.part(0, 5);
        refuses(INDEX, () -> none.declare(0, 1, 0, -1));
    }

    // "the quota that is claimed, or -1 for none"; "the quota is neither -1 nor a quota"
    static void promise18_theQuotaIsOneOrMinusOne() {
        CustomsDesk desk = small();
        desk.part(0, 5);
        refuses(INDEX, () -> desk.declare(1, 1, 0, 0));
        desk.quota(0, -1, 1, 0, 0);
        desk.quota(0, -1, 1, 0, 0);
        for (int quota : outside(-1, 1)) {
            refuses(INDEX, () -> desk.declare(1, 1, 0, quota));
        }
        due(0, () -> desk.declare(1, 1, 0, -1));
        due(1, () -> claims(desk, 1, 1, 0));
        due(2, () -> claims(desk, 1, 1, 1));
        due(1, () -> desk.declaration(2, 5));
    }

    // "the quantity, 1 to 999"
    static void promise18_quantitiesGoFromOneTo999() {
        CustomsDesk desk = small();
        desk.part(0, 5);
        for (int quantity : outside(1, 999)) {
            refuses(ARGUMENT, () -> desk.declare(1, quantity, 0, -1));
        }
        due(0, () -> desk.declare(1, 1, 0, -1));
        due(1, () -> claims(desk, 1, 999, -1));
        due(999, () -> desk.declaration(1, 1));
    }

    static void promise18_proofsGoFromZeroToTwo() {
        CustomsDesk desk = small();
        desk.part(0, 5);
        for (int proof : outside(0, 2)) {
            refuses(ARGUMENT, () -> desk.declare(1, 1, proof, -1));
        }
        for (int proof : upTo(3)) {
            due(proof, () -> goods(desk, 1, 0, 5, 1, proof, -1));
        }
    }

    // "if the heading is no end"
    static void promise18_theHeadingMustBeAnEnd() {
        CustomsDesk desk = way();
        desk.part(0, 5);
        for (int parent : upTo(3)) {
            refuses(STATE, () -> desk.declare(parent, 1, 0, -1));
        }
        due(0, () -> desk.declare(3, 1, 0, -1));
    }

    // "which is an end when it is made"
    static void promise18_theHeadingNeedNotStayAnEnd() {
        CustomsDesk desk = small();
        claims(desk, 1, 1, -1);
        desk.heading(1, 1);
        due(1, () -> desk.declaration(0, 0));
        desk.part(0, 5);
        refuses(STATE, () -> desk.declare(1, 1, 0, -1));
        due(1, () -> desk.declare(4, 1, 0, -1));
        due(2, () -> desk.pass(1));
    }

    static void promise18_aHeadingIsAnEndAgainWhenTheOneBelowIsTakenBack() {
        CustomsDesk desk = small();
        desk.part(0, 5);
        desk.heading(1, 1);
        refuses(STATE, () -> desk.declare(1, 1, 0, -1));
        desk.undo();
        due(0, () -> desk.declare(1, 1, 0, -1));
    }

    // "there are no parts"; "which are none afterwards"
    static void promise18_thereMustBeParts() {
        CustomsDesk desk = small();
        refuses(STATE, () -> desk.declare(1, 1, 0, -1));
        desk.part(0, 5);
        due(0, () -> desk.declare(1, 1, 0, -1));
        due(0, () -> desk.account(11));
        refuses(STATE, () -> desk.declare(1, 1, 0, -1));
    }

    // "The goods of a declaration have 1 to 4 parts"
    static void promise18_oneAndFourPartsAreDeclared() {
        CustomsDesk desk = small();
        desk.part(0, 1);
        desk.declare(1, 1, 0, -1);
        due(1, () -> desk.declaration(0, 2));
        for (int i = 0; i < 4; i++) {
            desk.part(7, 9999);
        }
        desk.declare(1, 1, 0, -1);
        due(39996, () -> desk.declaration(1, 2));
        due(7, () -> desk.declaration(1, 3));
    }

    // "It is found when the goods are declared, by the threshold as it is then, and stays"
    static void promise18_theOriginIsFoundThenAndStays() {
        CustomsDesk desk = small();
        desk.part(2, 59);
        desk.part(4, 41);
        desk.set(0, 60);
        desk.declare(1, 1, 0, -1);
        desk.set(0, 59);
        due(4, () -> desk.declaration(0, 3));
        desk.pass(1);
        due(4, () -> desk.declaration(0, 3));
        desk.prove(0, 1);
        due(4, () -> desk.declaration(0, 3));
    }

    // a claim that is not good can be made
    static void promise18_aQuotaOfOthersCanBeClaimed() {
        CustomsDesk desk = taxed(100);
        desk.quota(3, 7, 1, 1000, 0);
        desk.pass(1);
        due(0, () -> claims(desk, 1, 999, 0));
    }

    static void promise18_theFirstListedIsThrown() {
        CustomsDesk small = small();
        refuses(INDEX, () -> small.declare(4, 0, 0, -1));
        refuses(INDEX, () -> small.declare(1, 1, 3, 0));
        refuses(INDEX, () -> small.declare(0, 1, 0, -2));
        refuses(INDEX, () -> small.declare(1, 1000, -1, 0));
        refuses(ARGUMENT, () -> small.declare(0, 0, 0, -1));
        refuses(ARGUMENT, () -> small.declare(1, 1000, 0, -1));
        refuses(ARGUMENT, () -> small.declare(1, 1, 3, -1));
        CustomsDesk full = full();
        refuses(INDEX, () -> full.declare(20, 1, 0, -1));
        refuses(INDEX, () -> full.declare(3, 1, 0, 6));
        refuses(ARGUMENT, () -> full.declare(3, 0, 0, -1));
        refuses(ARGUMENT, () -> full.declare(0, 1, -1, -1));
    }

    static void promise18_aRefusedCallLeavesAll() {
        leavesAll(INDEX, Boundaries::worked, desk -> desk.declare(4, 1, 0, -1), desk -> desk.declare(1, 1, 0, 2));
        leavesAll(ARGUMENT, Boundaries::worked, desk -> desk.declare(1, 0, 0, -1), desk -> desk.declare(1, 1, 3, 0));
        leavesAll(STATE, Boundaries::worked, desk -> desk.declare(0, 1, 0, -1));
        leavesAll(STATE, DeclarationBoundariesTest::workedWithoutParts, desk -> desk.declare(1, 1, 0, -1));
        leavesAll(STATE, Boundaries::full, desk -> desk.declare(3, 1, 0, -1));
    }

    // "8 to 11 are 0 and 12 to 14 are -1 as long as it is lodged"
    static void promise19_asLongAsItIsLodgedNothingIsFound() {
        CustomsDesk desk = taxed(100);
        desk.quota(0, -1, 5, 10, 9);
        claims(desk, 1, 5, 0);
        claims(desk, 1, 5, -1);
        lodges(desk, "11x5@0:100#0");
        for (int declaration : upTo(3)) {
            due(0, () -> desk.declaration(declaration, 7));
            for (int what = 8; what <= 14; what++) {
                int number = what;
                due(number <= 11 ? 0 : -1, () -> desk.declaration(declaration, number));
            }
        }
    }

    // "5 for the quota that it claims, -1 if it claims none"
    static void promise19_withoutClaimTheQuotaIsMinusOne() {
        CustomsDesk desk = taxed(100);
        desk.quota(0, -1, 5, 10, 9);
        claims(desk, 1, 5, -1);
        claims(desk, 1, 5, 0);
        due(-1, () -> desk.declaration(0, 5));
        due(0, () -> desk.declaration(1, 5));
    }

    // "14 for the reason ..., 0 if it was good, -1 if it claims none"
    static void promise19_theReasonIsZeroIfGoodAndMinusOneWithoutClaim() {
        CustomsDesk desk = taxed(100);
        desk.quota(0, -1, 5, 10, 9);
        claims(desk, 1, 5, -1);
        claims(desk, 1, 5, 0);
        claims(desk, 3, 5, 0);
        desk.pass(1);
        due(-1, () -> desk.declaration(0, 14));
        due(0, () -> desk.declaration(1, 14));
        due(1, () -> desk.declaration(2, 14));
    }

    static void promise19_eachReasonIsTold() {
        CustomsDesk desk = taxed(100);
        desk.quota(1, 0, 5, 10, 0);
        desk.quota(1, 0, 5, 100, 9);
        desk.quota(1, 0, 5, 10, 9);
        claims(desk, 1, 5, 2);
        claims(desk, 2, 5, 0);
        goods(desk, 1, 1, 100, 5, 0, 0);
        desk.pass(1);
        claims(desk, 1, 5, 0);
        claims(desk, 1, 5, 1);
        claims(desk, 1, 5, 2);
        desk.pass(1);
        for (int reason : upTo(6)) {
            due(reason, () -> desk.declaration(reason, 14));
        }
    }

    // "7 for 0 if it is lodged, 1 if it is settled, and 2 if it was refunded"
    static void promise19_eachStatusIsTold() {
        CustomsDesk desk = taxed(100);
        claims(desk, 1, 5, -1);
        due(0, () -> desk.declaration(0, 7));
        desk.pass(1);
        due(1, () -> desk.declaration(0, 7));
        desk.refund(0);
        due(2, () -> desk.declaration(0, 7));
        desk.pass(1);
        due(2, () -> desk.declaration(0, 7));
    }

    // "8 is 0 when it was refunded"; "11 for what was given back"
    static void promise19_aRefundedOneHasNoUnits() {
        CustomsDesk desk = taxed(100);
        desk.quota(0, -1, 5, 10, 9);
        goods(desk, 1, 0, 1000, 10, 0, 0);
        desk.pass(1);
        due(5, () -> desk.declaration(0, 8));
        desk.refund(0);
        int[] numbers = {1, 10, 1000, 0, 0, 0, 0, 2, 0, 5, 50, 55, 100, 0, 0};
        for (int what : upTo(15)) {
            due(numbers[what], () -> desk.declaration(0, what));
        }
    }

    // "10 is the second part that counts now"
    static void promise19_theSecondPartIsTheOneThatCountsNow() {
        CustomsDesk desk = taxed(100);
        desk.prefer(0, 0, 60, 1);
        goods(desk, 1, 0, 1000, 1, 0, -1);
        desk.pass(1);
        due(100, () -> desk.declaration(0, 10));
        due(100, () -> desk.declaration(0, 12));
        due(0, () -> desk.declaration(0, 13));
        desk.prove(0, 1);
        due(60, () -> desk.declaration(0, 10));
        due(60, () -> desk.declaration(0, 12));
        due(1, () -> desk.declaration(0, 13));
        due(40, () -> desk.declaration(0, 11));
    }

    // "13 for where this rate comes from, as comesFrom tells it"
    static void promise19_theRateComesFromEachPlace() {
        CustomsDesk desk = taxed(100);
        desk.prefer(1, 0, 60, 0);
        desk.suspend(2, 0, 0);
        goods(desk, 1, 1, 1000, 1, 0, -1);
        goods(desk, 1, 0, 1000, 1, 0, -1);
        goods(desk, 2, 0, 1000, 1, 0, -1);
        desk.pass(1);
        for (int place : upTo(3)) {
            due(place, () -> desk.declaration(place, 13));
        }
    }

    // "if what is not from 0 to 14"
    static void promise19_whatGoesFromZeroTo14() {
        CustomsDesk desk = small();
        claims(desk, 1, 5, -1);
        for (int what : outside(0, 14)) {
            refuses(ARGUMENT, () -> desk.declaration(0, what));
        }
        due(1, () -> desk.declaration(0, 0));
        due(-1, () -> desk.declaration(0, 14));
    }

    static void promise19_theDeclarationMustExist() {
        CustomsDesk desk = small();
        refuses(INDEX, () -> desk.declaration(0, 0));
        claims(desk, 1, 5, -1);
        claims(desk, 2, 5, -1);
        for (int declaration : outside(0, 1)) {
            refuses(INDEX, () -> desk.declaration(declaration, 0));
        }
        due(1, () -> desk.declaration(0, 0));
        due(2, () -> desk.declaration(1, 0));
        desk.undo();
        refuses(INDEX, () -> desk.declaration(1, 0));
    }

    static void promise19_theFirstListedIsThrown() {
        CustomsDesk desk = small();
        refuses(INDEX, () -> desk.declaration(0, 15));
        refuses(INDEX, () -> desk.declaration(-1, -1));
    }

    static void promise19_aRefusedCallLeavesAll() {
        leavesAll(INDEX, Boundaries::worked, desk -> desk.declaration(4, 0));
        leavesAll(ARGUMENT, Boundaries::worked, desk -> desk.declaration(0, 15));
    }

    // "1, the goods are not under the heading of the quota"
    static void promise20_underTheHeadingIsItselfAndBelow() {
        CustomsDesk desk = way();
        desk.rate(0, 100);
        desk.heading(2, 9);
        for (int level : upTo(5)) {
            desk.quota(level, -1, 5, 10, 0);
            claims(desk, 3, 5, level);
        }
        for (int level : upTo(4)) {
            due(0, () -> desk.claim(level));
        }
        due(1, () -> desk.claim(4));
    }

    static void promise20_headingsBesideAreNotUnderIt() {
        CustomsDesk desk = taxed(100);
        desk.quota(1, -1, 5, 10, 0);
        desk.quota(3, -1, 5, 10, 0);
        claims(desk, 1, 5, 0);
        claims(desk, 2, 5, 0);
        claims(desk, 1, 5, 1);
        due(0, () -> desk.claim(0));
        due(1, () -> desk.claim(1));
        due(1, () -> desk.claim(2));
        desk.heading(1, 1);
        due(0, () -> desk.claim(0));
    }

    // "2, the quota has one country, which is not their origin"
    static void promise20_aQuotaForAllCountriesHasNotOne() {
        CustomsDesk desk = taxed(100);
        desk.quota(0, -1, 5, 10, 0);
        desk.quota(0, 0, 5, 10, 0);
        for (int country : upTo(8)) {
            int all = goods(desk, 1, country, 100, 1, 0, 0);
            int one = goods(desk, 1, country, 100, 1, 0, 1);
            due(0, () -> desk.claim(all));
            due(country == 0 ? 0 : 2, () -> desk.claim(one));
        }
    }

    // "3, the day does not belong to the quota": "a first and a last day, which belong to it"
    static void promise20_theFirstAndTheLastDayBelongToTheQuota() {
        CustomsDesk desk = taxed(100);
        desk.pass(3);
        desk.quota(0, -1, 5, 10, 4);
        claims(desk, 1, 1, 0);
        due(0, () -> desk.claim(0));
        desk.pass(1);
        claims(desk, 1, 1, 0);
        due(0, () -> desk.claim(1));
        desk.pass(1);
        claims(desk, 1, 1, 0);
        due(3, () -> desk.claim(2));
    }

    // "4, the rate of the quota is not less than the rate of the goods"
    static void promise20_anEqualRateIsNotLess() {
        CustomsDesk desk = taxed(100);
        desk.quota(0, -1, 5, 99, 0);
        desk.quota(0, -1, 5, 100, 0);
        desk.quota(0, -1, 5, 101, 0);
        claims(desk, 1, 1, 0);
        claims(desk, 1, 1, 1);
        claims(desk, 1, 1, 2);
        due(0, () -> desk.claim(0));
        due(4, () -> desk.claim(1));
        due(4, () -> desk.claim(2));
    }

    static void promise20_nothingIsLessThanARateOfZero() {
        CustomsDesk desk = taxed(1);
        desk.quota(0, -1, 5, 0, 0);
        claims(desk, 1, 1, 0);
        due(0, () -> desk.claim(0));
        desk.suspend(0, 0, 0);
        due(4, () -> desk.claim(0));
    }

    // "found by what there is when their day ends": a statement and its limit among it
    static void promise20_theRateOfTheGoodsIsThatOfNow() {
        CustomsDesk desk = taxed(100);
        desk.quota(0, -1, 5, 50, 0);
        goods(desk, 1, 0, 600, 1, 2, 0);
        due(0, () -> desk.claim(0));
        desk.prefer(0, 0, 50, 2);
        due(4, () -> desk.claim(0));
        desk.set(2, 599);
        due(0, () -> desk.claim(0));
        desk.rate(1, 50);
        due(4, () -> desk.claim(0));
        desk.rate(1, 51);
        due(0, () -> desk.claim(0));
    }

    // "5, no unit is left as the claims on this quota begin to be looked at"
    static void promise20_oneUnitIsEnoughToBeginWith() {
        CustomsDesk desk = taxed(100);
        desk.quota(0, -1, 6, 50, 9);
        claims(desk, 1, 5, 0);
        desk.pass(1);
        claims(desk, 1, 999, 0);
        claims(desk, 1, 999, 0);
        due(0, () -> desk.claim(1));
        due(0, () -> desk.claim(2));
        desk.pass(1);
        claims(desk, 1, 1, 0);
        due(5, () -> desk.claim(3));
        desk.refund(0);
        due(0, () -> desk.claim(3));
    }

    // "for the first of these reasons that applies"
    static void promise20_theFirstReasonIsTold() {
        CustomsDesk desk = taxed(100);
        desk.quota(1, 2, 1, 50, 0);
        goods(desk, 1, 2, 100, 1, 0, 0);
        desk.pass(1);
        desk.rate(0, 50);
        goods(desk, 2, 3, 100, 1, 0, 0);
        goods(desk, 1, 3, 100, 1, 0, 0);
        goods(desk, 1, 2, 100, 1, 0, 0);
        due(1, () -> desk.claim(1));
        due(2, () -> desk.claim(2));
        due(3, () -> desk.claim(3));
        desk.rate(0, 100);
        due(3, () -> desk.claim(3));
    }

    static void promise20_noLessRateComesBeforeNothingLeft() {
        CustomsDesk desk = taxed(100);
        desk.quota(0, -1, 1, 50, 9);
        claims(desk, 1, 1, 0);
        desk.pass(1);
        claims(desk, 1, 1, 0);
        due(5, () -> desk.claim(1));
        desk.rate(0, 50);
        due(4, () -> desk.claim(1));
    }

    // "if it is not lodged"
    static void promise20_itMustBeLodged() {
        CustomsDesk desk = taxed(100);
        desk.quota(0, -1, 5, 10, 9);
        claims(desk, 1, 1, 0);
        due(0, () -> desk.claim(0));
        desk.pass(1);
        refuses(STATE, () -> desk.claim(0));
        desk.refund(0);
        refuses(STATE, () -> desk.claim(0));
    }

    // "or claims none"
    static void promise20_itMustClaimOne() {
        CustomsDesk desk = taxed(100);
        desk.quota(0, -1, 5, 10, 9);
        claims(desk, 1, 1, -1);
        refuses(STATE, () -> desk.claim(0));
    }

    static void promise20_theDeclarationMustExist() {
        CustomsDesk desk = taxed(100);
        refuses(INDEX, () -> desk.claim(0));
        desk.quota(0, -1, 5, 10, 9);
        claims(desk, 1, 1, 0);
        for (int declaration : outside(0, 0)) {
            refuses(INDEX, () -> desk.claim(declaration));
        }
        due(0, () -> desk.claim(0));
    }

    static void promise20_aRefusedCallLeavesAll() {
        leavesAll(INDEX, Boundaries::worked, desk -> desk.claim(4));
        leavesAll(STATE, Boundaries::worked, desk -> desk.claim(1));
        leavesAll(STATE, Boundaries::full, desk -> desk.claim(21));
    }

    // "If the quantities of the good claims together are at most what is left"
    static void promise21_allIsLeftWithoutClaims() {
        CustomsDesk desk = taxed(100);
        desk.quota(0, -1, 10, 50, 9);
        due(10, () -> desk.leftThen(0));
        claims(desk, 1, 4, -1);
        due(10, () -> desk.leftThen(0));
    }

    static void promise21_justEnoughLeavesNone() {
        due(1, () -> leftAfterClaims(10, 4, 5));
        due(0, () -> leftAfterClaims(10, 4, 6));
        due(0, () -> leftAfterClaims(10, 4, 7));
    }

    static void promise21_theGreatestQuantities() {
        due(9000, () -> leftAfterClaims(9999, 999));
        due(9, () -> leftAfterClaims(9999, 999, 999, 999, 999, 999, 999, 999, 999, 999, 999));
        due(0, () -> leftAfterClaims(9999, 999, 999, 999, 999, 999, 999, 999, 999, 999, 999, 10));
        due(0, () -> leftAfterClaims(1, 999));
        due(0, () -> leftAfterClaims(1, 1));
    }

    static void promise21_claimsThatAreNotGoodTakeNone() {
        CustomsDesk desk = taxed(100);
        desk.quota(1, 0, 10, 50, 9);
        claims(desk, 2, 4, 0);
        goods(desk, 1, 3, 100, 4, 0, 0);
        due(10, () -> desk.leftThen(0));
        claims(desk, 1, 4, 0);
        due(6, () -> desk.leftThen(0));
        desk.rate(0, 50);
        due(10, () -> desk.leftThen(0));
    }

    static void promise21_onlyLodgedOnesTake() {
        CustomsDesk desk = taxed(100);
        desk.quota(0, -1, 10, 50, 9);
        claims(desk, 1, 4, 0);
        desk.pass(1);
        due(6, () -> desk.leftThen(0));
        desk.refund(0);
        due(10, () -> desk.leftThen(0));
    }

    static void promise21_nothingLeftStaysSo() {
        CustomsDesk desk = taxed(100);
        desk.quota(0, -1, 4, 50, 9);
        claims(desk, 1, 4, 0);
        desk.pass(1);
        due(0, () -> desk.leftThen(0));
        claims(desk, 1, 4, 0);
        due(0, () -> desk.leftThen(0));
    }

    static void promise21_behindItsLastDayWhatIsLeftStays() {
        CustomsDesk desk = taxed(100);
        desk.quota(0, -1, 4, 50, 0);
        desk.pass(1);
        claims(desk, 1, 3, 0);
        due(4, () -> desk.leftThen(0));
    }

    static void promise21_eachQuotaIsItsOwn() {
        CustomsDesk desk = taxed(100);
        for (int made : upTo(6)) {
            desk.quota(0, -1, 10 + made, 50, 9);
            claims(desk, 1, 1 + 2 * made, made);
        }
        for (int quota : upTo(6)) {
            due(9 - quota, () -> desk.leftThen(quota));
        }
    }

    static void promise21_itIsWhatIsLeftWhenTheDayEnds() {
        CustomsDesk desk = taxed(100);
        desk.quota(0, -1, 10, 50, 9);
        claims(desk, 1, 3, 0);
        claims(desk, 2, 3, 0);
        int told = desk.leftThen(0);
        desk.pass(1);
        due(told, () -> desk.quotaTold(0, 6));
    }

    static void promise21_theQuotaMustExist() {
        CustomsDesk desk = taxed(100);
        refuses(INDEX, () -> desk.leftThen(0));
        desk.quota(0, -1, 5, 10, 9);
        for (int quota : outside(0, 0)) {
            refuses(INDEX, () -> desk.leftThen(quota));
        }
        due(5, () -> desk.leftThen(0));
    }

    static void promise21_aRefusedCallLeavesAll() {
        leavesAll(INDEX, Boundaries::worked, desk -> desk.leftThen(2));
        leavesAll(INDEX, Boundaries::full, desk -> desk.leftThen(6));
    }

    private static int leftAfterClaims(int units, int... quantities) {
        CustomsDesk desk = taxed(100);
        desk.quota(0, -1, units, 50, 9);
        for (int quantity : quantities) {
            claims(desk, 1, quantity, 0);
        }
        return desk.leftThen(0);
    }
}
