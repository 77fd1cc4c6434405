/** The boundaries of promises 6 to 14, a test for each sentence that names one. */
public final class RuleBoundariesTest extends Boundaries {
    private interface Asking {
        Object ask(CustomsDesk desk, int heading, int country, int value, int proof);
    }

    public static void main(String[] args) {
        runAll(RuleBoundariesTest.class);
    }

    // "There are at most 10 preferences, numbered from 0"; "if there are 10 preferences"
    static void promise6_tenAreTheMost() {
        CustomsDesk desk = small();
        for (int made : upTo(10)) {
            due(made, () -> desk.prefer(0, 0, 0, 0));
        }
        refuses(STATE, () -> desk.prefer(0, 0, 0, 0));
        due(10, () -> desk.account(1));
        desk.drop(0);
        due(9, () -> desk.prefer(0, 0, 0, 0));
        refuses(STATE, () -> desk.prefer(0, 0, 0, 0));
    }

    // "if there is no such heading or country"
    static void promise6_theHeadingMustExist() {
        CustomsDesk desk = small();
        for (int heading : outside(0, 3)) {
            refuses(INDEX, () -> desk.prefer(heading, 0, 0, 0));
        }
        due(0, () -> desk.prefer(0, 0, 0, 0));
        due(1, () -> desk.prefer(3, 0, 0, 0));
        CustomsDesk none = new CustomsDesk();
        refuses(INDEX, () -> none.prefer(0, 0, 0, 0));
    }

    // "There are 8 countries, numbered from 0"
    static void promise6_countriesGoFromZeroToSeven() {
        CustomsDesk desk = taxed(100);
        for (int country : outside(0, 7)) {
            refuses(INDEX, () -> desk.prefer(0, country, 0, 0));
        }
        due(0, () -> desk.prefer(0, 0, 0, 0));
        due(1, () -> desk.prefer(0, 7, 0, 0));
        due(0, () -> desk.rateOf(0, 0, 1, 0));
        due(0, () -> desk.rateOf(0, 7, 1, 0));
        due(100, () -> desk.rateOf(0, 1, 1, 0));
        due(100, () -> desk.rateOf(0, 6, 1, 0));
    }

    // "if the rate or the need is out of range": "from 0 to 1000"
    static void promise6_ratesGoFromZeroToThousand() {
        CustomsDesk desk = small();
        for (int rate : outside(0, 1000)) {
            refuses(ARGUMENT, () -> desk.prefer(0, 0, rate, 0));
        }
        due(0, () -> desk.prefer(0, 0, 0, 0));
        due(1, () -> desk.prefer(0, 0, 1000, 0));
    }

    // "a need: 0 no proof, 1 a certificate, 2 a statement"
    static void promise6_needsGoFromZeroToTwo() {
        CustomsDesk desk = small();
        for (int need : outside(0, 2)) {
            refuses(ARGUMENT, () -> desk.prefer(0, 0, 0, need));
        }
        due(0, () -> desk.prefer(0, 0, 0, 0));
        due(1, () -> desk.prefer(0, 0, 0, 2));
    }

    static void promise6_twoCanBeAlike() {
        CustomsDesk desk = small();
        due(0, () -> desk.prefer(1, 2, 3, 1));
        due(1, () -> desk.prefer(1, 2, 3, 1));
    }

    static void promise6_theFirstListedIsThrown() {
        CustomsDesk full = full();
        refuses(INDEX, () -> full.prefer(20, 0, 1001, 0));
        refuses(INDEX, () -> full.prefer(0, 8, 0, 3));
        refuses(INDEX, () -> full.prefer(0, -1, 0, 0));
        refuses(ARGUMENT, () -> full.prefer(0, 0, -1, 0));
        refuses(ARGUMENT, () -> full.prefer(0, 0, 0, 3));
        CustomsDesk small = small();
        refuses(INDEX, () -> small.prefer(4, 0, -1, 0));
        refuses(INDEX, () -> small.prefer(0, 8, 0, -1));
    }

    static void promise6_aRefusedCallLeavesAll() {
        leavesAll(INDEX, Boundaries::worked, desk -> desk.prefer(4, 0, 0, 0), desk -> desk.prefer(0, 8, 0, 0));
        leavesAll(ARGUMENT, Boundaries::worked, desk -> desk.prefer(0, 0, 1001, 0), desk -> desk.prefer(0, 0, 0, 3));
        leavesAll(STATE, Boundaries::full, desk -> desk.prefer(0, 0, 0, 0));
    }

    // "when one is dropped, the numbers of later ones decrease by 1"
    static void promise7_whenTheFirstIsDroppedAllDecrease() {
        CustomsDesk desk = threePreferences();
        due(2, () -> desk.drop(0));
        refuses(NO_ELEMENT, () -> desk.missed(0, 0, 1, 0));
        due(0, () -> desk.missed(0, 1, 1, 0));
        due(1, () -> desk.missed(0, 2, 1, 0));
    }

    static void promise7_whenOneBetweenIsDroppedTheLaterDecrease() {
        CustomsDesk desk = threePreferences();
        due(2, () -> desk.drop(1));
        due(0, () -> desk.missed(0, 0, 1, 0));
        refuses(NO_ELEMENT, () -> desk.missed(0, 1, 1, 0));
        due(1, () -> desk.missed(0, 2, 1, 0));
    }

    static void promise7_whenTheLastIsDroppedNoneDecreases() {
        CustomsDesk desk = threePreferences();
        due(2, () -> desk.drop(2));
        due(0, () -> desk.missed(0, 0, 1, 0));
        due(1, () -> desk.missed(0, 1, 1, 0));
        refuses(NO_ELEMENT, () -> desk.missed(0, 2, 1, 0));
    }

    static void promise7_whatDecreasesKeepsItsNumbers() {
        CustomsDesk desk = taxed(500);
        desk.rate(3, 500);
        desk.prefer(0, 0, 1, 0);
        desk.prefer(1, 7, 400, 2);
        desk.drop(0);
        due(400, () -> desk.rateOf(1, 7, 600, 2));
        due(500, () -> desk.rateOf(1, 7, 601, 2));
        due(500, () -> desk.rateOf(2, 7, 600, 2));
        due(500, () -> desk.rateOf(1, 0, 600, 2));
    }

    static void promise7_tenCanBeDroppedToNone() {
        CustomsDesk desk = small();
        for (int made : upTo(10)) {
            desk.prefer(0, made % 8, 0, 0);
        }
        for (int dropped : upTo(10)) {
            due(9 - dropped, () -> desk.drop(9 - dropped));
        }
        due(0, () -> desk.account(1));
        refuses(INDEX, () -> desk.drop(0));
    }

    // "if there is no such preference"
    static void promise7_thePreferenceMustExist() {
        CustomsDesk desk = threePreferences();
        for (int preference : outside(0, 2)) {
            refuses(INDEX, () -> desk.drop(preference));
        }
        due(2, () -> desk.drop(2));
        refuses(INDEX, () -> desk.drop(2));
        due(1, () -> desk.drop(0));
        due(0, () -> desk.drop(0));
        refuses(INDEX, () -> desk.drop(0));
    }

    static void promise7_withoutPreferencesNoneCanBeDropped() {
        CustomsDesk desk = small();
        refuses(INDEX, () -> desk.drop(0));
        refuses(INDEX, () -> desk.drop(-1));
    }

    static void promise7_aRefusedCallLeavesAll() {
        leavesAll(INDEX, Boundaries::worked, desk -> desk.drop(1), desk -> desk.drop(-1));
        leavesAll(INDEX, Boundaries::full, desk -> desk.drop(10));
    }

    // "There are at most 6 suspensions, numbered from 0"; "if there are 6 suspensions"
    static void promise8_sixAreTheMost() {
        CustomsDesk desk = small();
        for (int made : upTo(6)) {
            due(made, () -> desk.suspend(0, 0, 0));
        }
        refuses(STATE, () -> desk.suspend(0, 0, 0));
        due(6, () -> desk.account(2));
        desk.undo();
        due(5, () -> desk.suspend(0, 0, 0));
    }

    // "the first day, 0 to 999"
    static void promise8_firstDaysGoFromZeroTo999() {
        CustomsDesk desk = small();
        for (int first : outside(0, 999)) {
            refuses(ARGUMENT, () -> desk.suspend(0, first, 999));
        }
        refuses(ARGUMENT, () -> desk.suspend(0, 1000, 1000));
        refuses(ARGUMENT, () -> desk.suspend(0, -1, -1));
        due(0, () -> desk.suspend(0, 0, 999));
        due(1, () -> desk.suspend(0, 999, 999));
    }

    // "the last day, from the first day to 999"
    static void promise8_lastDaysGoFromTheFirstTo999() {
        CustomsDesk desk = small();
        for (int last : outside(7, 999)) {
            refuses(ARGUMENT, () -> desk.suspend(0, 7, last));
        }
        due(0, () -> desk.suspend(0, 7, 7));
        due(1, () -> desk.suspend(0, 7, 999));
    }

    static void promise8_daysThatArePastAreDays() {
        CustomsDesk desk = taxed(100);
        desk.pass(9);
        due(0, () -> desk.suspend(0, 0, 8));
        due(100, () -> desk.rateOf(0, 0, 1, 0));
    }

    // "a first and a last day, which belong to it"
    static void promise8_theFirstAndTheLastDayBelongToIt() {
        CustomsDesk desk = taxed(100);
        desk.suspend(0, 2, 4);
        int[] rates = {100, 100, 0, 0, 0, 100, 100};
        for (int rate : rates) {
            due(rate, () -> desk.rateOf(0, 0, 1, 0));
            desk.pass(1);
        }
    }

    static void promise8_theLastDayOfAllBelongsToOne() {
        CustomsDesk desk = taxed(100);
        desk.suspend(0, 999, 999);
        for (int i = 0; i < 10; i++) {
            desk.pass(99);
        }
        desk.pass(8);
        due(100, () -> desk.rateOf(0, 0, 1, 0));
        desk.pass(1);
        due(0, () -> desk.rateOf(0, 0, 1, 0));
    }

    static void promise8_theHeadingMustExist() {
        CustomsDesk desk = small();
        for (int heading : outside(0, 3)) {
            refuses(INDEX, () -> desk.suspend(heading, 0, 0));
        }
        due(0, () -> desk.suspend(0, 0, 0));
        due(1, () -> desk.suspend(3, 0, 0));
        CustomsDesk none = new CustomsDesk();
        refuses(INDEX, () -> none.suspend(0, 0, 0));
    }

    static void promise8_theFirstListedIsThrown() {
        CustomsDesk full = full();
        refuses(INDEX, () -> full.suspend(20, -1, 0));
        refuses(INDEX, () -> full.suspend(-1, 0, 0));
        refuses(ARGUMENT, () -> full.suspend(0, 1, 0));
        refuses(ARGUMENT, () -> full.suspend(0, 0, 1000));
        CustomsDesk small = small();
        refuses(INDEX, () -> small.suspend(4, 5, 4));
    }

    static void promise8_aRefusedCallLeavesAll() {
        leavesAll(INDEX, Boundaries::worked, desk -> desk.suspend(4, 0, 0));
        leavesAll(ARGUMENT, Boundaries::worked, desk -> desk.suspend(0, 5, 4), desk -> desk.suspend(0, 0, 1000));
        leavesAll(STATE, Boundaries::full, desk -> desk.suspend(0, 0, 999));
    }

    // "There are at most 6 quotas, numbered from 0"; "if there are 6 quotas"
    static void promise9_sixAreTheMost() {
        CustomsDesk desk = small();
        for (int made : upTo(6)) {
            due(made, () -> desk.quota(0, -1, 1, 0, 0));
        }
        refuses(STATE, () -> desk.quota(0, -1, 1, 0, 0));
        due(6, () -> desk.account(3));
        desk.undo();
        due(5, () -> desk.quota(0, -1, 1, 0, 0));
    }

    static void promise9_theHeadingMustExist() {
        CustomsDesk desk = small();
        for (int heading : outside(0, 3)) {
            refuses(INDEX, () -> desk.quota(heading, -1, 1, 0, 0));
        }
        due(0, () -> desk.quota(0, -1, 1, 0, 0));
        due(1, () -> desk.quota(3, -1, 1, 0, 0));
        CustomsDesk none = new CustomsDesk();
        refuses(INDEX, () -> none.quota(0, -1, 1, 0, 0));
    }

    // "the country, or -1 for all"; "the country is neither -1 nor a country"
    static void promise9_theCountryIsOneOrMinusOne() {
        CustomsDesk desk = small();
        for (int country : outside(-1, 7)) {
            refuses(INDEX, () -> desk.quota(0, country, 1, 0, 0));
        }
        for (int country : upTo(3)) {
            int one = country == 0 ? -1 : country == 1 ? 0 : 7;
            due(country, () -> desk.quota(0, one, 1, 0, 0));
            due(one, () -> desk.quotaTold(country, 1));
        }
    }

    // "the number of units, 1 to 9999"
    static void promise9_unitsGoFromOneTo9999() {
        CustomsDesk desk = small();
        for (int units : outside(1, 9999)) {
            refuses(ARGUMENT, () -> desk.quota(0, -1, units, 0, 0));
        }
        due(0, () -> desk.quota(0, -1, 1, 0, 0));
        due(1, () -> desk.quota(0, -1, 9999, 0, 0));
        due(9999, () -> desk.quotaTold(1, 6));
    }

    static void promise9_ratesGoFromZeroToThousand() {
        CustomsDesk desk = small();
        for (int rate : outside(0, 1000)) {
            refuses(ARGUMENT, () -> desk.quota(0, -1, 1, rate, 0));
        }
        due(0, () -> desk.quota(0, -1, 1, 0, 0));
        due(1, () -> desk.quota(0, -1, 1, 1000, 0));
    }

    // "the last day, from the present day to 999"
    static void promise9_lastDaysGoFromThePresentOneTo999() {
        CustomsDesk desk = small();
        desk.pass(7);
        for (int last : outside(7, 999)) {
            refuses(ARGUMENT, () -> desk.quota(0, -1, 1, 0, last));
        }
        due(0, () -> desk.quota(0, -1, 1, 0, 7));
        due(1, () -> desk.quota(0, -1, 1, 0, 999));
        CustomsDesk first = small();
        refuses(ARGUMENT, () -> first.quota(0, -1, 1, 0, -1));
        due(0, () -> first.quota(0, -1, 1, 0, 0));
    }

    static void promise9_onTheLastDayOfAllItLastsThatDay() {
        CustomsDesk desk = small();
        for (int i = 0; i < 10; i++) {
            desk.pass(99);
        }
        desk.pass(9);
        refuses(ARGUMENT, () -> desk.quota(0, -1, 1, 0, 998));
        refuses(ARGUMENT, () -> desk.quota(0, -1, 1, 0, 1000));
        due(0, () -> desk.quota(0, -1, 1, 0, 999));
        due(999, () -> desk.quotaTold(0, 4));
    }

    // "Makes a quota whose first day is the present one"
    static void promise9_theFirstDayIsThePresentOne() {
        CustomsDesk desk = small();
        desk.quota(0, -1, 1, 0, 9);
        desk.pass(3);
        desk.quota(0, -1, 1, 0, 9);
        due(0, () -> desk.quotaTold(0, 4));
        due(3, () -> desk.quotaTold(1, 4));
    }

    // "At first, all its units are left"
    static void promise9_atFirstAllUnitsAreLeft() {
        CustomsDesk desk = taxed(100);
        desk.quota(0, -1, 5, 0, 9);
        claims(desk, 1, 9, 0);
        desk.pass(1);
        desk.quota(0, -1, 7, 0, 9);
        due(7, () -> desk.quotaTold(1, 6));
        due(0, () -> desk.quotaTold(1, 7));
        due(0, () -> desk.quotaTold(1, 8));
        due(7, () -> desk.leftThen(1));
    }

    static void promise9_whereOneWasTakenBackAllUnitsAreLeft() {
        CustomsDesk desk = taxed(100);
        desk.quota(0, -1, 5, 0, 0);
        claims(desk, 1, 9, 0);
        desk.pass(1);
        desk.refund(0);
        for (int i = 0; i < 5; i++) {
            desk.undo();
        }
        due(0, () -> desk.account(3));
        due(0, () -> desk.quota(0, -1, 7, 0, 9));
        due(7, () -> desk.quotaTold(0, 6));
        due(0, () -> desk.quotaTold(0, 7));
        due(0, () -> desk.quotaTold(0, 8));
    }

    static void promise9_theFirstListedIsThrown() {
        CustomsDesk full = full();
        refuses(INDEX, () -> full.quota(20, -1, 0, 0, 9));
        refuses(INDEX, () -> full.quota(0, 8, 1, 1001, 9));
        refuses(INDEX, () -> full.quota(0, -2, 1, 1, 9));
        refuses(ARGUMENT, () -> full.quota(0, -1, 0, 0, 9));
        refuses(ARGUMENT, () -> full.quota(0, -1, 1, 1001, 9));
        refuses(ARGUMENT, () -> full.quota(0, -1, 1, 0, 0));
        CustomsDesk small = small();
        refuses(INDEX, () -> small.quota(4, -1, 1, 0, 1000));
        refuses(INDEX, () -> small.quota(0, -2, 0, 0, 0));
    }

    static void promise9_aRefusedCallLeavesAll() {
        leavesAll(INDEX, Boundaries::worked, desk -> desk.quota(4, -1, 1, 0, 9), desk -> desk.quota(0, 8, 1, 0, 9));
        leavesAll(ARGUMENT, Boundaries::worked, desk -> desk.quota(0, -1, 0, 0, 9),
                desk -> desk.quota(0, -1, 1, -1, 9), desk -> desk.quota(0, -1, 1, 0, 1));
        leavesAll(STATE, Boundaries::full, desk -> desk.quota(0, -1, 1, 0, 9));
    }

    // "1 for its country, -1 for all"
    static void promise10_forAllCountriesItIsMinusOne() {
        CustomsDesk desk = small();
        desk.quota(0, -1, 1, 0, 0);
        desk.quota(0, 0, 1, 0, 0);
        due(-1, () -> desk.quotaTold(0, 1));
        due(0, () -> desk.quotaTold(1, 1));
    }

    // "6 for the units that are left": none, when all were got
    static void promise10_noUnitIsLeft() {
        CustomsDesk desk = taxed(100);
        desk.quota(0, -1, 5, 0, 9);
        claims(desk, 1, 5, 0);
        due(5, () -> desk.quotaTold(0, 6));
        desk.pass(1);
        due(0, () -> desk.quotaTold(0, 6));
        due(5, () -> desk.quotaTold(0, 7));
        due(0, () -> desk.quotaTold(0, 8));
    }

    // "7 for those that settled declarations have got, without refunded ones"
    static void promise10_whatRefundedOnesGotDoesNotCount() {
        CustomsDesk desk = taxed(100);
        desk.quota(0, -1, 50, 0, 9);
        claims(desk, 1, 5, 0);
        claims(desk, 1, 6, 0);
        due(0, () -> desk.quotaTold(0, 7));
        desk.pass(1);
        due(11, () -> desk.quotaTold(0, 7));
        desk.refund(0);
        due(6, () -> desk.quotaTold(0, 7));
        desk.refund(1);
        due(0, () -> desk.quotaTold(0, 7));
    }

    // "8 for those that were lost": behind the last day, and only then
    static void promise10_unitsAreLostBehindTheLastDayOnly() {
        CustomsDesk desk = taxed(100);
        desk.quota(0, -1, 50, 0, 1);
        claims(desk, 1, 5, 0);
        claims(desk, 1, 6, 0);
        desk.pass(1);
        desk.refund(0);
        due(0, () -> desk.quotaTold(0, 8));
        due(44, () -> desk.quotaTold(0, 6));
        desk.pass(1);
        due(0, () -> desk.quotaTold(0, 8));
        desk.refund(1);
        due(6, () -> desk.quotaTold(0, 8));
        due(44, () -> desk.quotaTold(0, 6));
    }

    // "2 is the sum of 6, 7 and 8"
    static void promise10_unitsAreTheSumAtEachStep() {
        CustomsDesk desk = taxed(100);
        desk.quota(0, -1, 20, 0, 1);
        sumHolds(desk, 20);
        claims(desk, 1, 9, 0);
        claims(desk, 1, 9, 0);
        claims(desk, 1, 9, 0);
        sumHolds(desk, 20);
        desk.pass(1);
        sumHolds(desk, 0);
        desk.refund(0);
        sumHolds(desk, 7);
        desk.pass(1);
        desk.refund(1);
        sumHolds(desk, 7);
        desk.prove(2, 1);
        sumHolds(desk, 7);
    }

    private static void sumHolds(CustomsDesk desk, int left) {
        due(20, () -> desk.quotaTold(0, 2));
        due(20, () -> desk.quotaTold(0, 6) + desk.quotaTold(0, 7) + desk.quotaTold(0, 8));
        due(left, () -> desk.quotaTold(0, 6));
    }

    // "if what is not from 0 to 8"
    static void promise10_whatGoesFromZeroToEight() {
        CustomsDesk desk = small();
        desk.quota(3, 2, 9, 8, 7);
        for (int what : outside(0, 8)) {
            refuses(ARGUMENT, () -> desk.quotaTold(0, what));
        }
        int[] numbers = {3, 2, 9, 8, 0, 7, 9, 0, 0};
        for (int what : upTo(9)) {
            due(numbers[what], () -> desk.quotaTold(0, what));
        }
    }

    static void promise10_theQuotaMustExist() {
        CustomsDesk desk = small();
        refuses(INDEX, () -> desk.quotaTold(0, 0));
        desk.quota(3, -1, 1, 0, 0);
        desk.quota(2, -1, 1, 0, 0);
        for (int quota : outside(0, 1)) {
            refuses(INDEX, () -> desk.quotaTold(quota, 0));
        }
        due(3, () -> desk.quotaTold(0, 0));
        due(2, () -> desk.quotaTold(1, 0));
    }

    static void promise10_theFirstListedIsThrown() {
        CustomsDesk desk = small();
        refuses(INDEX, () -> desk.quotaTold(0, 9));
        refuses(INDEX, () -> desk.quotaTold(-1, -1));
    }

    static void promise10_aRefusedCallLeavesAll() {
        leavesAll(INDEX, Boundaries::worked, desk -> desk.quotaTold(2, 0));
        leavesAll(ARGUMENT, Boundaries::worked, desk -> desk.quotaTold(0, 9));
    }

    // "0, the threshold, 30 to 100 percent, 50"
    static void promise11_thresholdsGoFrom30To100() {
        settingGoes(0, 30, 100, 50);
    }

    // "1, the time for refunds, 0 to 99 days, 30"
    static void promise11_timesForRefundsGoFromZeroTo99() {
        settingGoes(1, 0, 99, 30);
    }

    // "2, the limit for statements, 0 to 99999, 600"
    static void promise11_limitsForStatementsGoFromZeroTo99999() {
        settingGoes(2, 0, 99999, 600);
    }

    private static void settingGoes(int what, int least, int most, int first) {
        CustomsDesk desk = new CustomsDesk();
        for (int value : outside(least, most)) {
            refuses(ARGUMENT, () -> desk.set(what, value));
        }
        due(first, () -> desk.set(what, least));
        due(least, () -> desk.set(what, most));
        due(most, () -> desk.set(what, first));
    }

    // "if there is no such setting"
    static void promise11_settingsGoFromZeroToTwo() {
        CustomsDesk desk = new CustomsDesk();
        for (int what : outside(0, 2)) {
            refuses(ARGUMENT, () -> desk.set(what, 50));
        }
        due(50, () -> desk.set(0, 50));
        due(600, () -> desk.set(2, 50));
    }

    static void promise11_eachSettingIsItsOwn() {
        CustomsDesk desk = new CustomsDesk();
        desk.set(0, 60);
        due(30, () -> desk.set(1, 61));
        due(600, () -> desk.set(2, 62));
        due(60, () -> desk.set(0, 60));
        due(61, () -> desk.set(1, 61));
    }

    static void promise11_aRefusedCallLeavesAll() {
        leavesAll(ARGUMENT, Boundaries::worked, desk -> desk.set(0, 29), desk -> desk.set(1, 100),
                desk -> desk.set(2, 100000), desk -> desk.set(3, 50), desk -> desk.set(-1, 50));
    }

    // "their value, 1 to 99999"
    static void promise12_valuesGoFromOneTo99999() {
        valuesGo(CustomsDesk::rateOf, 100);
    }

    static void promise12_proofsGoFromZeroToTwo() {
        proofsGo(CustomsDesk::rateOf, 100);
    }

    static void promise12_headingAndCountryMustExist() {
        goodsMustExist(CustomsDesk::rateOf, 100, 100, 100);
    }

    static void promise12_theFirstListedIsThrown() {
        goodsFirstListed(CustomsDesk::rateOf);
    }

    // "their heading, an end or not"
    static void promise12_theHeadingMayBeNoEnd() {
        CustomsDesk desk = way();
        desk.rate(0, 300);
        desk.rate(3, 200);
        due(300, () -> desk.rateOf(0, 0, 1, 0));
        due(300, () -> desk.rateOf(2, 0, 1, 0));
        due(200, () -> desk.rateOf(3, 0, 1, 0));
    }

    // "the preferences whose heading they are under": "each heading on this way, itself included"
    static void promise12_aPreferenceHoldsForItsHeadingAndBelow() {
        CustomsDesk desk = way();
        desk.rate(0, 500);
        desk.prefer(1, 1, 10, 0);
        due(500, () -> desk.rateOf(0, 1, 1, 0));
        due(10, () -> desk.rateOf(1, 1, 1, 0));
        due(10, () -> desk.rateOf(2, 1, 1, 0));
        due(10, () -> desk.rateOf(3, 1, 1, 0));
    }

    static void promise12_aPreferenceHoldsFourLevelsDown() {
        CustomsDesk desk = way();
        desk.rate(0, 500);
        desk.prefer(0, 1, 10, 0);
        due(10, () -> desk.rateOf(3, 1, 1, 0));
        CustomsDesk below = way();
        below.rate(0, 500);
        below.prefer(3, 1, 10, 0);
        due(10, () -> below.rateOf(3, 1, 1, 0));
        due(500, () -> below.rateOf(2, 1, 1, 0));
    }

    static void promise12_aPreferenceDoesNotHoldBesideItsHeading() {
        CustomsDesk desk = taxed(500);
        desk.rate(3, 500);
        desk.prefer(1, 1, 10, 0);
        due(500, () -> desk.rateOf(2, 1, 1, 0));
        due(500, () -> desk.rateOf(3, 1, 1, 0));
    }

    static void promise12_aPreferenceHoldsForItsCountryOnly() {
        CustomsDesk desk = taxed(500);
        desk.prefer(0, 3, 10, 0);
        for (int country : upTo(8)) {
            due(country == 3 ? 10 : 500, () -> desk.rateOf(1, country, 1, 0));
        }
    }

    // "and no proof meets the need 0"
    static void promise12_noProofMeetsTheNeedZeroAlone() {
        due(100, () -> rateBy(0, 0, 99999, 0));
        due(500, () -> rateBy(1, 0, 1, 99999));
        due(500, () -> rateBy(2, 0, 1, 99999));
    }

    // "A certificate meets each need, whatever the value of the goods is"
    static void promise12_aCertificateMeetsEachNeedWhateverTheValue() {
        for (int need : upTo(3)) {
            due(100, () -> rateBy(need, 1, 1, 0));
            due(100, () -> rateBy(need, 1, 99999, 0));
            due(100, () -> rateBy(need, 1, 99999, 99998));
        }
    }

    // "a statement the needs 0 and 2"
    static void promise12_aStatementDoesNotMeetTheNeedOne() {
        due(100, () -> rateBy(0, 2, 1, 600));
        due(500, () -> rateBy(1, 2, 1, 600));
        due(100, () -> rateBy(2, 2, 1, 600));
    }

    // "but the need 2 only if the value of the goods is at most the limit for statements"
    static void promise12_aStatementMeetsTheNeedTwoUpToTheLimit() {
        due(100, () -> rateBy(2, 2, 599, 600));
        due(100, () -> rateBy(2, 2, 600, 600));
        due(500, () -> rateBy(2, 2, 601, 600));
    }

    static void promise12_aLimitOfZeroLetsNoStatementMeetTheNeedTwo() {
        due(500, () -> rateBy(2, 2, 1, 0));
        due(100, () -> rateBy(2, 2, 1, 1));
    }

    static void promise12_theGreatestLimitLetsEachValueMeetTheNeedTwo() {
        due(100, () -> rateBy(2, 2, 99999, 99999));
        due(500, () -> rateBy(2, 2, 99999, 99998));
    }

    static void promise12_theNeedZeroHasNoLimit() {
        due(100, () -> rateBy(0, 2, 99999, 0));
        due(100, () -> rateBy(0, 2, 601, 600));
    }

    private static int rateBy(int need, int proof, int value, int limit) {
        CustomsDesk desk = taxed(500);
        desk.prefer(0, 0, 100, need);
        desk.set(2, limit);
        return desk.rateOf(1, 0, value, proof);
    }

    // "The rate of goods on a day is the least one of these"
    static void promise12_theLeastOfAllHolds() {
        CustomsDesk desk = taxed(500);
        desk.prefer(0, 0, 501, 0);
        due(500, () -> desk.rateOf(1, 0, 1, 0));
        desk.prefer(0, 0, 499, 0);
        due(499, () -> desk.rateOf(1, 0, 1, 0));
        desk.prefer(1, 0, 498, 0);
        due(498, () -> desk.rateOf(1, 0, 1, 0));
        desk.prefer(0, 0, 499, 0);
        due(498, () -> desk.rateOf(1, 0, 1, 0));
        desk.suspend(0, 0, 0);
        due(0, () -> desk.rateOf(1, 0, 1, 0));
    }

    // "0, if they are under the heading of a suspension to which the day belongs"
    static void promise12_aSuspensionHoldsForItsHeadingAndBelow() {
        CustomsDesk desk = way();
        desk.rate(0, 500);
        desk.suspend(1, 0, 0);
        due(500, () -> desk.rateOf(0, 0, 1, 0));
        due(0, () -> desk.rateOf(1, 0, 1, 0));
        due(0, () -> desk.rateOf(3, 0, 1, 0));
        CustomsDesk beside = taxed(500);
        beside.suspend(2, 0, 0);
        due(500, () -> beside.rateOf(1, 0, 1, 0));
        due(0, () -> beside.rateOf(2, 0, 1, 0));
    }

    // "on the present day"
    static void promise12_aSuspensionOfAnotherDayDoesNotHold() {
        CustomsDesk desk = taxed(500);
        desk.pass(5);
        desk.suspend(0, 0, 4);
        desk.suspend(0, 6, 999);
        due(500, () -> desk.rateOf(1, 0, 1, 0));
        desk.suspend(0, 5, 5);
        due(0, () -> desk.rateOf(1, 0, 1, 0));
    }

    static void promise12_theLeastAndTheGreatestRate() {
        CustomsDesk desk = taxed(1000);
        due(1000, () -> desk.rateOf(1, 0, 1, 0));
        desk.prefer(0, 0, 1000, 0);
        due(1000, () -> desk.rateOf(1, 0, 1, 0));
        desk.prefer(0, 0, 0, 0);
        due(0, () -> desk.rateOf(1, 0, 1, 0));
        due(0, () -> desk.rateOf(3, 0, 1, 0));
    }

    static void promise12_aRefusedCallLeavesAll() {
        goodsLeaveAll(CustomsDesk::rateOf);
    }

    static void promise13_valuesGoFromOneTo99999() {
        valuesGo(CustomsDesk::comesFrom, 0);
    }

    static void promise13_proofsGoFromZeroToTwo() {
        proofsGo(CustomsDesk::comesFrom, 0);
    }

    static void promise13_headingAndCountryMustExist() {
        goodsMustExist(CustomsDesk::comesFrom, 0, 0, 0);
    }

    static void promise13_theFirstListedIsThrown() {
        goodsFirstListed(CustomsDesk::comesFrom);
    }

    // "It comes from the heading if that has this rate"
    static void promise13_theHeadingComesBeforeAnEqualPreference() {
        CustomsDesk desk = taxed(100);
        desk.prefer(0, 0, 100, 0);
        due(0, () -> desk.comesFrom(1, 0, 1, 0));
        desk.prefer(0, 0, 99, 0);
        due(1, () -> desk.comesFrom(1, 0, 1, 0));
    }

    static void promise13_theHeadingComesBeforeAnEqualSuspension() {
        CustomsDesk desk = taxed(0);
        desk.suspend(0, 0, 0);
        due(0, () -> desk.comesFrom(1, 0, 1, 0));
        desk.rate(0, 1);
        due(2, () -> desk.comesFrom(1, 0, 1, 0));
    }

    static void promise13_withoutAnyRateItComesFromTheHeading() {
        CustomsDesk desk = small();
        desk.suspend(0, 0, 0);
        desk.prefer(0, 0, 0, 0);
        due(0, () -> desk.comesFrom(1, 0, 1, 0));
    }

    // "otherwise from a preference if one has it"
    static void promise13_aPreferenceComesBeforeAnEqualSuspension() {
        CustomsDesk desk = taxed(100);
        desk.suspend(0, 0, 0);
        desk.prefer(0, 0, 1, 0);
        due(2, () -> desk.comesFrom(1, 0, 1, 0));
        desk.prefer(0, 0, 0, 0);
        due(1, () -> desk.comesFrom(1, 0, 1, 0));
    }

    static void promise13_aPreferenceThatDoesNotHoldIsNone() {
        CustomsDesk desk = taxed(100);
        desk.suspend(1, 0, 0);
        desk.prefer(0, 0, 0, 1);
        desk.prefer(0, 1, 0, 0);
        desk.prefer(2, 0, 0, 0);
        due(2, () -> desk.comesFrom(1, 0, 1, 0));
        due(1, () -> desk.comesFrom(1, 0, 1, 1));
        due(1, () -> desk.comesFrom(1, 1, 1, 0));
        due(1, () -> desk.comesFrom(2, 0, 1, 0));
    }

    // "otherwise from a suspension"
    static void promise13_onItsFirstAndLastDayItComesFromTheSuspension() {
        CustomsDesk desk = taxed(100);
        desk.suspend(0, 1, 2);
        for (int from : new int[] {0, 2, 2, 0}) {
            due(from, () -> desk.comesFrom(1, 0, 1, 0));
            desk.pass(1);
        }
    }

    static void promise13_aRefusedCallLeavesAll() {
        goodsLeaveAll(CustomsDesk::comesFrom);
    }

    static void promise14_valuesGoFromOneTo99999() {
        valuesGo(CustomsDesk::missed, 0);
    }

    static void promise14_proofsGoFromZeroToTwo() {
        CustomsDesk desk = goodsDesk();
        for (int proof : outside(0, 2)) {
            refuses(ARGUMENT, () -> desk.missed(1, 0, 1, proof));
        }
        due(0, () -> desk.missed(1, 0, 1, 0));
        due(0, () -> desk.missed(1, 0, 1, 2));
        refuses(NO_ELEMENT, () -> desk.missed(1, 0, 1, 1));
    }

    static void promise14_headingAndCountryMustExist() {
        goodsMustExist(CustomsDesk::missed, 0, 1, 2);
    }

    static void promise14_theFirstListedIsThrown() {
        goodsFirstListed(CustomsDesk::missed);
    }

    // "Throws NoSuchElementException if there is none"
    static void promise14_withoutPreferencesThereIsNone() {
        CustomsDesk desk = taxed(500);
        refuses(NO_ELEMENT, () -> desk.missed(1, 0, 1, 0));
    }

    // "if this is less than the rate of the goods"
    static void promise14_anEqualRateDoesNotHelp() {
        CustomsDesk desk = taxed(500);
        desk.prefer(0, 0, 500, 1);
        refuses(NO_ELEMENT, () -> desk.missed(1, 0, 1, 0));
        desk.rate(0, 501);
        due(0, () -> desk.missed(1, 0, 1, 0));
        desk.prefer(0, 0, 500, 0);
        refuses(NO_ELEMENT, () -> desk.missed(1, 0, 1, 0));
    }

    // "the rate of the goods on the present day"
    static void promise14_nothingHelpsWhileSuspended() {
        CustomsDesk desk = taxed(500);
        desk.prefer(0, 0, 0, 1);
        desk.suspend(0, 1, 1);
        due(0, () -> desk.missed(1, 0, 1, 0));
        desk.pass(1);
        refuses(NO_ELEMENT, () -> desk.missed(1, 0, 1, 0));
        desk.pass(1);
        due(0, () -> desk.missed(1, 0, 1, 0));
    }

    static void promise14_nothingHelpsWithoutARate() {
        CustomsDesk desk = small();
        desk.prefer(0, 0, 0, 1);
        refuses(NO_ELEMENT, () -> desk.missed(1, 0, 1, 0));
        desk.rate(0, 1);
        due(0, () -> desk.missed(1, 0, 1, 0));
    }

    // "of several the lowest one"
    static void promise14_ofEqualsItIsTheLowest() {
        CustomsDesk desk = taxed(500);
        desk.prefer(0, 0, 101, 1);
        desk.prefer(0, 0, 100, 1);
        desk.prefer(1, 0, 100, 2);
        desk.prefer(0, 0, 100, 1);
        due(1, () -> desk.missed(1, 0, 1, 0));
        desk.drop(1);
        due(1, () -> desk.missed(1, 0, 1, 0));
        due(2, () -> desk.missed(2, 0, 1, 0));
    }

    static void promise14_theLeastRateHelpsMost() {
        CustomsDesk desk = taxed(500);
        desk.prefer(0, 0, 200, 1);
        desk.prefer(0, 0, 199, 1);
        desk.prefer(0, 0, 201, 1);
        due(1, () -> desk.missed(1, 0, 1, 0));
    }

    // "whose need their proof does not meet"
    static void promise14_aNeedThatIsMetIsNotMissed() {
        CustomsDesk desk = taxed(500);
        desk.prefer(0, 0, 100, 0);
        refuses(NO_ELEMENT, () -> desk.missed(1, 0, 1, 0));
        desk.prefer(0, 0, 90, 1);
        due(1, () -> desk.missed(1, 0, 1, 0));
        due(1, () -> desk.missed(1, 0, 1, 2));
        refuses(NO_ELEMENT, () -> desk.missed(1, 0, 1, 1));
    }

    static void promise14_aStatementMissesTheNeedTwoAboveTheLimit() {
        CustomsDesk desk = taxed(500);
        desk.prefer(0, 0, 100, 2);
        refuses(NO_ELEMENT, () -> desk.missed(1, 0, 600, 2));
        due(0, () -> desk.missed(1, 0, 601, 2));
        refuses(NO_ELEMENT, () -> desk.missed(1, 0, 99999, 1));
        due(0, () -> desk.missed(1, 0, 600, 0));
    }

    // "whose heading the goods are under and whose country is their origin"
    static void promise14_aPreferenceOfOthersDoesNotHelp() {
        CustomsDesk desk = way();
        desk.rate(0, 500);
        desk.prefer(2, 3, 100, 1);
        refuses(NO_ELEMENT, () -> desk.missed(1, 3, 1, 0));
        due(0, () -> desk.missed(2, 3, 1, 0));
        due(0, () -> desk.missed(3, 3, 1, 0));
        refuses(NO_ELEMENT, () -> desk.missed(3, 2, 1, 0));
        refuses(NO_ELEMENT, () -> desk.missed(3, 4, 1, 0));
    }

    static void promise14_aRefusedCallLeavesAll() {
        goodsLeaveAll(CustomsDesk::missed);
        leavesAll(NO_ELEMENT, Boundaries::worked, desk -> desk.missed(1, 0, 1, 0));
    }

    private static CustomsDesk threePreferences() {
        CustomsDesk desk = taxed(500);
        for (int country : upTo(3)) {
            desk.prefer(0, country, 100, 1);
        }
        return desk;
    }

    // ---- what promises 12 to 14 share

    /** Rate 100, from the heading, with a preference that only a certificate meets; heading 3 is its own. */
    private static CustomsDesk goodsDesk() {
        CustomsDesk desk = taxed(100);
        desk.rate(3, 100);
        for (int country : new int[] {0, 7}) {
            desk.prefer(0, country, 50, 1);
            desk.prefer(3, country, 50, 1);
        }
        return desk;
    }

    private static void valuesGo(Asking asking, Object answer) {
        CustomsDesk desk = goodsDesk();
        for (int value : outside(1, 99999)) {
            refuses(ARGUMENT, () -> asking.ask(desk, 1, 0, value, 0));
        }
        due(answer, () -> asking.ask(desk, 1, 0, 1, 0));
        due(answer, () -> asking.ask(desk, 1, 0, 99999, 0));
    }

    private static void proofsGo(Asking asking, Object answer) {
        CustomsDesk desk = taxed(100);
        for (int proof : outside(0, 2)) {
            refuses(ARGUMENT, () -> asking.ask(desk, 1, 0, 1, proof));
        }
        for (int proof : upTo(3)) {
            due(answer, () -> asking.ask(desk, 1, 0, 1, proof));
        }
    }

    private static void goodsMustExist(Asking asking, int ofFirst, int ofLastHeading, int ofLastCountry) {
        CustomsDesk desk = goodsDesk();
        for (int heading : outside(0, 3)) {
            refuses(INDEX, () -> asking.ask(desk, heading, 0, 1, 0));
        }
        for (int country : outside(0, 7)) {
            refuses(INDEX, () -> asking.ask(desk, 0, country, 1, 0));
        }
        due(ofFirst, () -> asking.ask(desk, 0, 0, 1, 0));
        due(ofLastHeading, () -> asking.ask(desk, 3, 0, 1, 0));
        due(ofLastCountry, () -> asking.ask(desk, 0, 7, 1, 0));
        CustomsDesk none = new CustomsDesk();
        refuses(INDEX, () -> asking.ask(none, 0, 0, 1, 0));
    }

    private static void goodsFirstListed(Asking asking) {
        CustomsDesk desk = small();
        refuses(INDEX, () -> asking.ask(desk, 4, 0, 0, 0));
        refuses(INDEX, () -> asking.ask(desk, -1, 0, 1, 3));
        refuses(INDEX, () -> asking.ask(desk, 0, 8, 0, 0));
        refuses(INDEX, () -> asking.ask(desk, 0, -1, 1, -1));
        refuses(INDEX, () -> asking.ask(desk, 0, 8, 1, 0));
        refuses(ARGUMENT, () -> asking.ask(desk, 1, 0, 0, 0));
        refuses(ARGUMENT, () -> asking.ask(desk, 1, 0, 1, 3));
    }

    private static void goodsLeaveAll(Asking asking) {
        leavesAll(INDEX, Boundaries::worked, desk -> asking.ask(desk, 4, 0, 1, 0), desk -> asking.ask(desk, 0, 8, 1, 0));
        leavesAll(ARGUMENT, Boundaries::worked, desk -> asking.ask(desk, 0, 0, 0, 0),
                desk -> asking.ask(desk, 0, 0, 1, 3));
    }
}
