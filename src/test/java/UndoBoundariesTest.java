/** The boundaries of promises 35 to 38, a test for each sentence that names one. */
public final class UndoBoundariesTest extends Boundaries {
    public static void main(String[] args) {
        runAll(UndoBoundariesTest.class);
    }

    static void promise35_aNewDeskHasNone() {
        CustomsDesk desk = new CustomsDesk();
        due(0, desk::changes);
    }

    // "The 8 latest ones that have not been taken back can be taken back"
    static void promise35_eightAreTheMost() {
        CustomsDesk desk = new CustomsDesk();
        for (int made : upTo(20)) {
            desk.set(0, 31 + made);
            due(Math.min(8, made + 1), desk::changes);
        }
    }

    // "The changes are the calls of heading, rate, prefer, drop, suspend, quota, set, part, forget, declare, pass,
    // refund, prove, lodge and restore that throw no exception"
    static void promise35_headingIsAChange() {
        isAChange(desk -> desk.heading(-1, 9));
    }

    static void promise35_rateIsAChange() {
        isAChange(desk -> desk.rate(1, 3));
    }

    static void promise35_preferIsAChange() {
        isAChange(desk -> desk.prefer(0, 1, 4, 0));
    }

    static void promise35_dropIsAChange() {
        isAChange(desk -> desk.drop(0));
    }

    static void promise35_suspendIsAChange() {
        isAChange(desk -> desk.suspend(0, 2, 9));
    }

    static void promise35_quotaIsAChange() {
        isAChange(desk -> desk.quota(3, 1, 5, 5, 5));
    }

    static void promise35_setIsAChange() {
        isAChange(desk -> desk.set(0, 99));
        isAChange(desk -> desk.set(1, 98));
        isAChange(desk -> desk.set(2, 97));
    }

    static void promise35_partIsAChange() {
        isAChange(desk -> desk.part(1, 1));
    }

    static void promise35_forgetIsAChange() {
        isAChange(CustomsDesk::forget);
    }

    static void promise35_declareIsAChange() {
        isAChange(desk -> desk.declare(1, 3, 0, 0));
    }

    static void promise35_passIsAChange() {
        isAChange(desk -> desk.pass(9));
    }

    static void promise35_refundIsAChange() {
        isAChange(desk -> desk.refund(1));
    }

    static void promise35_proveIsAChange() {
        isAChange(desk -> desk.prove(1, 1));
    }

    static void promise35_lodgeIsAChange() {
        isAChange(desk -> lodges(desk, "x1@0:1;12x1@0:1"));
    }

    static void promise35_restoreIsAChange() {
        isAChange(CustomsDesk::restore);
    }

    /** The desk is another one afterwards, has a change more, and is the one before when that is taken back. */
    private static void isAChange(Use call) {
        Make before = Boundaries::workedWithFiveChanges;
        Make after = () -> used(workedWithFiveChanges(), call);
        due(5, () -> before.make().changes());
        due(6, () -> after.make().changes());
        unlike(before, after);
        due(5, () -> after.make().undo());
        Make takenBack = () -> {
            CustomsDesk desk = after.make();
            desk.undo();
            return desk;
        };
        alike(before, takenBack);
        alike(() -> restored(before.make()), () -> restored(takenBack.make()));
    }

    // "also if nothing is different then"
    static void promise35_whatChangesNothingIsAChange() {
        Use[] calls = {desk -> desk.rate(1, -1), desk -> desk.set(0, 50), desk -> desk.prove(2, 2),
            desk -> desk.prove(2, 2)};
        CustomsDesk desk = workedWithFiveChanges();
        desk.undo();
        desk.undo();
        desk.undo();
        for (int made : upTo(calls.length)) {
            calls[made].on(desk);
            due(3 + made, desk::changes);
        }
        CustomsDesk empty = new CustomsDesk();
        empty.forget();
        due(1, empty::changes);
        empty.forget();
        due(2, empty::changes);
        empty.save();
        empty.restore();
        due(3, empty::changes);
        empty.restore();
        due(4, empty::changes);
    }

    // "that throw no exception"
    static void promise35_whatIsRefusedIsNoChange() {
        Use[] calls = {desk -> desk.heading(9, 1), desk -> desk.rate(9, 1), desk -> desk.prefer(0, 8, 1, 0),
            desk -> desk.drop(9), desk -> desk.suspend(0, 9, 8), desk -> desk.quota(0, 9, 1, 1, 9),
            desk -> desk.set(3, 3), desk -> desk.part(0, 0), desk -> desk.declare(0, 1, 0, -1), desk -> desk.pass(0),
            desk -> desk.refund(0), desk -> desk.prove(0, 1), CustomsDesk::lodge};
        CustomsDesk desk = workedWithFiveChanges();
        for (Use call : calls) {
            Check.answer(() -> call.on(desk));
            due(5, desk::changes);
        }
        CustomsDesk empty = new CustomsDesk();
        refuses(STATE, empty::restore);
        due(0, empty::changes);
    }

    static void promise35_otherCallsAreNoChanges() {
        Use[] calls = {desk -> desk.told(0, 0), desk -> desk.find(1), desk -> desk.quotaTold(0, 0),
            desk -> desk.rateOf(0, 0, 1, 0), desk -> desk.comesFrom(0, 0, 1, 0), desk -> desk.missed(1, 1, 1, 0),
            CustomsDesk::origin, desk -> desk.declaration(0, 0), desk -> desk.claim(3), desk -> desk.leftThen(0),
            CustomsDesk::refusal, desk -> desk.account(0), desk -> desk.kept(0), desk -> desk.keptAgain(0),
            desk -> desk.keptUnder(0), CustomsDesk::givenBack, CustomsDesk::meanRate, desk -> desk.append('1'),
            CustomsDesk::errorPosition, CustomsDesk::changes, CustomsDesk::save};
        CustomsDesk desk = workedWithFiveChanges();
        for (Use call : calls) {
            due(true, () -> call.on(desk) instanceof Number);
            due(5, desk::changes);
        }
    }

    // "Throws IllegalStateException if there is none"
    static void promise36_withoutChangesThereIsNone() {
        CustomsDesk desk = new CustomsDesk();
        refuses(STATE, desk::undo);
        desk.heading(-1, 1);
        due(0, desk::undo);
        refuses(STATE, desk::undo);
        due(0, () -> desk.account(0));
    }

    // "The 8 latest ones ... can be taken back, the latest one first; older ones are forgotten": and so again when the
    // places that they are kept in begin anew
    static void promise36_theEightLatestComeBackAndNoMore() {
        for (int number : upTo(27)) {
            CustomsDesk desk = new CustomsDesk();
            for (int made : upTo(number)) {
                desk.set(1, made + 1);
            }
            for (int left = Math.min(8, number) - 1; left >= 0; left--) {
                int still = left;
                due(still, desk::undo);
                due(still, desk::changes);
            }
            refuses(STATE, desk::undo);
            due(number <= 8 ? 30 : number - 8, () -> desk.set(1, 0));
        }
    }

    static void promise36_theLatestComesBackFirst() {
        CustomsDesk desk = new CustomsDesk();
        for (int value = 31; value <= 43; value++) {
            desk.set(0, value);
        }
        for (int value = 42; value >= 35; value--) {
            int before = value;
            desk.undo();
            due(before, () -> desk.set(0, before));
            desk.undo();
        }
    }

    // "that have not been taken back"
    static void promise36_newChangesFollowThoseThatWereNotTakenBack() {
        CustomsDesk desk = new CustomsDesk();
        for (int value = 31; value <= 40; value++) {
            desk.set(0, value);
        }
        desk.undo();
        desk.undo();
        desk.undo();
        desk.set(0, 61);
        desk.set(0, 62);
        due(7, desk::changes);
        for (int left = 6; left >= 0; left--) {
            int still = left;
            due(still, desk::undo);
        }
        refuses(STATE, desk::undo);
        due(32, () -> desk.set(0, 32));
    }

    static void promise36_whatWasForgottenDoesNotComeBack() {
        CustomsDesk desk = new CustomsDesk();
        for (int value = 31; value <= 40; value++) {
            desk.set(0, value);
        }
        for (int i = 0; i < 8; i++) {
            desk.undo();
        }
        desk.set(0, 70);
        due(0, desk::undo);
        refuses(STATE, desk::undo);
        due(32, () -> desk.set(0, 32));
    }

    static void promise36_untilTheLastOf512Calls() {
        CustomsDesk desk = new CustomsDesk();
        for (int call : upTo(502)) {
            desk.set(2, call);
        }
        for (int left = 7; left >= 0; left--) {
            int still = left;
            due(still, desk::undo);
        }
        refuses(STATE, desk::undo);
        due(493, () -> desk.set(2, 0));
    }

    static void promise36_eachOfEightStepsComesBack() {
        for (int back : upTo(9)) {
            CustomsDesk before = steps(8 - back);
            CustomsDesk desk = steps(8);
            for (int i = 0; i < back; i++) {
                desk.undo();
            }
            for (int what : upTo(12)) {
                due(before.account(what), () -> desk.account(what));
            }
            for (int country : upTo(8)) {
                due(before.kept(country), () -> desk.kept(country));
            }
            for (int what : upTo(9)) {
                due(before.quotaTold(0, what), () -> desk.quotaTold(0, what));
            }
            for (int what : upTo(15)) {
                due(before.declaration(0, what), () -> desk.declaration(0, what));
                due(before.declaration(1, what), () -> desk.declaration(1, what));
            }
        }
    }

    // "The buffer, the error position, the reason of a refusal and what is saved stay then"
    static void promise36_theBufferStays() {
        CustomsDesk desk = small();
        desk.append('1');
        desk.heading(-1, 9);
        desk.append('1');
        desk.undo();
        due(3, () -> desk.append('x'));
        Check.write(desk, "1@0:1");
        due(1, desk::lodge);
        desk.append('1');
        desk.undo();
        due(2, () -> desk.append('1'));
    }

    static void promise36_theErrorPositionStays() {
        CustomsDesk desk = small();
        refuses(ARGUMENT, () -> lodges(desk, "1x"));
        desk.undo();
        due(2, desk::errorPosition);
    }

    static void promise36_theReasonOfARefusalStays() {
        CustomsDesk desk = taxed(100);
        claims(desk, 1, 1, -1);
        refuses(UNSUPPORTED, () -> desk.refund(0));
        desk.undo();
        desk.undo();
        due(1, desk::refusal);
    }

    static void promise36_whatIsSavedStays() {
        CustomsDesk desk = small();
        desk.set(0, 77);
        desk.save();
        desk.undo();
        due(50, () -> desk.set(0, 60));
        desk.restore();
        due(77, () -> desk.set(0, 50));
    }

    static void promise36_aRefusedCallLeavesAll() {
        leavesAll(STATE, () -> {
            CustomsDesk desk = worked();
            for (int value = 31; value <= 38; value++) {
                desk.set(0, value);
            }
            for (int i = 0; i < 8; i++) {
                desk.undo();
            }
            return desk;
        }, CustomsDesk::undo);
    }

    // "Returns the number of declarations": none, and all that there can be
    static void promise37_noneOrThirtyAreSaved() {
        CustomsDesk desk = small();
        due(0, desk::save);
        for (int i = 0; i < 30; i++) {
            claims(desk, 1, 1, -1);
        }
        due(30, desk::save);
        desk.undo();
        due(30, desk::restore);
    }

    static void promise37_lodgedSettledAndRefundedOnesCount() {
        CustomsDesk desk = worked();
        due(4, () -> desk.account(4));
        due(4, desk::save);
    }

    static void promise37_anEmptyDeskCanBeSaved() {
        CustomsDesk desk = new CustomsDesk();
        due(0, desk::save);
        desk.heading(-1, 1);
        due(0, desk::restore);
        due(0, () -> desk.account(0));
    }

    static void promise37_aFullDeskCanBeSaved() {
        alike(Boundaries::full, () -> {
            CustomsDesk desk = full();
            desk.save();
            return desk;
        });
        CustomsDesk desk = full();
        due(30, desk::save);
        desk.forget();
        desk.drop(9);
        desk.pass(99);
        due(30, desk::restore);
        int[] accounts = {20, 10, 6, 6, 30, 10, 19, 1};
        for (int what : upTo(8)) {
            due(accounts[what], () -> desk.account(what));
        }
        due(4, () -> desk.account(11));
    }

    // "in place of what was saved before"
    static void promise37_theLatestIsSaved() {
        CustomsDesk desk = small();
        desk.set(0, 60);
        desk.save();
        desk.set(0, 70);
        desk.save();
        desk.set(0, 80);
        desk.restore();
        due(70, () -> desk.set(0, 90));
        desk.restore();
        due(70, () -> desk.set(0, 90));
    }

    // "everything apart from the buffer, the error position, the reason of a refusal and the changes"
    static void promise37_bufferPositionReasonAndChangesAreNotSaved() {
        CustomsDesk desk = taxed(100);
        claims(desk, 1, 1, -1);
        Check.write(desk, "11");
        desk.save();
        due(7, desk::changes);
        refuses(UNSUPPORTED, () -> desk.refund(0));
        refuses(ARGUMENT, desk::lodge);
        desk.append('1');
        desk.undo();
        desk.undo();
        desk.restore();
        due(2, () -> desk.append('1'));
        due(2, desk::errorPosition);
        due(1, desk::refusal);
        due(6, desk::changes);
    }

    // "Throws IllegalStateException if nothing was saved"
    static void promise38_whatWasNotSavedIsNotRestored() {
        CustomsDesk desk = small();
        refuses(STATE, desk::restore);
        due(4, () -> desk.account(0));
        due(4, desk::changes);
        desk.save();
        due(0, desk::restore);
    }

    // "which stays saved"
    static void promise38_whatIsSavedStaysSaved() {
        CustomsDesk desk = small();
        desk.save();
        for (int i = 0; i < 10; i++) {
            claims(desk, 1, 1, -1);
            due(1, () -> desk.account(4));
            due(0, desk::restore);
            due(0, () -> desk.account(4));
        }
    }

    static void promise38_allIsAsItWasSaved() {
        for (Use later : new Use[] {desk -> desk.heading(-1, 9), desk -> desk.rate(0, 1), desk -> desk.drop(0),
            desk -> desk.suspend(0, 0, 9), desk -> desk.quota(0, 0, 1, 0, 9), desk -> desk.set(0, 99),
            desk -> desk.set(1, 1), desk -> desk.set(2, 2), desk -> desk.part(1, 1), CustomsDesk::forget,
            desk -> desk.declare(1, 1, 0, 0), desk -> desk.pass(50), desk -> desk.refund(1),
            desk -> desk.prove(1, 1)}) {
            alike(() -> {
                CustomsDesk desk = worked();
                desk.save();
                desk.rate(0, -1);
                desk.restore();
                return desk;
            }, () -> {
                CustomsDesk desk = worked();
                desk.save();
                later.on(desk);
                desk.restore();
                return desk;
            });
        }
    }

    // a restored desk goes on from what was saved, and what is restored does not change what is saved
    static void promise38_whatIsDoneThenDoesNotChangeWhatIsSaved() {
        CustomsDesk desk = taxed(100);
        desk.quota(0, -1, 10, 50, 9);
        claims(desk, 1, 4, 0);
        desk.save();
        for (int i = 0; i < 3; i++) {
            due(1, desk::restore);
            due(0, () -> desk.account(10));
            due(1, () -> desk.pass(1));
            due(6, () -> desk.quotaTold(0, 6));
        }
    }

    static void promise38_itIsAChangeThatCanBeTakenBack() {
        CustomsDesk desk = small();
        desk.save();
        desk.set(0, 77);
        due(5, desk::changes);
        desk.restore();
        due(6, desk::changes);
        due(5, desk::undo);
        due(77, () -> desk.set(0, 77));
    }

    static void promise38_afterEightChangesItIsTheEighth() {
        CustomsDesk desk = new CustomsDesk();
        desk.save();
        for (int value = 31; value <= 40; value++) {
            desk.set(0, value);
        }
        desk.restore();
        due(8, desk::changes);
        for (int i = 0; i < 8; i++) {
            desk.undo();
        }
        due(33, () -> desk.set(0, 50));
    }

    static void promise38_aRefusedCallLeavesAll() {
        leavesAll(STATE, () -> {
            CustomsDesk desk = taxed(100);
            desk.prefer(0, 0, 10, 1);
            claims(desk, 1, 1, -1);
            desk.pass(1);
            claims(desk, 1, 1, -1);
            desk.part(2, 5);
            Check.answer(() -> desk.refund(1));
            Check.answer(() -> lodges(desk, "1"));
            desk.append('1');
            return desk;
        }, CustomsDesk::restore);
    }

    private static CustomsDesk used(CustomsDesk desk, Use call) {
        call.on(desk);
        return desk;
    }

    private static CustomsDesk restored(CustomsDesk desk) {
        desk.restore();
        return desk;
    }

    /** The first of eight changes of many kinds. */
    private static CustomsDesk steps(int number) {
        CustomsDesk desk = taxed(200);
        desk.quota(0, -1, 9, 20, 1);
        goods(desk, 1, 1, 1000, 10, 0, 0);
        goods(desk, 2, 1, 1000, 10, 0, 0);
        Use[] changes = {d -> d.prefer(0, 1, 100, 1), d -> d.pass(1), d -> d.prove(0, 1), d -> d.refund(0),
            d -> d.part(3, 5), d -> d.declare(2, 1, 0, 0), d -> d.pass(1), d -> d.refund(1)};
        for (int step : upTo(number)) {
            changes[step].on(desk);
        }
        return desk;
    }
}
