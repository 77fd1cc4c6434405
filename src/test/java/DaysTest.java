/** Promises 22 to 25. */
public final class DaysTest {
    public static void main(String[] args) {
        pass();
        shares();
        duties();
        severalQuotas();
        refund();
        refundTime();
        prove();
        proveAnew();
        refusal();
        Check.end();
    }

    private static void pass() {
        CustomsDesk desk = Check.smallDesk();
        Check.fails("22: 0 days", Check.ARGUMENT, () -> desk.pass(0));
        Check.fails("22: 100 days", Check.ARGUMENT, () -> desk.pass(100));
        Check.fails("22: -1 days", Check.ARGUMENT, () -> desk.pass(-1));
        Check.fails("22: the most negative number", Check.ARGUMENT, () -> desk.pass(Integer.MIN_VALUE));
        Check.fails("22: the greatest number", Check.ARGUMENT, () -> desk.pass(Integer.MAX_VALUE));
        Check.due("22: nothing to settle", 0, () -> desk.pass(1));
        Check.declared(desk, 1, 0, 10, 1, 0, -1);
        Check.declared(desk, 2, 0, 10, 1, 0, -1);
        Check.due("22: two settled", 2, () -> desk.pass(99));
        Check.due("22: the day", 100, () -> desk.account(10));
        Check.due("22: settled but once", 0, () -> desk.pass(1));
        for (int i = 0; i < 9; i++) {
            desk.pass(99);
        }
        Check.due("22: the day", 992, () -> desk.account(10));
        Check.fails("22: beyond the last day", Check.STATE, () -> desk.pass(8));
        Check.fails("22: argument before state", Check.ARGUMENT, () -> desk.pass(100));
        Check.declared(desk, 1, 0, 10, 1, 0, -1);
        Check.due("22: to the last day", 1, () -> desk.pass(7));
        Check.due("22: the last day", 999, () -> desk.account(10));
        Check.declared(desk, 1, 0, 10, 1, 0, -1);
        Check.fails("22: the last day does not end", Check.STATE, () -> desk.pass(1));
        Check.due("22: still lodged", 0, () -> desk.declaration(3, 7));
    }

    private static void shares() {
        CustomsDesk desk = Check.smallDesk();
        desk.rate(0, 100);
        desk.quota(0, -1, 10, 50, 9);
        Check.declared(desk, 1, 0, 10, 3, 0, 0);
        Check.declared(desk, 1, 0, 10, 3, 0, -1);
        Check.declared(desk, 1, 0, 10, 3, 0, 0);
        Check.declared(desk, 3, 0, 10, 3, 0, 0);
        Check.declared(desk, 1, 0, 10, 3, 0, 0);
        Check.declared(desk, 1, 0, 10, 3, 0, 0);
        desk.pass(1);
        int[] got = {3, 0, 3, 0, 2, 2};
        int[] reasons = {0, -1, 0, 1, 0, 0};
        for (int d = 0; d < got.length; d++) {
            int at = d;
            Check.due("22: units of " + d, got[d], () -> desk.declaration(at, 8));
            Check.due("22: reason of " + d, reasons[d], () -> desk.declaration(at, 14));
        }
        Check.due("22: nothing is left", 0, () -> desk.quotaTold(0, 6));
        Check.due("22: all was got", 10, () -> desk.quotaTold(0, 7));
        Check.declared(desk, 1, 0, 10, 3, 0, 0);
        desk.pass(1);
        Check.due("22: nothing left", 5, () -> desk.declaration(6, 14));
        Check.due("22: got nothing", 0, () -> desk.declaration(6, 8));
        CustomsDesk few = Check.smallDesk();
        few.rate(0, 100);
        few.quota(0, -1, 2, 50, 9);
        Check.declared(few, 1, 0, 10, 1, 0, 0);
        Check.declared(few, 1, 0, 10, 999, 0, 0);
        Check.declared(few, 1, 0, 10, 999, 0, 0);
        few.pass(1);
        Check.due("22: the first gets what remains", 1, () -> few.declaration(0, 8));
        Check.due("22: then the next", 1, () -> few.declaration(1, 8));
        Check.due("22: then nothing remains", 0, () -> few.declaration(2, 8));
    }

    private static void duties() {
        CustomsDesk desk = Check.smallDesk();
        desk.rate(0, 1000);
        desk.quota(0, -1, 998, 999, 9);
        Check.declared(desk, 1, 0, 39996, 999, 0, 0);
        Check.due("22: settled", 1, () -> desk.pass(1));
        Check.due("22: units", 998, () -> desk.declaration(0, 8));
        Check.due("22: first part", 39915, () -> desk.declaration(0, 9));
        Check.due("22: second part", 41, () -> desk.declaration(0, 10));
        desk.suspend(0, 1, 1);
        desk.quota(0, -1, 5, 0, 9);
        Check.declared(desk, 1, 0, 100, 1, 0, 1);
        desk.pass(1);
        Check.due("22: no less rate than 0", 4, () -> desk.declaration(1, 14));
        Check.due("22: no duty", 0, () -> desk.declaration(1, 10));
        Check.due("22: from the suspension", 2, () -> desk.declaration(1, 13));
        Check.declared(desk, 1, 0, 100, 1, 0, 1);
        desk.rate(0, 7);
        desk.pass(1);
        Check.due("22: first part at rate 0", 0, () -> desk.declaration(2, 9));
        Check.due("22: all in the quota", 0, () -> desk.declaration(2, 10));
        Check.due("22: the rate as it was when the day ended", 7, () -> desk.declaration(2, 12));
        desk.quota(0, -1, 1, 5, 9);
        Check.declared(desk, 1, 0, 1000, 1, 0, 2);
        desk.pass(1);
        Check.due("22: one unit", 1, () -> desk.declaration(3, 8));
        Check.due("22: first part of one unit", 5, () -> desk.declaration(3, 9));
        Check.due("22: second part of one unit", 0, () -> desk.declaration(3, 10));
    }

    private static void severalQuotas() {
        CustomsDesk desk = Check.smallDesk();
        desk.rate(0, 100);
        desk.rate(3, 100);
        for (int quota = 0; quota < 6; quota++) {
            desk.quota(quota % 2 == 0 ? 0 : 3, -1, 4 + quota, 50, 0);
        }
        for (int d = 0; d < 12; d++) {
            Check.declared(desk, d % 2 == 0 ? 1 : 3, d % 8, 50 + d, 1 + d, 0, d % 6);
        }
        desk.pass(2);
        int[] got = {1, 1, 2, 2, 3, 3, 3, 4, 4, 5, 5, 6};
        for (int d = 0; d < 12; d++) {
            int at = d;
            Check.due("22: units of " + d, got[d], () -> desk.declaration(at, 8));
        }
    }

    private static void refund() {
        CustomsDesk desk = Check.smallDesk();
        desk.rate(0, 100);
        desk.quota(0, -1, 10, 50, 1);
        Check.declared(desk, 1, 2, 1000, 4, 0, 0);
        Check.declared(desk, 1, 2, 1000, 4, 0, 0);
        Check.declared(desk, 1, 2, 1000, 4, 0, -1);
        Check.fails("23: declaration 3", Check.INDEX, () -> desk.refund(3));
        Check.fails("23: declaration -1", Check.INDEX, () -> desk.refund(-1));
        Check.fails("23: lodged", Check.UNSUPPORTED, () -> desk.refund(0));
        desk.pass(1);
        Check.due("23: the last day of the quota", 50, () -> desk.refund(0));
        Check.due("23: units are left again", 6, () -> desk.quotaTold(0, 6));
        Check.due("23: none are lost", 0, () -> desk.quotaTold(0, 8));
        Check.due("23: status", 2, () -> desk.declaration(0, 7));
        Check.due("23: given back", 50, () -> desk.declaration(0, 11));
        Check.fails("23: again", Check.UNSUPPORTED, () -> desk.refund(0));
        Check.due("23: nothing changes then", 50, () -> desk.account(9));
        desk.pass(1);
        Check.due("23: behind the last day of the quota", 50, () -> desk.refund(1));
        Check.due("23: units are not left", 6, () -> desk.quotaTold(0, 6));
        Check.due("23: they are lost", 4, () -> desk.quotaTold(0, 8));
        Check.due("23: without a quota", 100, () -> desk.refund(2));
        Check.due("23: nothing is kept", 0, () -> desk.kept(2));
        Check.due("23: refunded", 3, () -> desk.account(7));
    }

    private static void refundTime() {
        CustomsDesk desk = Check.smallDesk();
        desk.rate(0, 100);
        Check.declared(desk, 1, 0, 1000, 1, 0, -1);
        Check.declared(desk, 1, 0, 1000, 1, 0, -1);
        desk.pass(30);
        Check.due("23: on the last day for it", 100, () -> desk.refund(0));
        desk.pass(1);
        Check.fails("23: too late", Check.UNSUPPORTED, () -> desk.refund(1));
        Check.due("23: the reason", 3, desk::refusal);
        Check.fails("23: refunded before too late", Check.UNSUPPORTED, () -> desk.refund(0));
        Check.due("23: the reason", 2, desk::refusal);
        Check.fails("24: too late", Check.UNSUPPORTED, () -> desk.prove(1, 1));
        Check.due("24: the reason", 3, desk::refusal);
        desk.set(1, 31);
        Check.due("23: by the setting of now", 100, () -> desk.refund(1));
        Check.declared(desk, 1, 0, 1000, 1, 0, -1);
        desk.pass(31);
        Check.due("23: since its day, not since the first", 100, () -> desk.refund(2));
        desk.set(1, 0);
        Check.declared(desk, 1, 0, 1000, 1, 0, -1);
        Check.fails("23: lodged before too late", Check.UNSUPPORTED, () -> desk.refund(3));
        Check.due("23: the reason", 1, desk::refusal);
        desk.pass(1);
        Check.fails("23: with time 0", Check.UNSUPPORTED, () -> desk.refund(3));
    }

    private static void prove() {
        CustomsDesk desk = Check.smallDesk();
        desk.rate(0, 100);
        desk.prefer(0, 2, 40, 1);
        desk.prefer(0, 2, 60, 2);
        Check.declared(desk, 1, 2, 600, 1, 0, -1);
        Check.declared(desk, 1, 2, 601, 1, 1, -1);
        Check.fails("24: declaration 2", Check.INDEX, () -> desk.prove(2, 0));
        Check.fails("24: proof 0", Check.ARGUMENT, () -> desk.prove(0, 0));
        Check.fails("24: proof 3", Check.ARGUMENT, () -> desk.prove(0, 3));
        Check.fails("24: lodged", Check.UNSUPPORTED, () -> desk.prove(0, 1));
        Check.due("24: the reason", 1, desk::refusal);
        desk.pass(1);
        Check.due("24: a statement", 24, () -> desk.prove(0, 2));
        Check.due("24: second part", 36, () -> desk.declaration(0, 10));
        Check.due("24: the rate", 60, () -> desk.declaration(0, 12));
        Check.due("24: from a preference", 1, () -> desk.declaration(0, 13));
        Check.due("24: a certificate", 12, () -> desk.prove(0, 1));
        Check.due("24: given back in all", 36, () -> desk.declaration(0, 11));
        Check.due("24: found at the end of the day", 84, () -> desk.account(8));
        Check.due("24: given back", 36, () -> desk.account(9));
        Check.due("24: a worse proof", 0, () -> desk.prove(1, 2));
        Check.due("24: takes the place all the same", 2, () -> desk.declaration(1, 4));
        Check.due("24: the rate stays", 40, () -> desk.declaration(1, 12));
        Check.due("24: the second part stays", 24, () -> desk.declaration(1, 10));
        Check.due("24: what it comes from stays", 1, () -> desk.declaration(1, 13));
        Check.due("24: a refund of the rest", 24, () -> desk.refund(0));
        Check.due("24: given back in all", 60, () -> desk.declaration(0, 11));
        Check.fails("24: refunded", Check.UNSUPPORTED, () -> desk.prove(0, 1));
        Check.due("24: the reason", 2, desk::refusal);
        Check.fails("24: argument before refusal", Check.ARGUMENT, () -> desk.prove(0, 0));
    }

    private static void proveAnew() {
        CustomsDesk desk = Check.smallDesk();
        desk.rate(0, 100);
        desk.quota(0, -1, 3, 10, 9);
        Check.declared(desk, 1, 2, 1000, 4, 1, 0);
        Check.declared(desk, 1, 2, 9, 4, 1, -1);
        desk.pass(2);
        Check.due("24: first part", 7, () -> desk.declaration(0, 9));
        Check.due("24: second part", 25, () -> desk.declaration(0, 10));
        desk.suspend(0, 1, 9);
        Check.due("24: for the day of the declaration", 0, () -> desk.prove(0, 1));
        desk.rate(0, 80);
        Check.due("24: by the headings of now", 5, () -> desk.prove(0, 1));
        Check.due("24: what was got stays", 3, () -> desk.declaration(0, 8));
        Check.due("24: the first part stays", 7, () -> desk.declaration(0, 9));
        Check.due("24: from the heading", 0, () -> desk.declaration(0, 13));
        desk.suspend(0, 0, 0);
        Check.due("24: by the suspensions of now", 20, () -> desk.prove(0, 2));
        Check.due("24: from the suspension", 2, () -> desk.declaration(0, 13));
        Check.due("24: the rate", 0, () -> desk.declaration(0, 12));
        Check.due("24: an equal second part", 0, () -> desk.prove(1, 2));
        Check.due("24: so the rate stays", 100, () -> desk.declaration(1, 12));
        Check.due("24: and what it comes from", 0, () -> desk.declaration(1, 13));
        Check.due("24: but not the proof", 2, () -> desk.declaration(1, 4));
        Check.due("24: the units in the quota", 3, () -> desk.quotaTold(0, 7));
        desk.pass(9);
        Check.declared(desk, 1, 2, 100, 1, 0, -1);
        desk.pass(1);
        desk.rate(0, 79);
        Check.due("24: one cent", 1, () -> desk.prove(2, 1));
    }

    private static void refusal() {
        CustomsDesk desk = Check.smallDesk();
        desk.rate(0, 100);
        Check.declared(desk, 1, 0, 1000, 1, 0, -1);
        Check.fails("25: none yet", Check.NO_ELEMENT, desk::refusal);
        Check.fails("25: no such declaration is no refusal", Check.INDEX, () -> desk.refund(1));
        Check.fails("25: a wrong proof is no refusal", Check.ARGUMENT, () -> desk.prove(0, 3));
        Check.fails("25: none yet", Check.NO_ELEMENT, desk::refusal);
        Check.fails("25: lodged", Check.UNSUPPORTED, () -> desk.prove(0, 1));
        Check.due("25: lodged", 1, desk::refusal);
        desk.save();
        desk.pass(1);
        desk.refund(0);
        Check.due("25: it stays", 1, desk::refusal);
        Check.fails("25: refunded", Check.UNSUPPORTED, () -> desk.refund(0));
        desk.undo();
        Check.due("25: undo leaves it", 2, desk::refusal);
        desk.restore();
        Check.due("25: restore leaves it", 2, desk::refusal);
    }
}
