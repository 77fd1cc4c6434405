/** Promises 26 to 31. */
public final class AccountsTest {
    public static void main(String[] args) {
        CustomsDesk desk = busyDesk();
        accounts(desk);
        kept(desk);
        keptUnder(desk);
        shares(desk);
        nothingFound();
        Check.end();
    }

    /** Declaration 0 is refunded, 1 settled and proved, 2 settled, 3 settled without duty, 4 lodged. */
    private static CustomsDesk busyDesk() {
        CustomsDesk desk = Check.smallDesk();
        desk.rate(0, 100);
        desk.prefer(0, 2, 50, 1);
        desk.prefer(0, 3, 50, 1);
        desk.prefer(0, 4, 50, 1);
        desk.suspend(3, 0, 999);
        desk.suspend(3, 0, 999);
        desk.quota(0, -1, 3, 10, 99);
        Check.declared(desk, 1, 2, 1000, 1, 0, -1);
        Check.declared(desk, 2, 2, 2000, 2, 0, -1);
        desk.pass(10);
        Check.declared(desk, 1, 5, 3000, 6, 0, 0);
        Check.declared(desk, 3, 5, 4000, 4, 0, -1);
        desk.pass(1);
        Check.declared(desk, 1, 5, 5000, 5, 0, -1);
        desk.refund(0);
        desk.prove(1, 1);
        desk.part(0, 1);
        desk.part(0, 1);
        desk.part(0, 1);
        return desk;
    }

    private static void accounts(CustomsDesk desk) {
        int[] due = {4, 3, 2, 1, 5, 1, 3, 1, 465, 200, 11, 3};
        for (int what = 0; what < due.length; what++) {
            int w = what;
            Check.due("26: account " + what, due[what], () -> desk.account(w));
        }
        Check.fails("26: account 12", Check.ARGUMENT, () -> desk.account(12));
        Check.fails("26: account -1", Check.ARGUMENT, () -> desk.account(-1));
    }

    private static void kept(CustomsDesk desk) {
        int[] due = {0, 0, 100, 0, 0, 165, 0, 0};
        for (int country = 0; country < 8; country++) {
            int c = country;
            Check.due("27: kept for " + country, due[country], () -> desk.kept(c));
            Check.due("28: kept again for " + country, due[country], () -> desk.keptAgain(c));
        }
        Check.fails("27: country 8", Check.INDEX, () -> desk.kept(8));
        Check.fails("27: country -1", Check.INDEX, () -> desk.kept(-1));
        Check.fails("28: country 8", Check.INDEX, () -> desk.keptAgain(8));
        Check.fails("28: country -1", Check.INDEX, () -> desk.keptAgain(-1));
    }

    private static void keptUnder(CustomsDesk desk) {
        int[] due = {265, 165, 100, 0};
        for (int heading = 0; heading < 4; heading++) {
            int h = heading;
            Check.due("29: kept under " + heading, due[heading], () -> desk.keptUnder(h));
        }
        Check.fails("29: heading 4", Check.INDEX, () -> desk.keptUnder(4));
        Check.fails("29: heading -1", Check.INDEX, () -> desk.keptUnder(-1));
    }

    private static void shares(CustomsDesk desk) {
        Check.due("30: the share", 200.0 / 465.0, desk::givenBack);
        Check.due("31: the mean rate", 265.0f / 10000.0f, desk::meanRate);
        CustomsDesk one = Check.smallDesk();
        one.rate(0, 333);
        Check.declared(one, 1, 2, 10, 1, 0, -1);
        one.pass(1);
        Check.due("30: nothing given back", 0.0, one::givenBack);
        Check.due("31: one declaration", 3.0f / 10.0f, one::meanRate);
        Check.due("27: kept", 3, () -> one.kept(2));
        Check.due("28: kept again", 3, () -> one.keptAgain(2));
        Check.due("29: kept under", 3, () -> one.keptUnder(0));
        one.refund(0);
        Check.due("30: all given back", 1.0, one::givenBack);
        Check.due("31: refunded ones count", 0.0f, one::meanRate);
    }

    private static void nothingFound() {
        CustomsDesk desk = Check.smallDesk();
        Check.fails("30: no declarations", Check.ARITHMETIC, desk::givenBack);
        Check.fails("31: no declarations", Check.ARITHMETIC, desk::meanRate);
        Check.declared(desk, 1, 2, 10, 1, 0, -1);
        Check.fails("31: only a lodged one", Check.ARITHMETIC, desk::meanRate);
        desk.pass(1);
        Check.fails("30: a duty of 0", Check.ARITHMETIC, desk::givenBack);
        Check.due("31: a duty of 0", 0.0f, desk::meanRate);
    }
}
