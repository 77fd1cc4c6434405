/** Promises 1 to 5. */
public final class HeadingsTest {
    public static void main(String[] args) {
        newDesk();
        headings();
        rates();
        told();
        find();
        Check.end();
    }

    private static void newDesk() {
        CustomsDesk desk = new CustomsDesk();
        for (int what = 0; what <= 11; what++) {
            int account = what;
            Check.due("1: account " + what + " of a new desk", 0, () -> desk.account(account));
        }
        for (int country = 0; country < 8; country++) {
            int c = country;
            Check.due("1: kept", 0, () -> desk.kept(c));
            Check.due("1: keptAgain", 0, () -> desk.keptAgain(c));
        }
        Check.due("1: changes", 0, desk::changes);
        Check.fails("1: undo", Check.STATE, desk::undo);
        Check.fails("1: restore", Check.STATE, desk::restore);
        Check.fails("1: refusal", Check.NO_ELEMENT, desk::refusal);
        Check.fails("1: errorPosition", Check.NO_ELEMENT, desk::errorPosition);
        Check.fails("1: find", Check.NO_ELEMENT, () -> desk.find(1));
        Check.due("1: threshold", 50, () -> desk.set(0, 50));
        Check.due("1: time for refunds", 30, () -> desk.set(1, 30));
        Check.due("1: limit for statements", 600, () -> desk.set(2, 600));
        CustomsDesk other = new CustomsDesk();
        Check.due("1: a desk of its own", 50, () -> other.set(0, 60));
        Check.due("1: a desk of its own", 50, () -> desk.set(0, 50));
    }

    private static void headings() {
        CustomsDesk desk = new CustomsDesk();
        Check.fails("2: no parent yet", Check.INDEX, () -> desk.heading(0, 1));
        Check.fails("2: parent below -1", Check.INDEX, () -> desk.heading(-2, 0));
        Check.fails("2: digit 0", Check.ARGUMENT, () -> desk.heading(-1, 0));
        Check.fails("2: digit 10", Check.ARGUMENT, () -> desk.heading(-1, 10));
        Check.due("2: first", 0, () -> desk.heading(-1, 1));
        Check.fails("2: taken at the top", Check.ARGUMENT, () -> desk.heading(-1, 1));
        Check.due("2: below", 1, () -> desk.heading(0, 1));
        Check.fails("2: taken below", Check.ARGUMENT, () -> desk.heading(0, 1));
        Check.due("2: third level", 2, () -> desk.heading(1, 1));
        Check.due("2: fourth level", 3, () -> desk.heading(2, 9));
        Check.fails("2: fifth level", Check.STATE, () -> desk.heading(3, 1));
        Check.fails("2: digit before level", Check.ARGUMENT, () -> desk.heading(3, 0));
        Check.due("2: no change by what fails", 4, desk::changes);
        Check.due("2: has no rate of its own", -1, () -> desk.told(3, 2));
        for (int digit = 2; digit <= 9; digit++) {
            desk.heading(-1, digit);
            desk.heading(0, digit);
        }
        Check.due("2: twenty", 20, () -> desk.account(0));
        Check.fails("2: twenty-first", Check.STATE, () -> desk.heading(1, 2));
        Check.fails("2: digit before number", Check.ARGUMENT, () -> desk.heading(1, 1));
        Check.fails("2: parent before number", Check.INDEX, () -> desk.heading(20, 1));
        Check.due("2: still twenty", 20, () -> desk.account(0));
    }

    private static void rates() {
        CustomsDesk desk = Check.smallDesk();
        Check.fails("3: heading -1", Check.INDEX, () -> desk.rate(-1, 5));
        Check.fails("3: heading 4", Check.INDEX, () -> desk.rate(4, 1001));
        Check.fails("3: rate -2", Check.ARGUMENT, () -> desk.rate(0, -2));
        Check.fails("3: rate 1001", Check.ARGUMENT, () -> desk.rate(0, 1001));
        Check.due("3: before, none", -1, () -> desk.rate(0, 1000));
        Check.due("3: before, 1000", 1000, () -> desk.rate(0, 0));
        Check.due("3: before, 0", 0, () -> desk.rate(0, -1));
        Check.due("3: none again", -1, () -> desk.rate(0, -1));
        Check.due("3: each counts as a change", 8, desk::changes);
    }

    private static void told() {
        CustomsDesk desk = new CustomsDesk();
        desk.heading(-1, 7);
        desk.heading(0, 3);
        desk.heading(1, 9);
        desk.heading(2, 1);
        desk.heading(1, 4);
        int[] last = {2, 1, -1, 0, 0, 4, 7391};
        int[] middle = {0, 3, -1, 0, 2, 2, 73};
        int[] top = {-1, 7, -1, 0, 1, 1, 7};
        for (int what = 0; what <= 6; what++) {
            int w = what;
            Check.due("4: heading 3, " + what, last[what], () -> desk.told(3, w));
            Check.due("4: heading 1, " + what, middle[what], () -> desk.told(1, w));
            Check.due("4: heading 0, " + what, top[what], () -> desk.told(0, w));
        }
        desk.rate(0, 120);
        desk.rate(2, 0);
        Check.due("4: rate from the top", 120, () -> desk.told(1, 3));
        Check.due("4: rate 0 of its own is a rate", 0, () -> desk.told(3, 3));
        Check.due("4: own rate", 0, () -> desk.told(2, 2));
        Check.due("4: no own rate", -1, () -> desk.told(3, 2));
        desk.rate(2, -1);
        Check.due("4: rate from the top again", 120, () -> desk.told(3, 3));
        Check.fails("4: heading 5", Check.INDEX, () -> desk.told(5, 7));
        Check.fails("4: heading -1", Check.INDEX, () -> desk.told(-1, 0));
        Check.fails("4: what 7", Check.ARGUMENT, () -> desk.told(0, 7));
        Check.fails("4: what -1", Check.ARGUMENT, () -> desk.told(0, -1));
    }

    private static void find() {
        CustomsDesk desk = Check.smallDesk();
        Check.due("5: 1", 0, () -> desk.find(1));
        Check.due("5: 11", 1, () -> desk.find(11));
        Check.due("5: 12", 2, () -> desk.find(12));
        Check.due("5: 2", 3, () -> desk.find(2));
        int[] none = {0, -1, 21, 111, 3, 10, Integer.MAX_VALUE, Integer.MIN_VALUE};
        for (int code : none) {
            Check.fails("5: " + code, Check.NO_ELEMENT, () -> desk.find(code));
        }
    }
}
