/** Promises 15 to 21. */
public final class DeclarationsTest {
    public static void main(String[] args) {
        part();
        forget();
        origin();
        declare();
        declaration();
        claim();
        leftThen();
        Check.end();
    }

    private static void part() {
        CustomsDesk desk = new CustomsDesk();
        Check.fails("15: country 8", Check.INDEX, () -> desk.part(8, 0));
        Check.fails("15: country -1", Check.INDEX, () -> desk.part(-1, 1));
        Check.fails("15: value 0", Check.ARGUMENT, () -> desk.part(0, 0));
        Check.fails("15: value 10000", Check.ARGUMENT, () -> desk.part(0, 10000));
        Check.due("15: first", 1, () -> desk.part(0, 1));
        Check.due("15: second", 2, () -> desk.part(7, 9999));
        Check.due("15: third", 3, () -> desk.part(7, 1));
        Check.due("15: fourth", 4, () -> desk.part(7, 1));
        Check.fails("15: fifth", Check.STATE, () -> desk.part(7, 1));
        Check.fails("15: argument before number", Check.ARGUMENT, () -> desk.part(7, 0));
        Check.due("15: four", 4, () -> desk.account(11));
    }

    private static void forget() {
        CustomsDesk desk = new CustomsDesk();
        Check.due("16: none", 0, desk::forget);
        desk.part(0, 1);
        desk.part(1, 1);
        Check.due("16: two", 2, desk::forget);
        Check.due("16: none are left", 0, () -> desk.account(11));
        Check.due("16: each is a change", 4, desk::changes);
        desk.part(5, 3);
        Check.due("16: the forgotten ones do not count", 5, desk::origin);
    }

    private static void origin() {
        CustomsDesk desk = new CustomsDesk();
        Check.fails("17: no parts", Check.NO_ELEMENT, desk::origin);
        desk.part(6, 40);
        Check.due("17: only one", 6, desk::origin);
        desk.part(2, 60);
        Check.due("17: the greatest", 2, desk::origin);
        desk.part(6, 20);
        Check.due("17: the lowest of equals", 2, desk::origin);
        desk.set(0, 51);
        Check.due("17: none, so the last", 6, desk::origin);
        desk.part(3, 1);
        Check.due("17: none, so the last again", 3, desk::origin);
        desk.set(0, 30);
        Check.due("17: a lower threshold", 2, desk::origin);
        desk.forget();
        desk.part(4, 1);
        desk.part(1, 2);
        desk.set(0, 67);
        Check.due("17: 66.7 percent are less than 67", 1, desk::origin);
        desk.part(0, 3);
        desk.set(0, 50);
        Check.due("17: half is enough", 0, desk::origin);
        desk.set(0, 100);
        desk.forget();
        desk.part(4, 9999);
        desk.part(4, 9999);
        desk.part(4, 9999);
        desk.part(4, 9999);
        Check.due("17: all of it", 4, desk::origin);
        desk.forget();
        desk.part(1, 1);
        desk.part(5, 40);
        desk.part(5, 39);
        desk.part(1, 1);
        Check.due("17: not all of it", 1, desk::origin);
        desk.set(0, 97);
        Check.due("17: enough of it", 5, desk::origin);
        desk.set(0, 50);
        desk.forget();
        desk.part(2, 499);
        desk.part(1, 251);
        desk.part(4, 250);
        Check.due("17: 49.9 percent are less than 50", 4, desk::origin);
        desk.forget();
        desk.part(3, 1);
        desk.part(5, 1);
        Check.due("17: one cent of two", 3, desk::origin);
    }

    private static void declare() {
        CustomsDesk desk = Check.smallDesk();
        desk.rate(0, 100);
        desk.quota(0, -1, 10, 5, 10);
        Check.fails("18: heading 4", Check.INDEX, () -> desk.declare(4, 0, 0, -1));
        Check.fails("18: heading -1", Check.INDEX, () -> desk.declare(-1, 1, 0, -1));
        Check.fails("18: quota 1", Check.INDEX, () -> desk.declare(1, 0, 0, 1));
        Check.fails("18: quota -2", Check.INDEX, () -> desk.declare(1, 1, 0, -2));
        Check.fails("18: quantity 0", Check.ARGUMENT, () -> desk.declare(0, 0, 0, -1));
        Check.fails("18: quantity 1000", Check.ARGUMENT, () -> desk.declare(1, 1000, 0, -1));
        Check.fails("18: proof -1", Check.ARGUMENT, () -> desk.declare(1, 1, -1, -1));
        Check.fails("18: proof 3", Check.ARGUMENT, () -> desk.declare(1, 1, 3, -1));
        Check.fails("18: no parts", Check.STATE, () -> desk.declare(1, 1, 0, -1));
        desk.part(1, 5);
        Check.fails("18: no end", Check.STATE, () -> desk.declare(0, 1, 0, -1));
        Check.due("18: the parts stay when it fails", 1, () -> desk.account(11));
        Check.due("18: first", 0, () -> desk.declare(1, 1, 0, -1));
        Check.due("18: no parts afterwards", 0, () -> desk.account(11));
        desk.heading(1, 1);
        Check.due("18: its heading may get headings later", 1, () -> desk.declaration(0, 0));
        desk.part(1, 5);
        Check.fails("18: then it is no end", Check.STATE, () -> desk.declare(1, 1, 0, -1));
        desk.forget();
        for (int made = 1; made < 30; made++) {
            int number = made;
            Check.due("18: number", number, () -> Check.declared(desk, 3, 0, 7, 999, 2, 0));
        }
        desk.part(1, 5);
        Check.fails("18: thirty-first", Check.STATE, () -> desk.declare(1, 1, 0, -1));
        Check.due("18: thirty", 30, () -> desk.account(4));
    }

    private static void declaration() {
        CustomsDesk desk = Check.smallDesk();
        desk.rate(0, 101);
        desk.prefer(0, 2, 51, 1);
        desk.pass(3);
        desk.quota(0, 2, 4, 11, 10);
        desk.part(2, 500);
        desk.part(3, 499);
        desk.declare(1, 10, 1, 0);
        Check.declared(desk, 2, 3, 77, 9, 2, -1);
        desk.set(0, 100);
        expect(desk, 0, 1, 10, 999, 2, 1, 0, 3, 0, 0, 0, 0, 0, -1, -1, -1);
        expect(desk, 1, 2, 9, 77, 3, 2, -1, 3, 0, 0, 0, 0, 0, -1, -1, -1);
        desk.pass(1);
        expect(desk, 0, 1, 10, 999, 2, 1, 0, 3, 1, 4, 4, 30, 0, 51, 1, 0);
        expect(desk, 1, 2, 9, 77, 3, 2, -1, 3, 1, 0, 0, 7, 0, 101, 0, -1);
        desk.refund(0);
        expect(desk, 0, 1, 10, 999, 2, 1, 0, 3, 2, 0, 4, 30, 34, 51, 1, 0);
        desk.prefer(0, 3, 50, 1);
        desk.prove(1, 1);
        expect(desk, 1, 2, 9, 77, 3, 1, -1, 3, 1, 0, 0, 3, 4, 50, 1, -1);
        Check.fails("19: declaration 2", Check.INDEX, () -> desk.declaration(2, 15));
        Check.fails("19: declaration -1", Check.INDEX, () -> desk.declaration(-1, 0));
        Check.fails("19: what 15", Check.ARGUMENT, () -> desk.declaration(0, 15));
        Check.fails("19: what -1", Check.ARGUMENT, () -> desk.declaration(0, -1));
    }

    private static void expect(CustomsDesk desk, int declaration, int... numbers) {
        for (int what = 0; what < numbers.length; what++) {
            int w = what;
            Check.due("19: declaration " + declaration + ", " + what, numbers[what],
                    () -> desk.declaration(declaration, w));
        }
    }

    private static void claim() {
        CustomsDesk desk = Check.smallDesk();
        desk.rate(0, 100);
        desk.quota(1, 2, 5, 50, 0);
        desk.quota(0, -1, 5, 100, 9);
        desk.quota(0, 2, 5, 50, 9);
        Check.declared(desk, 2, 1, 10, 1, 0, 0);
        Check.declared(desk, 1, 1, 10, 1, 0, 0);
        Check.declared(desk, 1, 2, 10, 1, 0, 0);
        Check.declared(desk, 1, 2, 10, 1, 0, 1);
        Check.declared(desk, 1, 2, 10, 1, 0, -1);
        Check.due("20: other heading before other country", 1, () -> desk.claim(0));
        Check.due("20: other country", 2, () -> desk.claim(1));
        Check.due("20: good", 0, () -> desk.claim(2));
        Check.due("20: no less rate", 4, () -> desk.claim(3));
        Check.fails("20: claims none", Check.STATE, () -> desk.claim(4));
        Check.fails("20: declaration 5", Check.INDEX, () -> desk.claim(5));
        Check.fails("20: declaration -1", Check.INDEX, () -> desk.claim(-1));
        desk.rate(0, 101);
        Check.due("20: by the rates of now", 0, () -> desk.claim(3));
        desk.prefer(0, 2, 50, 0);
        Check.due("20: by the preferences of now", 4, () -> desk.claim(2));
        desk.drop(0);
        desk.suspend(0, 0, 0);
        Check.due("20: by the suspensions of now", 4, () -> desk.claim(2));
        desk.pass(1);
        Check.fails("20: settled", Check.STATE, () -> desk.claim(2));
        Check.declared(desk, 1, 2, 10, 1, 0, 0);
        Check.due("20: other day", 3, () -> desk.claim(5));
        desk.rate(1, 50);
        Check.due("20: other day before no less rate", 3, () -> desk.claim(5));
        desk.rate(1, -1);
        Check.declared(desk, 1, 2, 10, 5, 0, 2);
        Check.declared(desk, 1, 2, 10, 9, 0, 2);
        Check.due("20: both are good", 0, () -> desk.claim(7));
        desk.pass(1);
        Check.declared(desk, 1, 2, 10, 5, 0, 2);
        Check.due("20: nothing left", 5, () -> desk.claim(8));
        desk.rate(0, 50);
        Check.due("20: no less rate before nothing left", 4, () -> desk.claim(8));
    }

    private static void leftThen() {
        CustomsDesk desk = Check.smallDesk();
        desk.rate(0, 100);
        desk.quota(0, -1, 10, 50, 9);
        desk.quota(0, 3, 8, 50, 9);
        Check.due("21: nothing claimed", 10, () -> desk.leftThen(0));
        Check.declared(desk, 1, 0, 10, 4, 0, 0);
        Check.due("21: one claim", 6, () -> desk.leftThen(0));
        Check.declared(desk, 3, 0, 10, 4, 0, 0);
        Check.due("21: a claim that is not good", 6, () -> desk.leftThen(0));
        Check.declared(desk, 2, 0, 10, 6, 0, 0);
        Check.due("21: just enough", 0, () -> desk.leftThen(0));
        Check.declared(desk, 2, 0, 10, 60, 0, 0);
        Check.due("21: not enough", 0, () -> desk.leftThen(0));
        Check.due("21: the other one", 8, () -> desk.leftThen(1));
        Check.due("21: it changes nothing", 10, () -> desk.quotaTold(0, 6));
        Check.due("21: nor the declarations", -1, () -> desk.declaration(0, 14));
        desk.pass(1);
        Check.due("21: as told", 0, () -> desk.leftThen(0));
        Check.fails("21: quota 2", Check.INDEX, () -> desk.leftThen(2));
        Check.fails("21: quota -1", Check.INDEX, () -> desk.leftThen(-1));
    }
}
