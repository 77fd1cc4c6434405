/** Promises 6 to 14. */
public final class RulesTest {
    public static void main(String[] args) {
        prefer();
        drop();
        suspend();
        quota();
        quotaTold();
        set();
        rateOf();
        comesFrom();
        missed();
        Check.end();
    }

    private static void prefer() {
        CustomsDesk desk = Check.smallDesk();
        Check.fails("6: heading", Check.INDEX, () -> desk.prefer(4, 0, 0, 0));
        Check.fails("6: country 8", Check.INDEX, () -> desk.prefer(0, 8, -1, 0));
        Check.fails("6: country -1", Check.INDEX, () -> desk.prefer(0, -1, 0, 0));
        Check.fails("6: rate -1", Check.ARGUMENT, () -> desk.prefer(0, 0, -1, 0));
        Check.fails("6: rate 1001", Check.ARGUMENT, () -> desk.prefer(0, 0, 1001, 0));
        Check.fails("6: need -1", Check.ARGUMENT, () -> desk.prefer(0, 0, 0, -1));
        Check.fails("6: need 3", Check.ARGUMENT, () -> desk.prefer(0, 0, 0, 3));
        for (int made = 0; made < 10; made++) {
            int number = made;
            Check.due("6: number", number, () -> desk.prefer(0, 7, 1000 - 100 * number, number % 3));
        }
        Check.fails("6: eleventh", Check.STATE, () -> desk.prefer(0, 0, 0, 0));
        Check.fails("6: argument before number", Check.ARGUMENT, () -> desk.prefer(0, 0, 0, 3));
        Check.due("6: ten", 10, () -> desk.account(1));
    }

    private static void drop() {
        CustomsDesk desk = Check.smallDesk();
        Check.fails("7: none", Check.INDEX, () -> desk.drop(0));
        desk.rate(0, 500);
        desk.prefer(0, 0, 100, 0);
        desk.prefer(0, 1, 200, 0);
        desk.prefer(0, 2, 300, 1);
        Check.fails("7: -1", Check.INDEX, () -> desk.drop(-1));
        Check.fails("7: 3", Check.INDEX, () -> desk.drop(3));
        Check.due("7: middle one", 2, () -> desk.drop(1));
        Check.due("7: it is gone", 500, () -> desk.rateOf(0, 1, 1, 0));
        Check.due("7: the first one stays", 100, () -> desk.rateOf(0, 0, 1, 0));
        Check.due("7: the last one stays", 300, () -> desk.rateOf(0, 2, 1, 1));
        Check.due("7: the last one moves down", 1, () -> desk.missed(0, 2, 1, 0));
        Check.fails("7: 2 is no more", Check.INDEX, () -> desk.drop(2));
        Check.due("7: first one", 1, () -> desk.drop(0));
        Check.due("7: moved down again", 0, () -> desk.missed(0, 2, 1, 0));
        Check.due("7: number of the next", 1, () -> desk.prefer(0, 3, 1, 0));
        desk.prefer(1, 4, 2, 0);
        desk.drop(1);
        Check.due("7: its heading moves down with it", 2, () -> desk.rateOf(1, 4, 1, 0));
        Check.due("7: it holds nowhere else", 500, () -> desk.rateOf(2, 4, 1, 0));
    }

    private static void suspend() {
        CustomsDesk desk = Check.smallDesk();
        desk.rate(0, 100);
        Check.fails("8: heading", Check.INDEX, () -> desk.suspend(4, -1, 0));
        Check.fails("8: first -1", Check.ARGUMENT, () -> desk.suspend(0, -1, 0));
        Check.fails("8: first 1000", Check.ARGUMENT, () -> desk.suspend(0, 1000, 1000));
        Check.fails("8: last before first", Check.ARGUMENT, () -> desk.suspend(0, 5, 4));
        Check.fails("8: last 1000", Check.ARGUMENT, () -> desk.suspend(0, 5, 1000));
        Check.due("8: number", 0, () -> desk.suspend(1, 1, 2));
        Check.due("8: before it", 100, () -> desk.rateOf(1, 0, 1, 0));
        desk.pass(1);
        Check.due("8: its first day", 0, () -> desk.rateOf(1, 0, 1, 0));
        Check.due("8: beside it", 100, () -> desk.rateOf(2, 0, 1, 0));
        Check.due("8: above it", 100, () -> desk.rateOf(0, 0, 1, 0));
        desk.pass(1);
        Check.due("8: its last day", 0, () -> desk.rateOf(1, 0, 1, 0));
        desk.pass(1);
        Check.due("8: after it", 100, () -> desk.rateOf(1, 0, 1, 0));
        Check.due("8: of one day", 1, () -> desk.suspend(0, 3, 3));
        Check.due("8: below it", 0, () -> desk.rateOf(2, 0, 1, 0));
        for (int made = 2; made < 6; made++) {
            int number = made;
            Check.due("8: number", number, () -> desk.suspend(0, 999, 999));
        }
        Check.fails("8: seventh", Check.STATE, () -> desk.suspend(0, 0, 0));
        Check.fails("8: argument before number", Check.ARGUMENT, () -> desk.suspend(0, 1, 0));
    }

    private static void quota() {
        CustomsDesk desk = Check.smallDesk();
        desk.pass(5);
        Check.fails("9: heading", Check.INDEX, () -> desk.quota(4, -1, 1, 0, 5));
        Check.fails("9: country -2", Check.INDEX, () -> desk.quota(0, -2, 0, 0, 5));
        Check.fails("9: country 8", Check.INDEX, () -> desk.quota(0, 8, 0, 0, 5));
        Check.fails("9: units 0", Check.ARGUMENT, () -> desk.quota(0, 0, 0, 0, 5));
        Check.fails("9: units 10000", Check.ARGUMENT, () -> desk.quota(0, 0, 10000, 0, 5));
        Check.fails("9: rate -1", Check.ARGUMENT, () -> desk.quota(0, 0, 1, -1, 5));
        Check.fails("9: rate 1001", Check.ARGUMENT, () -> desk.quota(0, 0, 1, 1001, 5));
        Check.fails("9: last before today", Check.ARGUMENT, () -> desk.quota(0, 0, 1, 0, 4));
        Check.fails("9: last 1000", Check.ARGUMENT, () -> desk.quota(0, 0, 1, 0, 1000));
        Check.due("9: least", 0, () -> desk.quota(0, -1, 1, 0, 5));
        Check.due("9: greatest", 1, () -> desk.quota(3, 7, 9999, 1000, 999));
        for (int made = 2; made < 6; made++) {
            int number = made;
            Check.due("9: number", number, () -> desk.quota(0, 0, 10, 10, 10));
        }
        Check.fails("9: seventh", Check.STATE, () -> desk.quota(0, 0, 10, 10, 10));
        Check.fails("9: argument before number", Check.ARGUMENT, () -> desk.quota(0, 0, 10, 10, 1));
        Check.due("9: six", 6, () -> desk.account(3));
    }

    private static void quotaTold() {
        CustomsDesk desk = Check.smallDesk();
        desk.pass(5);
        desk.rate(0, 500);
        desk.quota(1, -1, 20, 30, 9);
        desk.quota(3, 4, 9, 31, 8);
        expectQuota(desk, 0, 1, -1, 20, 30, 5, 9, 20, 0, 0);
        expectQuota(desk, 1, 3, 4, 9, 31, 5, 8, 9, 0, 0);
        Check.declared(desk, 1, 0, 100, 5, 0, 0);
        Check.declared(desk, 1, 0, 100, 6, 0, 0);
        Check.declared(desk, 1, 0, 100, 7, 0, 0);
        expectQuota(desk, 0, 1, -1, 20, 30, 5, 9, 20, 0, 0);
        desk.pass(4);
        expectQuota(desk, 0, 1, -1, 20, 30, 5, 9, 2, 18, 0);
        desk.refund(0);
        expectQuota(desk, 0, 1, -1, 20, 30, 5, 9, 7, 13, 0);
        desk.pass(1);
        desk.refund(1);
        expectQuota(desk, 0, 1, -1, 20, 30, 5, 9, 7, 7, 6);
        Check.fails("10: quota 2", Check.INDEX, () -> desk.quotaTold(2, 9));
        Check.fails("10: quota -1", Check.INDEX, () -> desk.quotaTold(-1, 0));
        Check.fails("10: what 9", Check.ARGUMENT, () -> desk.quotaTold(1, 9));
        Check.fails("10: what -1", Check.ARGUMENT, () -> desk.quotaTold(1, -1));
    }

    private static void expectQuota(CustomsDesk desk, int quota, int... numbers) {
        for (int what = 0; what < numbers.length; what++) {
            int w = what;
            Check.due("10: quota " + quota + ", " + what, numbers[what], () -> desk.quotaTold(quota, w));
        }
    }

    private static void set() {
        CustomsDesk desk = new CustomsDesk();
        int[][] ranges = {{30, 100, 50}, {0, 99, 30}, {0, 99999, 600}};
        for (int what = 0; what < 3; what++) {
            int w = what;
            int[] range = ranges[what];
            Check.fails("11: too small", Check.ARGUMENT, () -> desk.set(w, range[0] - 1));
            Check.fails("11: too great", Check.ARGUMENT, () -> desk.set(w, range[1] + 1));
            Check.due("11: first value", range[2], () -> desk.set(w, range[0]));
            Check.due("11: least", range[0], () -> desk.set(w, range[1]));
            Check.due("11: greatest", range[1], () -> desk.set(w, range[2]));
        }
        Check.fails("11: setting 3", Check.ARGUMENT, () -> desk.set(3, 50));
        Check.fails("11: setting -1", Check.ARGUMENT, () -> desk.set(-1, 50));
        Check.due("11: no change by what fails", 8, desk::changes);
    }

    private static void rateOf() {
        CustomsDesk desk = Check.smallDesk();
        desk.rate(0, 400);
        desk.prefer(0, 1, 300, 0);
        desk.prefer(1, 1, 200, 2);
        desk.prefer(0, 1, 100, 1);
        Check.due("12: other country", 400, () -> desk.rateOf(1, 0, 600, 1));
        Check.due("12: no proof", 300, () -> desk.rateOf(1, 1, 600, 0));
        Check.due("12: a statement at the limit", 200, () -> desk.rateOf(1, 1, 600, 2));
        Check.due("12: a statement above it", 300, () -> desk.rateOf(1, 1, 601, 2));
        Check.due("12: a certificate", 100, () -> desk.rateOf(1, 1, 99999, 1));
        Check.due("12: beside", 300, () -> desk.rateOf(2, 1, 1, 2));
        Check.due("12: no end", 100, () -> desk.rateOf(0, 1, 1, 1));
        Check.due("12: without a rate", 0, () -> desk.rateOf(3, 1, 1, 1));
        desk.drop(2);
        Check.due("12: a certificate meets the need 2 above the limit", 200, () -> desk.rateOf(1, 1, 99999, 1));
        desk.set(2, 0);
        Check.due("12: limit 0", 300, () -> desk.rateOf(1, 1, 1, 2));
        desk.rate(1, 5);
        Check.due("12: least is the heading's", 5, () -> desk.rateOf(1, 1, 1, 0));
        CustomsDesk deep = Check.smallDesk();
        deep.rate(0, 400);
        deep.heading(1, 1);
        deep.heading(4, 1);
        deep.prefer(0, 6, 3, 0);
        Check.due("12: a preference three levels above", 3, () -> deep.rateOf(5, 6, 1, 0));
        Check.due("12: the rate of three levels above", 400, () -> deep.rateOf(5, 5, 1, 0));
        wrongGoods("12", (h, c, v, p) -> desk.rateOf(h, c, v, p));
    }

    private interface Asking {
        int ask(int heading, int country, int value, int proof);
    }

    private static void wrongGoods(String promise, Asking asking) {
        Check.fails(promise + ": heading 4", Check.INDEX, () -> asking.ask(4, 0, 0, 0));
        Check.fails(promise + ": heading -1", Check.INDEX, () -> asking.ask(-1, 0, 0, 0));
        Check.fails(promise + ": country 8", Check.INDEX, () -> asking.ask(0, 8, 0, 0));
        Check.fails(promise + ": country -1", Check.INDEX, () -> asking.ask(0, -1, 1, 3));
        Check.fails(promise + ": value 0", Check.ARGUMENT, () -> asking.ask(0, 0, 0, 0));
        Check.fails(promise + ": value 100000", Check.ARGUMENT, () -> asking.ask(0, 0, 100000, 0));
        Check.fails(promise + ": proof -1", Check.ARGUMENT, () -> asking.ask(0, 0, 1, -1));
        Check.fails(promise + ": proof 3", Check.ARGUMENT, () -> asking.ask(0, 0, 1, 3));
    }

    private static void comesFrom() {
        CustomsDesk desk = Check.smallDesk();
        desk.rate(0, 400);
        Check.due("13: heading", 0, () -> desk.comesFrom(1, 1, 1, 0));
        desk.prefer(0, 1, 400, 0);
        Check.due("13: heading before an equal preference", 0, () -> desk.comesFrom(1, 1, 1, 0));
        desk.prefer(0, 1, 399, 0);
        Check.due("13: preference", 1, () -> desk.comesFrom(1, 1, 1, 0));
        Check.due("13: other country", 0, () -> desk.comesFrom(1, 2, 1, 0));
        desk.suspend(1, 0, 0);
        Check.due("13: suspension", 2, () -> desk.comesFrom(1, 1, 1, 0));
        desk.prefer(0, 1, 0, 1);
        Check.due("13: preference before an equal suspension", 1, () -> desk.comesFrom(1, 1, 1, 1));
        Check.due("13: a preference that is not met", 2, () -> desk.comesFrom(1, 1, 1, 0));
        desk.rate(1, 0);
        Check.due("13: heading before all", 0, () -> desk.comesFrom(1, 1, 1, 1));
        desk.rate(1, 400);
        desk.pass(1);
        Check.due("13: the day after", 1, () -> desk.comesFrom(1, 1, 1, 0));
        wrongGoods("13", (h, c, v, p) -> desk.comesFrom(h, c, v, p));
    }

    private static void missed() {
        CustomsDesk desk = Check.smallDesk();
        desk.rate(0, 400);
        Check.fails("14: no preference", Check.NO_ELEMENT, () -> desk.missed(1, 1, 1, 0));
        desk.prefer(0, 1, 400, 1);
        Check.fails("14: not less", Check.NO_ELEMENT, () -> desk.missed(1, 1, 1, 0));
        desk.prefer(0, 1, 200, 1);
        desk.prefer(1, 1, 100, 2);
        desk.prefer(0, 1, 100, 1);
        Check.due("14: lowest of equals", 2, () -> desk.missed(1, 1, 1, 0));
        Check.due("14: beside, the other one", 3, () -> desk.missed(2, 1, 1, 0));
        Check.fails("14: a statement leaves none that is less", Check.NO_ELEMENT, () -> desk.missed(1, 1, 600, 2));
        Check.due("14: a statement above the limit", 2, () -> desk.missed(1, 1, 601, 2));
        Check.fails("14: a certificate", Check.NO_ELEMENT, () -> desk.missed(1, 1, 1, 1));
        Check.fails("14: other country", Check.NO_ELEMENT, () -> desk.missed(1, 2, 1, 0));
        Check.fails("14: other heading", Check.NO_ELEMENT, () -> desk.missed(3, 1, 1, 0));
        desk.suspend(0, 0, 0);
        Check.fails("14: a suspension", Check.NO_ELEMENT, () -> desk.missed(1, 1, 1, 0));
        wrongGoods("14", (h, c, v, p) -> desk.missed(h, c, v, p));
    }
}
