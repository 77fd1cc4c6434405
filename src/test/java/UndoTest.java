/** Promises 35 to 38. */
public final class UndoTest {
    public static void main(String[] args) {
        changes();
        eightOnly();
        settingsComeBack();
        whatStays();
        saving();
        Check.end();
    }

    private static void changes() {
        CustomsDesk desk = new CustomsDesk();
        Check.due("35: none", 0, desk::changes);
        Check.fails("36: none", Check.STATE, desk::undo);
        int[] due = {0};
        Runnable[] changing = {() -> desk.heading(-1, 1), () -> desk.rate(0, -1), () -> desk.set(0, 50),
            () -> desk.forget(), () -> desk.prefer(0, 0, 0, 0), () -> desk.suspend(0, 999, 999),
            () -> desk.quota(0, 0, 1, 0, 0)};
        for (Runnable call : changing) {
            call.run();
            due[0]++;
            Check.due("35: counted", due[0], desk::changes);
        }
        for (int left = 6; left >= 0; left--) {
            int l = left;
            Check.due("36: left", l, desk::undo);
            Check.due("35: left", l, desk::changes);
        }
        Check.fails("36: none any more", Check.STATE, desk::undo);
        desk.account(0);
        desk.append('1');
        desk.save();
        Check.answer(desk::lodge);
        Check.answer(() -> desk.heading(5, 1));
        Check.due("35: these are no changes", 0, desk::changes);
        desk.restore();
        Check.due("35: restore is one", 1, desk::changes);
    }

    private static void eightOnly() {
        CustomsDesk desk = new CustomsDesk();
        for (int value = 31; value <= 50; value++) {
            desk.set(0, value);
        }
        Check.due("35: eight at most", 8, desk::changes);
        for (int left = 7; left >= 0; left--) {
            int l = left;
            Check.due("36: left", l, desk::undo);
        }
        Check.fails("36: older ones are forgotten", Check.STATE, desk::undo);
        Check.due("36: the ninth latest stays", 42, () -> desk.set(0, 60));
        desk.set(0, 61);
        desk.undo();
        desk.set(0, 62);
        desk.undo();
        Check.due("36: one is left", 1, desk::changes);
        desk.undo();
        Check.due("36: as before", 42, () -> desk.set(0, 42));
    }

    private static CustomsDesk fullDesk() {
        CustomsDesk desk = Check.smallDesk();
        desk.rate(0, 100);
        desk.prefer(0, 0, 50, 2);
        desk.suspend(3, 0, 5);
        desk.quota(0, -1, 50, 10, 9);
        Check.declared(desk, 1, 0, 1000, 1, 0, 0);
        Check.declared(desk, 1, 0, 1000, 1, 0, -1);
        desk.pass(1);
        Check.declared(desk, 1, 0, 500, 1, 0, 0);
        desk.part(0, 500);
        desk.part(1, 400);
        return desk;
    }

    private static void settingsComeBack() {
        CustomsDesk desk = fullDesk();
        desk.save();
        int[] first = {50, 30, 600};
        for (int what = 0; what < 3; what++) {
            int w = what;
            desk.set(what, 44);
            desk.undo();
            Check.due("36: setting " + what, first[what], () -> desk.set(w, 45));
            desk.restore();
            Check.due("38: setting " + what, first[what], () -> desk.set(w, 46));
        }
    }

    private static void whatStays() {
        CustomsDesk desk = fullDesk();
        desk.append('1');
        desk.undo();
        Check.due("36: the buffer stays", 2, () -> desk.append('1'));
        desk.save();
        desk.set(0, 77);
        desk.undo();
        desk.restore();
        Check.due("36: what is saved stays", 50, () -> desk.set(0, 50));
        Check.due("38: the buffer stays", 3, () -> desk.append('x'));
        desk.restore();
        Check.due("38: the changes stay, and it is one", 8, desk::changes);
    }

    private static void saving() {
        CustomsDesk desk = fullDesk();
        Check.due("37: number of declarations", 3, desk::save);
        Check.declared(desk, 1, 0, 1, 1, 0, -1);
        desk.pass(20);
        desk.drop(0);
        desk.heading(-1, 8);
        desk.suspend(0, 0, 999);
        desk.quota(0, -1, 5, 5, 999);
        desk.set(2, 1);
        desk.part(7, 1);
        Check.due("38: number of declarations", 3, desk::restore);
        looksLikeFullDesk(desk);
        desk.pass(1);
        Check.due("38: it stays saved", 3, desk::restore);
        looksLikeFullDesk(desk);
        desk.undo();
        desk.save();
        desk.pass(7);
        desk.restore();
        Check.due("37: in place of what was saved before", 2, () -> desk.account(10));
        Check.due("37: all of it", 0, () -> desk.account(5));
        CustomsDesk other = new CustomsDesk();
        Check.fails("38: nothing was saved", Check.STATE, other::restore);
        Check.due("38: that is no change", 0, other::changes);
        Check.due("37: nothing to count", 0, other::save);
        other.heading(-1, 1);
        Check.due("38: a desk without headings", 0, other::restore);
        Check.due("38: none", 0, () -> other.account(0));
        Check.due("35: both are changes", 2, other::changes);
    }

    /** UndoBoundariesTest looks at the rest. */
    private static void looksLikeFullDesk(CustomsDesk desk) {
        CustomsDesk like = fullDesk();
        for (int what = 0; what <= 11; what++) {
            int w = what;
            Check.due("38: account " + what, like.account(what), () -> desk.account(w));
        }
        for (int what = 0; what <= 8; what++) {
            int w = what;
            Check.due("38: quota 0, " + what, like.quotaTold(0, what), () -> desk.quotaTold(0, w));
        }
        Check.due("38: origin", like.origin(), desk::origin);
        Check.due("38: preference", like.missed(1, 0, 600, 0), () -> desk.missed(1, 0, 600, 0));
    }
}
