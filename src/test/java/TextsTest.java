/** Promises 32 to 34. */
public final class TextsTest {
    public static void main(String[] args) {
        append();
        goodTexts();
        errors();
        wrongNumbers();
        order();
        tooMany();
        Check.end();
    }

    private static void append() {
        CustomsDesk desk = new CustomsDesk();
        int[] wrong = {0, 32, 127, 128, 255, 65535};
        for (int sign : wrong) {
            Check.fails("32: character " + sign, Check.ARGUMENT, () -> desk.append((char) sign));
        }
        Check.due("32: 33", 1, () -> desk.append((char) 33));
        Check.due("32: 126", 2, () -> desk.append((char) 126));
        for (int length = 3; length <= 60; length++) {
            int l = length;
            Check.due("32: length", l, () -> desk.append('1'));
        }
        Check.fails("32: a full buffer", Check.STATE, () -> desk.append('1'));
        Check.fails("32: argument before length", Check.ARGUMENT, () -> desk.append(' '));
        Check.due("32: no change", 0, desk::changes);
        Check.fails("33: it is no text", Check.ARGUMENT, desk::lodge);
        Check.due("33: the buffer is empty", 1, () -> desk.append('1'));
    }

    private static void goodTexts() {
        CustomsDesk desk = Check.smallDesk();
        desk.rate(0, 100);
        desk.quota(0, -1, 50, 10, 9);
        desk.part(6, 5);
        Check.due("33: one entry", 1, () -> Check.lodged(desk, "12x999@0:9999+1:9999+2:9999+2:1!2#0"));
        expect(desk, 0, 2, 999, 29998, 2, 2, 0, 0);
        Check.due("33: one change", 8, desk::changes);
        Check.due("33: the buffer is empty", 1, () -> desk.append('2'));
        Check.due("33: three entries", 3, () -> Check.lodged(desk, "x1@3:1;11x20@4:10!1;11x3@7:100#0"));
        expect(desk, 1, 3, 1, 1, 3, 0, -1, 0);
        expect(desk, 2, 1, 20, 10, 4, 1, -1, 0);
        expect(desk, 3, 1, 3, 100, 7, 0, 0, 0);
        Check.due("33: the parts that were added stay", 1, () -> desk.account(11));
        Check.due("33: they are the same", 6, desk::origin);
        desk.set(0, 100);
        Check.due("33: by the threshold", 1, () -> Check.lodged(desk, "2x5@3:90+4:9!0"));
        expect(desk, 4, 3, 5, 99, 4, 0, -1, 0);
        desk.undo();
        Check.due("33: taken back at once", 4, () -> desk.account(4));
        Check.due("33: as many entries as fit", 7,
                () -> Check.lodged(desk, "2x1@1:1;2x1@1:1;2x1@1:1;2x1@1:1;2x1@1:1;2x1@1:1;2x1@1:1"));
        desk.undo();
        Check.due("33: all of them are taken back", 4, () -> desk.account(4));
        Check.fails("34: no error yet", Check.NO_ELEMENT, desk::errorPosition);
    }

    private static void expect(CustomsDesk desk, int declaration, int... numbers) {
        for (int what = 0; what < numbers.length; what++) {
            int w = what;
            Check.due("33: declaration " + declaration + ", " + what, numbers[what],
                    () -> desk.declaration(declaration, w));
        }
    }

    private static void errors() {
        error("", 0);
        error("0", 0);
        error(";", 0);
        error("x1@0:1", 0);
        error("1", 1);
        error("10x1@0:1", 1);
        error("11112x1@0:1", 4);
        error("1X1@0:1", 1);
        error("1x", 2);
        error("1x0@0:1", 2);
        error("1x@0:1", 2);
        error("1x123456@0:1", 7);
        error("1x12345", 7);
        error("1x1:", 3);
        error("1x1@", 4);
        error("1x1@a:1", 4);
        error("1x1@01:1", 5);
        error("1x1@0", 5);
        error("1x1@0:", 6);
        error("1x1@0:0", 6);
        error("1x1@0:123456", 11);
        error("1x1@0:1+", 8);
        error("1x1@0:1++", 8);
        error("1x1@0:1+1:1+2:1+3:1+4:1", 19);
        error("1x1@0:1!", 8);
        error("1x1@0:1!a", 8);
        error("1x1@0:1!11", 9);
        error("1x1@0:1!1!1", 9);
        error("1x1@0:1!1+0:1", 9);
        error("1x1@0:1#", 8);
        error("1x1@0:1#0!1", 9);
        error("1x1@0:1#00", 9);
        error("1x1@0:1!1#0#0", 11);
        error("1x1@0:1;", 8);
        error("1x1@0:1;;", 8);
        error("1x1@0:1;2x1@0:1!1;2", 19);
        error("9999x99999@9:99999+9:99999+9:99999+9:99999!9#9~", 46);
        CustomsDesk desk = Check.smallDesk();
        Check.fails("33: an error at 46", Check.ARGUMENT,
                () -> Check.lodged(desk, "9999x99999@9:99999+9:99999+9:99999+9:99999!9#9~"));
        Check.due("34: nothing was declared", 0, () -> desk.account(4));
        Check.due("34: nothing was changed", 4, desk::changes);
        Check.fails("34: no error of the text", Check.NO_ELEMENT, () -> Check.lodged(desk, "9x1@0:1"));
        Check.due("34: the latest error stays", 46, desk::errorPosition);
        desk.save();
        desk.undo();
        Check.due("34: undo leaves it", 46, desk::errorPosition);
        desk.restore();
        Check.due("34: restore leaves it", 46, desk::errorPosition);
    }

    private static void error(String text, int position) {
        CustomsDesk desk = Check.smallDesk();
        Check.fails("33: " + text, Check.ARGUMENT, () -> Check.lodged(desk, text));
        Check.due("34: " + text, position, desk::errorPosition);
        Check.due("33: the buffer is empty after " + text, 1, () -> desk.append('1'));
        Check.fails("33: 1 alone", Check.ARGUMENT, desk::lodge);
    }

    private static void wrongNumbers() {
        CustomsDesk desk = Check.smallDesk();
        desk.quota(0, -1, 50, 10, 9);
        String[] texts = {"1x1@0:1", "11x1000@0:1", "11x99999@0:1", "11x1@8:1", "11x1@0:1+9:1", "11x1@0:10000",
            "11x1@0:1+0:99999", "11x1@0:1!3", "11x1@0:1!9", "11x1@0:1#1", "11x1@0:1#9", "2x1@0:1;1x1@0:1",
            "2x1@0:1;2x1@0:1;11x1@0:1!3"};
        for (String text : texts) {
            Check.fails("33: " + text, Check.STATE, () -> Check.lodged(desk, text));
            Check.due("33: none is declared", 0, () -> desk.account(4));
            Check.due("33: the buffer is empty", 1, () -> Check.lodged(desk, "2x1@0:1"));
            desk.undo();
        }
        Check.fails("33: no code", Check.NO_ELEMENT, () -> Check.lodged(desk, "13x1@0:1"));
        Check.due("33: the buffer is empty", 1, () -> Check.lodged(desk, "2x999@7:9999!2#0"));
    }

    private static void order() {
        CustomsDesk desk = Check.smallDesk();
        Check.fails("33: a code behind a wrong number", Check.NO_ELEMENT,
                () -> Check.lodged(desk, "11x1@8:1;13x1@0:1"));
        Check.fails("33: a wrong number of an entry without heading", Check.NO_ELEMENT,
                () -> Check.lodged(desk, "13x1000@8:1"));
        Check.fails("33: an error behind a wrong code", Check.ARGUMENT, () -> Check.lodged(desk, "13x1@0:1;1"));
        Check.due("34: its position", 10, desk::errorPosition);
    }

    private static void tooMany() {
        CustomsDesk desk = Check.smallDesk();
        for (int i = 0; i < 9; i++) {
            Check.lodged(desk, "2x1@0:1;2x1@0:1;2x1@0:1");
        }
        Check.lodged(desk, "2x1@0:1");
        Check.fails("33: thirty-one", Check.STATE, () -> Check.lodged(desk, "2x1@0:1;2x1@0:1;2x1@0:1"));
        Check.due("33: none of them", 28, () -> desk.account(4));
        Check.due("33: thirty", 2, () -> Check.lodged(desk, "2x1@0:1;2x1@0:1"));
        Check.fails("33: one more", Check.STATE, () -> Check.lodged(desk, "2x1@0:1"));
        Check.due("33: thirty stay", 30, () -> desk.account(4));
    }
}
