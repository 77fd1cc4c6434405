/** The boundaries of promises 32 to 34, a test for each sentence that names one. */
public final class TextBoundariesTest extends Boundaries {
    /** Seven entries in 55 characters: more do not fit. */
    private static final String SEVEN = "2x1@0:1;2x1@0:1;2x1@0:1;2x1@0:1;2x1@0:1;2x1@0:1;2x1@0:1";

    public static void main(String[] args) {
        runAll(TextBoundariesTest.class);
    }

    // "the character, from 33 to 126"
    static void promise32_charactersGoFrom33To126() {
        CustomsDesk desk = new CustomsDesk();
        for (int sign : new int[] {0, 10, 32, 127, 128, 255, 256 + 33, 0x7fff, 0x8021, 0xffff}) {
            refuses(ARGUMENT, () -> desk.append((char) sign));
        }
        due(1, () -> desk.append((char) 33));
        due(2, () -> desk.append((char) 126));
    }

    // "if the buffer contains 60 characters"
    static void promise32_sixtyAreTheMost() {
        CustomsDesk desk = new CustomsDesk();
        for (int length : upTo(60)) {
            due(length + 1, () -> desk.append('1'));
        }
        refuses(STATE, () -> desk.append('1'));
        refuses(STATE, () -> desk.append('1'));
        Check.answer(desk::lodge);
        due(1, () -> desk.append('1'));
    }

    static void promise32_theFirstListedIsThrown() {
        CustomsDesk full = full();
        refuses(ARGUMENT, () -> full.append((char) 32));
        refuses(ARGUMENT, () -> full.append((char) 127));
        refuses(STATE, () -> full.append((char) 33));
    }

    static void promise32_aRefusedCallLeavesAll() {
        leavesAll(ARGUMENT, Boundaries::worked, desk -> desk.append(' '));
        leavesAll(STATE, Boundaries::full, desk -> desk.append('1'));
    }

    // "a code, which has 1 to 4 digits from 1 to 9"
    static void promise33_codesHaveOneToFourDigits() {
        CustomsDesk desk = way();
        desk.heading(-1, 9);
        desk.heading(4, 9);
        desk.heading(-1, 8);
        due(3, () -> lodges(desk, "1234x1@0:1;99x1@0:1;8x1@0:1"));
        due(3, () -> desk.declaration(0, 0));
        due(5, () -> desk.declaration(1, 0));
        due(6, () -> desk.declaration(2, 0));
    }

    // "A quantity or value has 1 to 5 digits, the first of which is not 0"; "the quantity, 1 to 999"
    static void promise33_theGreatestQuantityIs999() {
        due(1, () -> declaredBy("11x999@0:1", 999, 1));
        due(1, () -> declaredBy("11x100@0:1", 100, 1));
        refused(STATE, "11x1000@0:1");
        refused(STATE, "11x9999@0:1");
        refused(STATE, "11x99999@0:1");
        refused(STATE, "11x10000@0:1");
    }

    // "the value, 1 to 9999"
    static void promise33_theGreatestValueIs9999() {
        due(1, () -> declaredBy("11x1@0:9999", 1, 9999));
        due(1, () -> declaredBy("11x1@0:1000", 1, 1000));
        refused(STATE, "11x1@0:10000");
        refused(STATE, "11x1@0:99999");
        refused(STATE, "11x1@0:1+0:1+0:1+0:10000");
    }

    // "1 to 4 parts with plus signs between them"
    static void promise33_fourPartsAreTheMost() {
        due(1, () -> declaredBy("11x1@0:9999+0:9999+0:9999+0:9999", 1, 39996));
        refused(ARGUMENT, "11x1@0:1+0:1+0:1+0:1+0:1");
    }

    // "a digit for a country ... that there is not"
    static void promise33_theLastCountryIsSeven() {
        CustomsDesk desk = small();
        due(1, () -> lodges(desk, "11x1@7:1"));
        due(7, () -> desk.declaration(0, 3));
        refused(STATE, "11x1@8:1");
        refused(STATE, "11x1@9:1");
        refused(STATE, "11x1@0:1+0:1+0:1+8:1");
    }

    // "a proof ... that there is not"; "Without a proof it is 0"
    static void promise33_theLastProofIsTwo() {
        CustomsDesk desk = small();
        due(4, () -> lodges(desk, "11x1@7:1!0;11x1@7:1!1;11x1@7:1!2;11x1@7:1"));
        for (int declaration : upTo(4)) {
            due(declaration % 3, () -> desk.declaration(declaration, 4));
        }
        refused(STATE, "11x1@0:1!3");
        refused(STATE, "11x1@0:1!9");
    }

    // "or a quota that there is not"; "without a quota none is claimed"
    static void promise33_theQuotaMustExist() {
        refused(STATE, "11x1@0:1#0");
        CustomsDesk desk = small();
        for (int i = 0; i < 6; i++) {
            desk.quota(0, -1, 1, 0, 0);
        }
        due(3, () -> lodges(desk, "11x1@0:1#0;11x1@0:1#5;11x1@0:1!0"));
        due(0, () -> desk.declaration(0, 5));
        due(5, () -> desk.declaration(1, 5));
        due(-1, () -> desk.declaration(2, 5));
        refuses(STATE, () -> lodges(desk, "11x1@0:1#6"));
        refuses(STATE, () -> lodges(desk, "11x1@0:1#9"));
        due(3, () -> desk.account(4));
    }

    // "if part or declare would throw": "the heading is no end"
    static void promise33_theHeadingMustBeAnEnd() {
        refused(STATE, "1x1@0:1");
        refused(STATE, "11x1@0:1;1x1@0:1");
        due(1, () -> declaredBy("11x1@0:1", 1, 1));
    }

    // "there are 30 declarations"; "all of them or none"
    static void promise33_thirtyAreTheMost() {
        CustomsDesk desk = small();
        for (int i = 0; i < 28; i++) {
            claims(desk, 1, 1, -1);
        }
        refuses(STATE, () -> lodges(desk, "2x1@0:1;2x1@0:1;2x1@0:1"));
        due(28, () -> desk.account(4));
        due(2, () -> lodges(desk, "2x1@0:1;2x1@0:1"));
        due(30, () -> desk.account(4));
        refuses(STATE, () -> lodges(desk, "2x1@0:1"));
        due(30, () -> desk.account(4));
    }

    static void promise33_theLastEntryCanKeepAllFromBeingDeclared() {
        refused(STATE, "11x1@0:1;12x1@0:1;2x1@0:1;2x1000@0:1");
        refused(NO_ELEMENT, "11x1@0:1;12x1@0:1;2x1@0:1;3x1@0:1");
        refused(ARGUMENT, "11x1@0:1;12x1@0:1;2x1@0:1;3x1@0:");
    }

    // "A text consists of one or more entries": as many as 60 characters hold
    static void promise33_sevenEntriesAreTheMost() {
        CustomsDesk desk = small();
        due(7, () -> lodges(desk, SEVEN));
        due(7, () -> desk.account(4));
        refuses(ARGUMENT, () -> lodges(desk, SEVEN + ";2x1"));
        due(7, () -> desk.account(4));
    }

    static void promise33_aTextOf60Characters() {
        CustomsDesk desk = small();
        Check.write(desk, SEVEN.substring(0, 48) + "2x100@0:100");
        due(60, () -> desk.append('0'));
        due(7, desk::lodge);
        due(100, () -> desk.declaration(6, 1));
        due(1000, () -> desk.declaration(6, 2));
    }

    // "The buffer is empty afterwards, also if an exception is thrown"
    static void promise33_theBufferIsEmptyAfterwards() {
        String[] texts = {"", "1", "11x1@0:1", "3x1@0:1", "11x1000@0:1", SEVEN + ";2x1@"};
        for (String text : texts) {
            CustomsDesk desk = small();
            Check.answer(() -> lodges(desk, text));
            due(1, () -> desk.append('2'));
            due(1, () -> lodges(desk, "x1@0:1"));
        }
    }

    static void promise33_nothingOfAnEarlierTextIsLeft() {
        CustomsDesk desk = small();
        desk.quota(0, -1, 5, 10, 9);
        lodges(desk, "12x12@7:12+7:1+7:1+7:1!2#0;12x1@0:1!1");
        due(1, () -> lodges(desk, "2x1@3:1"));
        int[] numbers = {3, 1, 1, 3, 0, -1};
        for (int what : upTo(6)) {
            due(numbers[what], () -> desk.declaration(2, what));
        }
        due(2, () -> lodges(desk, "12x1@7:1;2x1@0:1"));
        due(0, () -> desk.declaration(3, 4));
        due(1, () -> desk.declaration(3, 1));
        due(0, () -> desk.declaration(4, 4));
    }

    // "Throws IllegalArgumentException if the text has an error": the empty one has
    static void promise33_theEmptyTextIsNone() {
        refused(ARGUMENT, "");
    }

    // "if a code is that of no heading"
    static void promise33_eachCodeMustBeThatOfAHeading() {
        refused(NO_ELEMENT, "3x1@0:1");
        refused(NO_ELEMENT, "111x1@0:1");
        refused(NO_ELEMENT, "9999x1@0:1");
        CustomsDesk none = new CustomsDesk();
        refuses(NO_ELEMENT, () -> lodges(none, "1x1@0:1"));
    }

    // "NoSuchElementException is thrown, whatever the entries before it are"
    static void promise33_aCodeOfNoneComesBeforeAllThatIsOutOfRange() {
        refused(NO_ELEMENT, "11x1000@0:1;3x1@0:1");
        refused(NO_ELEMENT, "11x1@8:1;3x1@0:1");
        refused(NO_ELEMENT, "11x1@0:10000;3x1@0:1");
        refused(NO_ELEMENT, "11x1@0:1!3;3x1@0:1");
        refused(NO_ELEMENT, "11x1@0:1#0;3x1@0:1");
        refused(NO_ELEMENT, "1x1@0:1;3x1@0:1");
        refused(NO_ELEMENT, "3x1@0:1;11x1000@0:1");
        refused(NO_ELEMENT, "3x1000@9:99999!9#9");
    }

    static void promise33_aCodeOfNoneComesBeforeTooManyDeclarations() {
        CustomsDesk desk = small();
        for (int i = 0; i < 30; i++) {
            claims(desk, 1, 1, -1);
        }
        refuses(NO_ELEMENT, () -> lodges(desk, "3x1@0:1"));
        refuses(STATE, () -> lodges(desk, "11x1@0:1"));
    }

    // "the one that is listed first is thrown"
    static void promise33_anErrorOfTheTextComesFirst() {
        refused(ARGUMENT, "3x1@0:1;");
        refused(ARGUMENT, "11x1000@0:1;1");
        refused(ARGUMENT, "3x1000@9:99999!9#9#");
    }

    // "with their own parts"; "The parts that were added before lodge stay"
    static void promise33_thePartsThatWereAddedBeforeStay() {
        CustomsDesk desk = small();
        for (int country : upTo(4)) {
            desk.part(country, 10 + country);
        }
        due(2, () -> lodges(desk, "11x1@5:7+6:1;12x1@6:2"));
        due(8, () -> desk.declaration(0, 2));
        due(5, () -> desk.declaration(0, 3));
        due(2, () -> desk.declaration(1, 2));
        due(6, () -> desk.declaration(1, 3));
        due(4, () -> desk.account(11));
        desk.declare(1, 1, 0, -1);
        due(46, () -> desk.declaration(2, 2));
    }

    static void promise33_noPartsAreThereWhereNoneWereAdded() {
        CustomsDesk desk = small();
        lodges(desk, "11x1@5:7+6:1");
        due(0, () -> desk.account(11));
        refuses(NO_ELEMENT, desk::origin);
    }

    // "one after the other": by the threshold of now, from lower parts as well
    static void promise33_theOriginIsThatOfEachEntry() {
        CustomsDesk desk = small();
        desk.set(0, 60);
        due(3, () -> lodges(desk, "11x1@2:60+4:40;11x1@2:59+4:41;11x1@4:1"));
        due(2, () -> desk.declaration(0, 3));
        due(4, () -> desk.declaration(1, 3));
        due(4, () -> desk.declaration(2, 3));
    }

    static void promise33_allEntriesAreOneChange() {
        CustomsDesk desk = small();
        due(4, desk::changes);
        due(7, () -> lodges(desk, SEVEN));
        due(5, desk::changes);
        due(4, desk::undo);
        due(0, () -> desk.account(4));
    }

    static void promise33_aRefusedCallLeavesTheDesk() {
        leavesDesk(ARGUMENT, Boundaries::plain, CustomsDesk::lodge, desk -> lodges(desk, "2x1@0:1;"));
        leavesDesk(NO_ELEMENT, Boundaries::plain, desk -> lodges(desk, "2x1@0:1;3x1@0:1"));
        leavesDesk(STATE, Boundaries::plain, desk -> lodges(desk, "2x1@0:1;11x1@0:1;2x1000@0:1"));
    }

    static void promise33_aRefusedCallLeavesTheReasonAndThePosition() {
        CustomsDesk desk = worked();
        refuses(NO_ELEMENT, () -> lodges(desk, "2x1@0:1"));
        due(1, desk::refusal);
        due(1, desk::errorPosition);
        refuses(STATE, () -> lodges(desk, "2x1000@0:1"));
        due(1, desk::refusal);
        due(1, desk::errorPosition);
        refuses(ARGUMENT, () -> lodges(desk, "2x1000"));
        due(1, desk::refusal);
        due(6, desk::errorPosition);
    }

    private static Object declaredBy(String text, int quantity, int value) {
        CustomsDesk desk = small();
        Object entries = lodges(desk, text);
        due(quantity, () -> desk.declaration(0, 1));
        due(value, () -> desk.declaration(0, 2));
        return entries;
    }

    private static void refused(Class<?> kind, String text) {
        CustomsDesk desk = small();
        refuses(kind, () -> lodges(desk, text));
        due(0, () -> desk.account(4));
        due(4, desk::changes);
    }

    // "the index of the first character that cannot continue such a text, or the length of the text if it ends too
    // early": at each place where a text can end
    static void promise34_aTextThatEndsTooEarlyHasItsLength() {
        String text = "1234x12345@0:12345+1:1+2:1+3:1!1#1;1x1@1:1";
        int[] ends = {14, 15, 16, 17, 18, 22, 26, 30, 32, 34, 42};
        for (int length : upTo(text.length() + 1)) {
            boolean isWhole = false;
            for (int end : ends) {
                isWhole |= length == end;
            }
            if (!isWhole) {
                errorAt(length, text.substring(0, length));
            }
        }
    }

    static void promise34_theEmptyTextHasItsErrorAtZero() {
        errorAt(0, "");
    }

    static void promise34_aTextEndsWhereTheBufferEnds() {
        CustomsDesk desk = small();
        String text = "11x22@3:44!1#5";
        for (int length : new int[] {0, 1, 2, 3, 6, 7, 8, 11, 13}) {
            Check.answer(() -> lodges(desk, text));
            refuses(ARGUMENT, () -> lodges(desk, text.substring(0, length)));
            due(length, desk::errorPosition);
        }
        Check.answer(() -> lodges(desk, text));
        lodges(desk, "11x2@3:4");
        due(2, () -> desk.declaration(0, 1));
        due(4, () -> desk.declaration(0, 2));
    }

    static void promise34_theFirstCharacterCanBeTheError() {
        for (String text : new String[] {"0", "x", ";", "@", "!", "#", "+", ":", "~", "0x1@0:1"}) {
            errorAt(0, text);
        }
    }

    static void promise34_the60thCharacterCanBeTheError() {
        errorAt(59, SEVEN.substring(0, 48) + "2x100@0:100~");
        errorAt(55, SEVEN + "~~~~~");
        errorAt(60, SEVEN.substring(0, 48) + "2x100@0:100;");
        errorAt(60, SEVEN + ";2x1@");
    }

    // "a code, which has 1 to 4 digits from 1 to 9"
    static void promise34_aCodeHasOneToFourDigits() {
        errorAt(4, "11111x1@0:1");
        errorAt(0, "x1@0:1");
        noErrorIn("9999x1@0:1");
    }

    static void promise34_aCodeHasNoZero() {
        errorAt(0, "01x1@0:1");
        errorAt(1, "10x1@0:1");
        errorAt(3, "1110x1@0:1");
        errorAt(4, "11110x1@0:1");
    }

    // "the letter x and the quantity"
    static void promise34_theLetterIsALittleX() {
        errorAt(1, "1X1@0:1");
        errorAt(1, "1@0:1");
        errorAt(2, "1xx1@0:1");
    }

    // "A quantity or value has 1 to 5 digits, the first of which is not 0"
    static void promise34_aQuantityHasOneToFiveDigits() {
        errorAt(2, "1x@0:1");
        noErrorIn("1x1@0:1");
        noErrorIn("1x99999@0:1");
        errorAt(7, "1x999999@0:1");
    }

    static void promise34_aQuantityDoesNotBeginWithZero() {
        errorAt(2, "1x0@0:1");
        errorAt(2, "1x01@0:1");
        noErrorIn("1x10000@0:1");
    }

    static void promise34_aValueHasOneToFiveDigits() {
        errorAt(6, "1x1@0:+");
        errorAt(6, "1x1@0:!1");
        noErrorIn("1x1@0:99999");
        errorAt(11, "1x1@0:999999");
        errorAt(15, "1x1@0:1+1:99999999");
    }

    static void promise34_aValueDoesNotBeginWithZero() {
        errorAt(6, "1x1@0:0");
        errorAt(6, "1x1@0:01");
        errorAt(10, "1x1@0:1+1:01");
        noErrorIn("1x1@0:10000");
    }

    // "the sign @ and 1 to 4 parts with plus signs between them"
    static void promise34_thereIsOnePartAtLeast() {
        errorAt(3, "1x1!1");
        errorAt(3, "1x1;1x1@0:1");
        errorAt(4, "1x1@!1");
        errorAt(4, "1x1@;");
    }

    static void promise34_thereAreFourPartsAtMost() {
        noErrorIn("1x1@0:1+0:1+0:1+0:1");
        errorAt(19, "1x1@0:1+0:1+0:1+0:1+0:1");
        errorAt(19, "1x1@0:1+0:1+0:1+0:1+");
    }

    static void promise34_plusSignsAreBetweenParts() {
        errorAt(4, "1x1@+0:1");
        errorAt(8, "1x1@0:1++0:1");
        errorAt(8, "1x1@0:1+!1");
        errorAt(7, "1x1@0:1,0:1");
    }

    // "each a digit for the country, a colon and the value"
    static void promise34_aCountryIsOneDigit() {
        errorAt(4, "1x1@:1");
        errorAt(5, "1x1@00:1");
        errorAt(4, "1x1@a:1");
        errorAt(5, "1x1@0;1");
        noErrorIn("1x1@9:1");
    }

    // "possibly an exclamation mark and a digit for the proof"
    static void promise34_aProofIsOneDigit() {
        errorAt(8, "1x1@0:1!;");
        errorAt(9, "1x1@0:1!11");
        errorAt(8, "1x1@0:1!!1");
        errorAt(8, "1x1@0:1!#1");
        noErrorIn("1x1@0:1!9");
        noErrorIn("1x1@0:1!0");
    }

    static void promise34_thereIsOneProofAtMost() {
        errorAt(9, "1x1@0:1!1!1");
        errorAt(9, "1x1@0:1!1+0:1");
    }

    // "and possibly the sign # and a digit for the quota"
    static void promise34_aQuotaIsOneDigit() {
        errorAt(8, "1x1@0:1#;");
        errorAt(9, "1x1@0:1#11");
        errorAt(8, "1x1@0:1##1");
        noErrorIn("1x1@0:1#9");
        noErrorIn("1x1@0:1#0");
    }

    static void promise34_thereIsOneQuotaAtMostBehindTheProof() {
        errorAt(9, "1x1@0:1#1#1");
        errorAt(9, "1x1@0:1#1!1");
        errorAt(9, "1x1@0:1#1+0:1");
        noErrorIn("1x1@0:1!1#1");
    }

    // "one or more entries with semicolons between them"
    static void promise34_semicolonsAreBetweenEntries() {
        errorAt(0, ";1x1@0:1");
        errorAt(8, "1x1@0:1;");
        errorAt(8, "1x1@0:1;;1x1@0:1");
        errorAt(9, "1x1@0:1!11x1@0:1");
        noErrorIn("1x1@0:1;1x1@0:1");
    }

    static void promise34_theFirstErrorIsTold() {
        errorAt(2, "1x0@0:0;0");
        errorAt(9, "1x1@0:1;1X1@0:1;0");
    }

    // "What exists does not matter for it, nor do ranges"
    static void promise34_whatExistsDoesNotMatter() {
        errorAt(27, "9999x99999@9:99999!9#9;1x1@");
        errorAt(22, "9999x99999@9:99999!9#9~");
        noErrorIn("9999x99999@9:99999!9#9");
    }

    // "Throws NoSuchElementException if no text had one"
    static void promise34_beforeAnErrorThereIsNoPosition() {
        CustomsDesk desk = small();
        refuses(NO_ELEMENT, desk::errorPosition);
        lodges(desk, "11x1@0:1");
        refuses(NO_ELEMENT, () -> lodges(desk, "3x1@0:1"));
        refuses(STATE, () -> lodges(desk, "1x1@0:1"));
        refuses(ARGUMENT, () -> desk.append(' '));
        refuses(NO_ELEMENT, desk::errorPosition);
    }

    // "the latest text that had an error"
    static void promise34_textsWithoutErrorLeaveThePosition() {
        CustomsDesk desk = small();
        refuses(ARGUMENT, () -> lodges(desk, "1x"));
        due(2, desk::errorPosition);
        refuses(ARGUMENT, () -> lodges(desk, ""));
        due(0, desk::errorPosition);
        refuses(ARGUMENT, () -> lodges(desk, "11"));
        lodges(desk, "11x1@0:1");
        due(2, desk::errorPosition);
        refuses(NO_ELEMENT, () -> lodges(desk, "3x1@0:1"));
        refuses(STATE, () -> lodges(desk, "1x1@0:1"));
        due(2, desk::errorPosition);
    }

    static void promise34_aRefusedCallLeavesAll() {
        leavesAll(NO_ELEMENT, Boundaries::full, CustomsDesk::errorPosition);
    }

    private static void errorAt(int position, String text) {
        CustomsDesk desk = small();
        refuses(ARGUMENT, () -> lodges(desk, text));
        due(position, desk::errorPosition);
    }

    private static void noErrorIn(String text) {
        CustomsDesk desk = small();
        Check.answer(() -> lodges(desk, text));
        refuses(NO_ELEMENT, desk::errorPosition);
    }
}
