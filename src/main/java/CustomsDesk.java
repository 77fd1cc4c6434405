import java.util.NoSuchElementException;

/** A customs desk; ../shared/DOC.md says what each call promises. */
public final class CustomsDesk {
    private static final int NONE = -1;
    private static final int COUNTRIES = 8;
    private static final int LAST_DAY = 999;
    private static final int FULL_RATE = 1000;
    private static final int ABOVE_ALL_RATES = 1001;
    private static final int MOST_LEVELS = 4;
    private static final int MOST_QUANTITY = 999;
    private static final int MOST_PART_VALUE = 9999;
    private static final int MOST_GOODS_VALUE = 99999;
    private static final int MOST_UNITS = 9999;
    private static final int MOST_DAYS_AT_ONCE = 99;

    private static final int MOST_HEADINGS = 20;
    private static final int MOST_PREFERENCES = 10;
    private static final int MOST_SUSPENSIONS = 6;
    private static final int MOST_QUOTAS = 6;
    private static final int MOST_DECLARATIONS = 30;
    private static final int MOST_PARTS = 4;
    private static final int MOST_CHARACTERS = 60;
    // An entry has seven characters at least, so 60 characters never hold more than seven.
    private static final int MOST_ENTRIES = 8;

    private static final int MOST_CHANGES = 8;
    private static final int SAVED_SLOT = MOST_CHANGES;
    private static final int SLOTS = MOST_CHANGES + 1;

    private static final int NO_PROOF = 0;
    private static final int CERTIFICATE = 1;
    private static final int STATEMENT = 2;

    // The columns 0 to 2 of a heading are the numbers that told knows them by.
    private static final int HEADING_PARENT = 0;
    private static final int HEADING_DIGIT = 1;
    private static final int HEADING_RATE = 2;
    private static final int HEADING_COLUMNS = 3;

    private static final int PREFERENCE_HEADING = 0;
    private static final int PREFERENCE_COUNTRY = 1;
    private static final int PREFERENCE_RATE = 2;
    private static final int PREFERENCE_NEED = 3;
    private static final int PREFERENCE_COLUMNS = 4;

    private static final int SUSPENSION_HEADING = 0;
    private static final int SUSPENSION_FIRST = 1;
    private static final int SUSPENSION_LAST = 2;
    private static final int SUSPENSION_COLUMNS = 3;

    // The columns of a quota are the numbers that quotaTold knows them by.
    private static final int QUOTA_HEADING = 0;
    private static final int QUOTA_COUNTRY = 1;
    private static final int QUOTA_UNITS = 2;
    private static final int QUOTA_RATE = 3;
    private static final int QUOTA_FIRST = 4;
    private static final int QUOTA_LAST = 5;
    private static final int QUOTA_LEFT = 6;
    private static final int QUOTA_GOT = 7;
    private static final int QUOTA_LOST = 8;
    private static final int QUOTA_COLUMNS = 9;

    // The columns of a declaration are the numbers that declaration knows them by.
    private static final int GOODS_HEADING = 0;
    private static final int GOODS_QUANTITY = 1;
    private static final int GOODS_VALUE = 2;
    private static final int GOODS_ORIGIN = 3;
    private static final int GOODS_PROOF = 4;
    private static final int GOODS_QUOTA = 5;
    private static final int GOODS_DAY = 6;
    private static final int GOODS_STATUS = 7;
    private static final int GOODS_GOT = 8;
    private static final int GOODS_FIRST_PART = 9;
    private static final int GOODS_SECOND_PART = 10;
    private static final int GOODS_GIVEN_BACK = 11;
    private static final int GOODS_RATE = 12;
    private static final int GOODS_SOURCE = 13;
    private static final int GOODS_REASON = 14;
    private static final int GOODS_COLUMNS = 15;

    private static final int LODGED = 0;
    private static final int SETTLED = 1;
    private static final int REFUNDED = 2;

    private static final int PART_COUNTRY = 0;
    private static final int PART_VALUE = 1;
    private static final int PART_COLUMNS = 2;

    private static final int THRESHOLD = 0;
    private static final int REFUND_TIME = 1;
    private static final int STATEMENT_LIMIT = 2;
    private static final int SETTINGS = 3;

    private static final int FROM_HEADING = 0;
    private static final int FROM_PREFERENCE = 1;
    private static final int FROM_SUSPENSION = 2;

    private static final int CLAIM_GOOD = 0;
    private static final int CLAIM_OTHER_HEADING = 1;
    private static final int CLAIM_OTHER_COUNTRY = 2;
    private static final int CLAIM_OTHER_DAY = 3;
    private static final int CLAIM_NO_LESS_RATE = 4;
    private static final int CLAIM_NOTHING_LEFT = 5;

    private static final int REFUSED_NOT = 0;
    private static final int REFUSED_LODGED = 1;
    private static final int REFUSED_REFUNDED = 2;
    private static final int REFUSED_TOO_LATE = 3;

    private static final int TOTAL_DAY = 0;
    private static final int TOTAL_FOUND = 1;
    private static final int TOTAL_GIVEN_BACK = 2;
    private static final int TOTALS = 3;

    private static final int ENTRY_CODE = 0;
    private static final int ENTRY_QUANTITY = 1;
    private static final int ENTRY_PROOF = 2;
    private static final int ENTRY_QUOTA = 3;
    private static final int ENTRY_PARTS = 4;
    private static final int ENTRY_FIRST_PART = 5;
    private static final int ENTRY_COLUMNS = ENTRY_FIRST_PART + MOST_PARTS * PART_COLUMNS;

    private static final int CODE_DIGITS = 4;
    private static final int NUMBER_DIGITS = 5;

    private final Office office = new Office();
    private final Tariff tariff = office.tariff;
    private final Ledger ledger = office.ledger;
    private final Parts parts = new Parts(SLOTS);
    private final Parts entryParts = new Parts(0);
    private final Text text = new Text();
    private int nextSlot = 0;
    private int undoable = 0;
    private boolean hasSaved = false;
    private int lastRefusal = REFUSED_NOT;

    public CustomsDesk() {
    }

    // ---- headings

    public int heading(int parent, int digit)
            throws IndexOutOfBoundsException, IllegalArgumentException, IllegalStateException {
        if (parent != NONE && !tariff.headings.has(parent)) {
            throw new IndexOutOfBoundsException("no such parent");
        }
        if (!isWithin(digit, 1, 9) || tariff.isTaken(parent, digit)) {
            throw new IllegalArgumentException("digit out of range or taken");
        }
        if (tariff.headings.isFull() || tariff.levelOf(parent) >= MOST_LEVELS) {
            throw new IllegalStateException("too many headings or levels");
        }
        keepForUndo();
        int added = tariff.headings.add();
        tariff.headings.put(added, HEADING_PARENT, parent);
        tariff.headings.put(added, HEADING_DIGIT, digit);
        tariff.headings.put(added, HEADING_RATE, NONE);
        return added;
    }

    public int rate(int heading, int rate) throws IndexOutOfBoundsException, IllegalArgumentException {
        requireHeading(heading);
        if (!isWithin(rate, NONE, FULL_RATE)) {
            throw new IllegalArgumentException("rate out of range");
        }
        keepForUndo();
        int before = tariff.headings.get(heading, HEADING_RATE);
        tariff.headings.put(heading, HEADING_RATE, rate);
        return before;
    }

    public int told(int heading, int what) throws IndexOutOfBoundsException, IllegalArgumentException {
        requireHeading(heading);
        switch (what) {
            case 0:
            case 1:
            case 2:
                return tariff.headings.get(heading, what);
            case 3:
                return tariff.rateOfHeading(heading);
            case 4:
                return tariff.childrenOf(heading);
            case 5:
                return tariff.levelOf(heading);
            case 6:
                return tariff.codeOf(heading);
            default:
                throw new IllegalArgumentException("no such number of a heading");
        }
    }

    public int find(int code) throws NoSuchElementException {
        int found = tariff.headingWithCode(code);
        if (found == NONE) {
            throw new NoSuchElementException("no heading has this code");
        }
        return found;
    }

    // ---- rules

    public int prefer(int heading, int country, int rate, int need)
            throws IndexOutOfBoundsException, IllegalArgumentException, IllegalStateException {
        requireHeading(heading);
        requireCountry(country);
        if (!isWithin(rate, 0, FULL_RATE) || !isWithin(need, NO_PROOF, STATEMENT)) {
            throw new IllegalArgumentException("rate or need out of range");
        }
        if (tariff.preferences.isFull()) {
            throw new IllegalStateException("too many preferences");
        }
        keepForUndo();
        int made = tariff.preferences.add();
        tariff.preferences.put(made, PREFERENCE_HEADING, heading);
        tariff.preferences.put(made, PREFERENCE_COUNTRY, country);
        tariff.preferences.put(made, PREFERENCE_RATE, rate);
        tariff.preferences.put(made, PREFERENCE_NEED, need);
        return made;
    }

    public int drop(int preference) throws IndexOutOfBoundsException {
        if (!tariff.preferences.has(preference)) {
            throw new IndexOutOfBoundsException("no such preference");
        }
        keepForUndo();
        tariff.preferences.remove(preference);
        return tariff.preferences.count();
    }

    public int suspend(int heading, int first, int last)
            throws IndexOutOfBoundsException, IllegalArgumentException, IllegalStateException {
        requireHeading(heading);
        if (!isWithin(first, 0, LAST_DAY) || !isWithin(last, first, LAST_DAY)) {
            throw new IllegalArgumentException("day out of range");
        }
        if (tariff.suspensions.isFull()) {
            throw new IllegalStateException("too many suspensions");
        }
        keepForUndo();
        int made = tariff.suspensions.add();
        tariff.suspensions.put(made, SUSPENSION_HEADING, heading);
        tariff.suspensions.put(made, SUSPENSION_FIRST, first);
        tariff.suspensions.put(made, SUSPENSION_LAST, last);
        return made;
    }

    public int quota(int heading, int country, int units, int rate, int last)
            throws IndexOutOfBoundsException, IllegalArgumentException, IllegalStateException {
        requireHeading(heading);
        if (country != NONE) {
            requireCountry(country);
        }
        int day = ledger.day();
        if (!isWithin(units, 1, MOST_UNITS) || !isWithin(rate, 0, FULL_RATE) || !isWithin(last, day, LAST_DAY)) {
            throw new IllegalArgumentException("units, rate or last day out of range");
        }
        if (office.quotas.isFull()) {
            throw new IllegalStateException("too many quotas");
        }
        keepForUndo();
        int made = office.quotas.add();
        office.quotas.put(made, QUOTA_HEADING, heading);
        office.quotas.put(made, QUOTA_COUNTRY, country);
        office.quotas.put(made, QUOTA_UNITS, units);
        office.quotas.put(made, QUOTA_RATE, rate);
        office.quotas.put(made, QUOTA_FIRST, day);
        office.quotas.put(made, QUOTA_LAST, last);
        office.quotas.put(made, QUOTA_LEFT, units);
        return made;
    }

    public int quotaTold(int quota, int what) throws IndexOutOfBoundsException, IllegalArgumentException {
        requireQuota(quota);
        if (!isWithin(what, 0, QUOTA_COLUMNS - 1)) {
            throw new IllegalArgumentException("no such number of a quota");
        }
        return office.quotas.get(quota, what);
    }

    public int set(int what, int value) throws IllegalArgumentException {
        if (!isSettingValue(what, value)) {
            throw new IllegalArgumentException("no such setting, or value out of range");
        }
        keepForUndo();
        int before = tariff.setting(what);
        tariff.settings.put(what, 0, value);
        return before;
    }

    public int rateOf(int heading, int country, int value, int proof)
            throws IndexOutOfBoundsException, IllegalArgumentException {
        return tariff.leastRate(goodsNow(heading, country, value, proof));
    }

    public int comesFrom(int heading, int country, int value, int proof)
            throws IndexOutOfBoundsException, IllegalArgumentException {
        Goods goods = goodsNow(heading, country, value, proof);
        return tariff.sourceOf(tariff.leastRate(goods), goods);
    }

    public int missed(int heading, int country, int value, int proof)
            throws IndexOutOfBoundsException, IllegalArgumentException, NoSuchElementException {
        int best = tariff.bestMissed(goodsNow(heading, country, value, proof));
        if (best == NONE) {
            throw new NoSuchElementException("no preference would help");
        }
        return best;
    }

    // ---- declarations

    public int part(int country, int value)
            throws IndexOutOfBoundsException, IllegalArgumentException, IllegalStateException {
        requireCountry(country);
        if (!isWithin(value, 1, MOST_PART_VALUE)) {
            throw new IllegalArgumentException("value out of range");
        }
        if (parts.rows.isFull()) {
            throw new IllegalStateException("too many parts");
        }
        keepForUndo();
        parts.addPart(country, value);
        return parts.rows.count();
    }

    public int forget() {
        keepForUndo();
        int before = parts.rows.count();
        parts.rows.clear();
        return before;
    }

    public int origin() throws NoSuchElementException {
        if (parts.rows.count() == 0) {
            throw new NoSuchElementException("no parts");
        }
        return parts.originBy(tariff.setting(THRESHOLD));
    }

    public int declare(int heading, int quantity, int proof, int quota)
            throws IndexOutOfBoundsException, IllegalArgumentException, IllegalStateException {
        requireHeading(heading);
        if (quota != NONE) {
            requireQuota(quota);
        }
        if (!isWithin(quantity, 1, MOST_QUANTITY) || !isWithin(proof, NO_PROOF, STATEMENT)) {
            throw new IllegalArgumentException("quantity or proof out of range");
        }
        if (tariff.childrenOf(heading) > 0 || parts.rows.count() == 0 || office.declarations.isFull()) {
            throw new IllegalStateException("no end, no parts, or too many declarations");
        }
        keepForUndo();
        int made = office.enter(heading, quantity, proof, quota, parts);
        parts.rows.clear();
        return made;
    }

    public int declaration(int declaration, int what) throws IndexOutOfBoundsException, IllegalArgumentException {
        requireDeclaration(declaration);
        if (!isWithin(what, 0, GOODS_COLUMNS - 1)) {
            throw new IllegalArgumentException("no such number of a declaration");
        }
        return office.declarations.get(declaration, what);
    }

    public int claim(int declaration) throws IndexOutOfBoundsException, IllegalStateException {
        requireDeclaration(declaration);
        if (!office.hasStatus(declaration, LODGED) || office.declarations.get(declaration, GOODS_QUOTA) == NONE) {
            throw new IllegalStateException("not lodged, or no quota claimed");
        }
        return office.claimReason(declaration);
    }

    public int leftThen(int quota) throws IndexOutOfBoundsException {
        requireQuota(quota);
        int left = office.quotas.get(quota, QUOTA_LEFT);
        return left - Math.min(left, office.goodQuantity(quota));
    }

    // ---- days, refunds, proofs

    public int pass(int days) throws IllegalArgumentException, IllegalStateException {
        if (!isWithin(days, 1, MOST_DAYS_AT_ONCE)) {
            throw new IllegalArgumentException("number of days out of range");
        }
        if (ledger.day() + days > LAST_DAY) {
            throw new IllegalStateException("too late a day");
        }
        keepForUndo();
        for (int quota = 0; quota < office.quotas.count(); quota++) {
            office.serve(quota, office.goodQuantity(quota));
        }
        int settled = office.assessLodged();
        ledger.totals.put(TOTAL_DAY, 0, ledger.day() + days);
        return settled;
    }

    public int refund(int declaration) throws IndexOutOfBoundsException, UnsupportedOperationException {
        requireDeclaration(declaration);
        requireNoRefusal(declaration);
        keepForUndo();
        return office.giveAllBack(declaration);
    }

    public int prove(int declaration, int proof)
            throws IndexOutOfBoundsException, IllegalArgumentException, UnsupportedOperationException {
        requireDeclaration(declaration);
        if (!isWithin(proof, CERTIFICATE, STATEMENT)) {
            throw new IllegalArgumentException("proof out of range");
        }
        requireNoRefusal(declaration);
        keepForUndo();
        return office.takeProof(declaration, proof);
    }

    public int refusal() throws NoSuchElementException {
        if (lastRefusal == REFUSED_NOT) {
            throw new NoSuchElementException("nothing was refused");
        }
        return lastRefusal;
    }

    // ---- accounts

    public int account(int what) throws IllegalArgumentException {
        switch (what) {
            case 0:
                return tariff.headings.count();
            case 1:
                return tariff.preferences.count();
            case 2:
                return tariff.suspensions.count();
            case 3:
                return office.quotas.count();
            case 4:
                return office.declarations.count();
            case 5:
                return office.countWith(LODGED);
            case 6:
                return office.countWith(SETTLED);
            case 7:
                return office.countWith(REFUNDED);
            case 8:
                return ledger.found();
            case 9:
                return ledger.allGivenBack();
            case 10:
                return ledger.day();
            case 11:
                return parts.rows.count();
            default:
                throw new IllegalArgumentException("no such account");
        }
    }

    public int kept(int country) throws IndexOutOfBoundsException {
        requireCountry(country);
        return ledger.byCountry.get(country, 0);
    }

    public int keptAgain(int country) throws IndexOutOfBoundsException {
        requireCountry(country);
        int sum = 0;
        for (int at = 0; at < office.declarations.count(); at++) {
            if (office.declarations.get(at, GOODS_ORIGIN) == country) {
                sum += office.keptOf(at);
            }
        }
        return sum;
    }

    public int keptUnder(int heading) throws IndexOutOfBoundsException {
        requireHeading(heading);
        int sum = 0;
        for (int at = 0; at < office.declarations.count(); at++) {
            if (tariff.isUnder(office.declarations.get(at, GOODS_HEADING), heading)) {
                sum += office.keptOf(at);
            }
        }
        return sum;
    }

    public double givenBack() throws ArithmeticException {
        if (ledger.found() == 0) {
            throw new ArithmeticException("no duties were found");
        }
        return (double) ledger.allGivenBack() / (double) ledger.found();
    }

    public float meanRate() throws ArithmeticException {
        int values = office.assessedValue();
        if (values == 0) {
            throw new ArithmeticException("nothing was settled");
        }
        return (float) (ledger.found() - ledger.allGivenBack()) / (float) values;
    }

    // ---- texts

    public int append(char character) throws IllegalArgumentException, IllegalStateException {
        if (!isWithin(character, 33, 126)) {
            throw new IllegalArgumentException("character out of range");
        }
        if (text.length >= MOST_CHARACTERS) {
            throw new IllegalStateException("too many characters");
        }
        return text.addCharacter(character);
    }

    public int lodge() throws IllegalArgumentException, NoSuchElementException, IllegalStateException {
        if (!text.readAll()) {
            throw new IllegalArgumentException("the text has an error");
        }
        if (!areCodesKnown()) {
            throw new NoSuchElementException("no heading has a code of the text");
        }
        if (!canDeclareEntries()) {
            throw new IllegalStateException("an entry cannot be declared");
        }
        keepForUndo();
        int number = text.entries.count();
        for (int entry = 0; entry < number; entry++) {
            declareEntry(entry);
        }
        return number;
    }

    public int errorPosition() throws NoSuchElementException {
        if (text.lastError == NONE) {
            throw new NoSuchElementException("no text had an error");
        }
        return text.lastError;
    }

    // ---- undo and saving

    public int changes() {
        return undoable;
    }

    public int undo() throws IllegalStateException {
        if (undoable == 0) {
            throw new IllegalStateException("nothing to take back");
        }
        nextSlot = (nextSlot + MOST_CHANGES - 1) % MOST_CHANGES;
        undoable--;
        bringFrom(nextSlot);
        return undoable;
    }

    public int save() {
        keepIn(SAVED_SLOT);
        hasSaved = true;
        return office.declarations.count();
    }

    public int restore() throws IllegalStateException {
        if (!hasSaved) {
            throw new IllegalStateException("nothing was saved");
        }
        keepForUndo();
        bringFrom(SAVED_SLOT);
        return office.declarations.count();
    }

    // ---- what the calls share

    private void keepForUndo() {
        keepIn(nextSlot);
        nextSlot = (nextSlot + 1) % MOST_CHANGES;
        undoable = Math.min(MOST_CHANGES, undoable + 1);
    }

    private void keepIn(int slot) {
        office.keepIn(slot);
        parts.rows.keepIn(slot);
    }

    private void bringFrom(int slot) {
        office.bringFrom(slot);
        parts.rows.bringFrom(slot);
    }

    private void requireHeading(int heading) {
        if (!tariff.headings.has(heading)) {
            throw new IndexOutOfBoundsException("no such heading");
        }
    }

    private void requireCountry(int country) {
        if (!isCountry(country)) {
            throw new IndexOutOfBoundsException("no such country");
        }
    }

    private void requireQuota(int quota) {
        if (!office.quotas.has(quota)) {
            throw new IndexOutOfBoundsException("no such quota");
        }
    }

    private void requireDeclaration(int declaration) {
        if (!office.declarations.has(declaration)) {
            throw new IndexOutOfBoundsException("no such declaration");
        }
    }

    private void requireNoRefusal(int declaration) {
        int reason = office.refusalReason(declaration);
        if (reason != REFUSED_NOT) {
            lastRefusal = reason;
            throw new UnsupportedOperationException("refused");
        }
    }

    private Goods goodsNow(int heading, int country, int value, int proof) {
        requireHeading(heading);
        requireCountry(country);
        if (!isWithin(value, 1, MOST_GOODS_VALUE) || !isWithin(proof, NO_PROOF, STATEMENT)) {
            throw new IllegalArgumentException("value or proof out of range");
        }
        office.goods.fill(heading, country, value, proof, ledger.day());
        return office.goods;
    }

    private boolean areCodesKnown() {
        for (int entry = 0; entry < text.entries.count(); entry++) {
            if (tariff.headingWithCode(text.entries.get(entry, ENTRY_CODE)) == NONE) {
                return false;
            }
        }
        return true;
    }

    private boolean canDeclareEntries() {
        if (office.declarations.count() + text.entries.count() > MOST_DECLARATIONS) {
            return false;
        }
        for (int entry = 0; entry < text.entries.count(); entry++) {
            if (!canDeclareEntry(entry)) {
                return false;
            }
        }
        return true;
    }

    private boolean canDeclareEntry(int entry) {
        int quota = text.entries.get(entry, ENTRY_QUOTA);
        int heading = tariff.headingWithCode(text.entries.get(entry, ENTRY_CODE));
        return tariff.childrenOf(heading) == 0
                && isWithin(text.entries.get(entry, ENTRY_QUANTITY), 1, MOST_QUANTITY)
                && isWithin(text.entries.get(entry, ENTRY_PROOF), NO_PROOF, STATEMENT)
                && (quota == NONE || office.quotas.has(quota))
                && areEntryPartsInRange(entry);
    }

    private boolean areEntryPartsInRange(int entry) {
        for (int part = 0; part < text.entries.get(entry, ENTRY_PARTS); part++) {
            if (!isCountry(text.partNumber(entry, part, PART_COUNTRY))
                    || !isWithin(text.partNumber(entry, part, PART_VALUE), 1, MOST_PART_VALUE)) {
                return false;
            }
        }
        return true;
    }

    private void declareEntry(int entry) {
        entryParts.rows.clear();
        for (int part = 0; part < text.entries.get(entry, ENTRY_PARTS); part++) {
            entryParts.addPart(text.partNumber(entry, part, PART_COUNTRY), text.partNumber(entry, part, PART_VALUE));
        }
        office.enter(tariff.headingWithCode(text.entries.get(entry, ENTRY_CODE)),
                text.entries.get(entry, ENTRY_QUANTITY), text.entries.get(entry, ENTRY_PROOF),
                text.entries.get(entry, ENTRY_QUOTA), entryParts);
    }

    private static boolean isSettingValue(int what, int value) {
        switch (what) {
            case THRESHOLD:
                return isWithin(value, 30, 100);
            case REFUND_TIME:
                return isWithin(value, 0, 99);
            case STATEMENT_LIMIT:
                return isWithin(value, 0, 99999);
            default:
                return false;
        }
    }

    private static boolean isCountry(int country) {
        return isWithin(country, 0, COUNTRIES - 1);
    }

    private static boolean isWithin(int number, int least, int most) {
        return number >= least && number <= most;
    }

    private static int scaled(int amount, int part, int whole) {
        return whole > 0 ? amount * part / whole : 0;
    }

    /** Rows of numbers, and copies of them all in slots, so that undo and saving make nothing new. */
    private static final class Table {
        private final int most;
        private final int width;
        // The first cell counts the rows, so that a copy of the cells has the count too.
        private final int[] cells;
        private final int[] copies;

        Table(int most, int width, int slots) {
            this.most = Math.max(0, most);
            this.width = Math.max(0, width);
            this.cells = new int[Math.max(1, 1 + this.most * this.width)];
            this.copies = new int[Math.max(0, slots * this.cells.length)];
        }

        int count() {
            return cells.length > 0 ? cells[0] : 0;
        }

        boolean has(int row) {
            return row >= 0 && row < count();
        }

        boolean isFull() {
            return count() >= most;
        }

        int get(int row, int column) {
            if (row < 0 || row >= most || column < 0 || column >= width) {
                return 0;
            }
            int place = 1 + row * width + column;
            return place >= 0 && place < cells.length ? cells[place] : 0;
        }

        void put(int row, int column, int number) {
            if (row < 0 || row >= most || column < 0 || column >= width) {
                return;
            }
            int place = 1 + row * width + column;
            if (place >= 0 && place < cells.length) {
                cells[place] = number;
            }
        }

        void increase(int row, int column, int by) {
            put(row, column, get(row, column) + by);
        }

        int add() {
            int row = count();
            if (row >= most) {
                return NONE;
            }
            for (int column = 0; column < width; column++) {
                put(row, column, 0);
            }
            setCount(row + 1);
            return row;
        }

        void remove(int gone) {
            int last = count() - 1;
            if (gone < 0 || gone > last) {
                return;
            }
            for (int row = gone; row < last; row++) {
                for (int column = 0; column < width; column++) {
                    put(row, column, get(row + 1, column));
                }
            }
            setCount(last);
        }

        void clear() {
            setCount(0);
        }

        void keepIn(int slot) {
            if (hasSlot(slot)) {
                System.arraycopy(cells, 0, copies, slot * cells.length, cells.length);
            }
        }

        void bringFrom(int slot) {
            if (hasSlot(slot)) {
                System.arraycopy(copies, slot * cells.length, cells, 0, cells.length);
            }
        }

        private boolean hasSlot(int slot) {
            return slot >= 0 && slot < SLOTS && (slot + 1) * cells.length <= copies.length;
        }

        private void setCount(int count) {
            if (cells.length > 0) {
                cells[0] = count;
            }
        }
    }

    /** Goods whose rate is asked for; one object serves all questions. */
    private static final class Goods {
        private int heading;
        private int country;
        private int value;
        private int proof;
        private int day;

        void fill(int newHeading, int newCountry, int newValue, int newProof, int newDay) {
            heading = newHeading;
            country = newCountry;
            value = newValue;
            proof = newProof;
            day = newDay;
        }
    }

    /** The parts of goods that are to be declared. */
    private static final class Parts {
        private final Table rows;

        Parts(int slots) {
            rows = new Table(MOST_PARTS, PART_COLUMNS, slots);
        }

        void addPart(int country, int value) {
            int added = rows.add();
            rows.put(added, PART_COUNTRY, country);
            rows.put(added, PART_VALUE, value);
        }

        int wholeValue() {
            int sum = 0;
            for (int part = 0; part < rows.count(); part++) {
                sum += rows.get(part, PART_VALUE);
            }
            return sum;
        }

        int amountOf(int country) {
            int sum = 0;
            for (int part = 0; part < rows.count(); part++) {
                if (rows.get(part, PART_COUNTRY) == country) {
                    sum += rows.get(part, PART_VALUE);
                }
            }
            return sum;
        }

        int originBy(int threshold) {
            int needed = threshold * wholeValue();
            int greatest = 0;
            int found = rows.get(rows.count() - 1, PART_COUNTRY);
            for (int country = 0; country < COUNTRIES; country++) {
                int amount = amountOf(country);
                if (amount > greatest && amount * 100 >= needed) {
                    greatest = amount;
                    found = country;
                }
            }
            return found;
        }
    }

    /** Headings, preferences, suspensions and settings, and the rates that follow from them. */
    private static final class Tariff {
        private final Table headings = new Table(MOST_HEADINGS, HEADING_COLUMNS, SLOTS);
        private final Table preferences = new Table(MOST_PREFERENCES, PREFERENCE_COLUMNS, SLOTS);
        private final Table suspensions = new Table(MOST_SUSPENSIONS, SUSPENSION_COLUMNS, SLOTS);
        private final Table settings = new Table(SETTINGS, 1, SLOTS);

        Tariff() {
            settings.put(THRESHOLD, 0, 50);
            settings.put(REFUND_TIME, 0, 30);
            settings.put(STATEMENT_LIMIT, 0, 600);
        }

        int setting(int what) {
            return settings.get(what, 0);
        }

        boolean isTaken(int parent, int digit) {
            for (int at = 0; at < headings.count(); at++) {
                if (headings.get(at, HEADING_PARENT) == parent && headings.get(at, HEADING_DIGIT) == digit) {
                    return true;
                }
            }
            return false;
        }

        int levelOf(int heading) {
            int level = 0;
            int on = heading;
            while (on != NONE && level < MOST_LEVELS) {
                level++;
                on = headings.get(on, HEADING_PARENT);
            }
            return level;
        }

        int codeOf(int heading) {
            int code = 0;
            int unit = 1;
            int on = heading;
            for (int level = 0; on != NONE && level < MOST_LEVELS; level++) {
                code += unit * headings.get(on, HEADING_DIGIT);
                unit *= 10;
                on = headings.get(on, HEADING_PARENT);
            }
            return code;
        }

        int headingWithCode(int code) {
            for (int at = 0; at < headings.count(); at++) {
                if (codeOf(at) == code) {
                    return at;
                }
            }
            return NONE;
        }

        int childrenOf(int heading) {
            int number = 0;
            for (int at = 0; at < headings.count(); at++) {
                if (headings.get(at, HEADING_PARENT) == heading) {
                    number++;
                }
            }
            return number;
        }

        boolean isUnder(int heading, int upper) {
            int on = heading;
            for (int level = 0; on != NONE && level < MOST_LEVELS; level++) {
                if (on == upper) {
                    return true;
                }
                on = headings.get(on, HEADING_PARENT);
            }
            return false;
        }

        int rateOfHeading(int heading) {
            int on = heading;
            for (int level = 0; on != NONE && level < MOST_LEVELS; level++) {
                int own = headings.get(on, HEADING_RATE);
                if (own != NONE) {
                    return own;
                }
                on = headings.get(on, HEADING_PARENT);
            }
            return 0;
        }

        int leastRate(Goods goods) {
            if (isSuspended(goods)) {
                return 0;
            }
            return Math.min(rateOfHeading(goods.heading), preferredRate(goods));
        }

        int sourceOf(int rate, Goods goods) {
            if (rateOfHeading(goods.heading) == rate) {
                return FROM_HEADING;
            }
            return preferredRate(goods) == rate ? FROM_PREFERENCE : FROM_SUSPENSION;
        }

        int bestMissed(Goods goods) {
            int best = NONE;
            int least = leastRate(goods);
            for (int at = 0; at < preferences.count(); at++) {
                int rate = preferences.get(at, PREFERENCE_RATE);
                if (rate < least && preferences.get(at, PREFERENCE_COUNTRY) == goods.country
                        && isUnder(goods.heading, preferences.get(at, PREFERENCE_HEADING))
                        && !meetsNeed(at, goods)) {
                    best = at;
                    least = rate;
                }
            }
            return best;
        }

        void keepIn(int slot) {
            headings.keepIn(slot);
            preferences.keepIn(slot);
            suspensions.keepIn(slot);
            settings.keepIn(slot);
        }

        void bringFrom(int slot) {
            headings.bringFrom(slot);
            preferences.bringFrom(slot);
            suspensions.bringFrom(slot);
            settings.bringFrom(slot);
        }

        private boolean isSuspended(Goods goods) {
            for (int at = 0; at < suspensions.count(); at++) {
                if (isWithin(goods.day, suspensions.get(at, SUSPENSION_FIRST), suspensions.get(at, SUSPENSION_LAST))
                        && isUnder(goods.heading, suspensions.get(at, SUSPENSION_HEADING))) {
                    return true;
                }
            }
            return false;
        }

        private int preferredRate(Goods goods) {
            int least = ABOVE_ALL_RATES;
            for (int at = 0; at < preferences.count(); at++) {
                if (preferences.get(at, PREFERENCE_COUNTRY) == goods.country
                        && isUnder(goods.heading, preferences.get(at, PREFERENCE_HEADING))
                        && meetsNeed(at, goods)) {
                    least = Math.min(least, preferences.get(at, PREFERENCE_RATE));
                }
            }
            return least;
        }

        private boolean meetsNeed(int preference, Goods goods) {
            int need = preferences.get(preference, PREFERENCE_NEED);
            if (need == NO_PROOF || goods.proof == CERTIFICATE) {
                return true;
            }
            return need == STATEMENT && goods.proof == STATEMENT && goods.value <= settings.get(STATEMENT_LIMIT, 0);
        }
    }

    /** The present day and the sums of duties, counted as they arise. */
    private static final class Ledger {
        private final Table totals = new Table(TOTALS, 1, SLOTS);
        private final Table byCountry = new Table(COUNTRIES, 1, SLOTS);

        int day() {
            return totals.get(TOTAL_DAY, 0);
        }

        int found() {
            return totals.get(TOTAL_FOUND, 0);
        }

        int allGivenBack() {
            return totals.get(TOTAL_GIVEN_BACK, 0);
        }

        void addDuty(int country, int amount) {
            totals.increase(TOTAL_FOUND, 0, amount);
            byCountry.increase(country, 0, amount);
        }

        void giveBack(int country, int amount) {
            totals.increase(TOTAL_GIVEN_BACK, 0, amount);
            byCountry.increase(country, 0, -amount);
        }

        void keepIn(int slot) {
            totals.keepIn(slot);
            byCountry.keepIn(slot);
        }

        void bringFrom(int slot) {
            totals.bringFrom(slot);
            byCountry.bringFrom(slot);
        }
    }

    /** Quotas and declarations, and what happens to them when days end and later. */
    private static final class Office {
        private final Tariff tariff = new Tariff();
        private final Ledger ledger = new Ledger();
        private final Table quotas = new Table(MOST_QUOTAS, QUOTA_COLUMNS, SLOTS);
        private final Table declarations = new Table(MOST_DECLARATIONS, GOODS_COLUMNS, SLOTS);
        private final Goods goods = new Goods();

        int enter(int heading, int quantity, int proof, int quota, Parts ofGoods) {
            int made = declarations.add();
            declarations.put(made, GOODS_HEADING, heading);
            declarations.put(made, GOODS_QUANTITY, quantity);
            declarations.put(made, GOODS_VALUE, ofGoods.wholeValue());
            declarations.put(made, GOODS_ORIGIN, ofGoods.originBy(tariff.setting(THRESHOLD)));
            declarations.put(made, GOODS_PROOF, proof);
            declarations.put(made, GOODS_QUOTA, quota);
            declarations.put(made, GOODS_DAY, ledger.day());
            declarations.put(made, GOODS_STATUS, LODGED);
            declarations.put(made, GOODS_RATE, NONE);
            declarations.put(made, GOODS_SOURCE, NONE);
            declarations.put(made, GOODS_REASON, NONE);
            return made;
        }

        boolean hasStatus(int declaration, int status) {
            return declarations.get(declaration, GOODS_STATUS) == status;
        }

        int countWith(int status) {
            int number = 0;
            for (int at = 0; at < declarations.count(); at++) {
                if (hasStatus(at, status)) {
                    number++;
                }
            }
            return number;
        }

        int claimReason(int declaration) {
            int quota = declarations.get(declaration, GOODS_QUOTA);
            int country = quotas.get(quota, QUOTA_COUNTRY);
            loadGoods(declaration);
            if (!tariff.isUnder(goods.heading, quotas.get(quota, QUOTA_HEADING))) {
                return CLAIM_OTHER_HEADING;
            }
            if (country != NONE && country != goods.country) {
                return CLAIM_OTHER_COUNTRY;
            }
            if (!isWithin(goods.day, quotas.get(quota, QUOTA_FIRST), quotas.get(quota, QUOTA_LAST))) {
                return CLAIM_OTHER_DAY;
            }
            if (quotas.get(quota, QUOTA_RATE) >= tariff.leastRate(goods)) {
                return CLAIM_NO_LESS_RATE;
            }
            return quotas.get(quota, QUOTA_LEFT) == 0 ? CLAIM_NOTHING_LEFT : CLAIM_GOOD;
        }

        int goodQuantity(int quota) {
            int sum = 0;
            for (int at = 0; at < declarations.count(); at++) {
                if (isClaimOn(at, quota) && claimReason(at) == CLAIM_GOOD) {
                    sum += declarations.get(at, GOODS_QUANTITY);
                }
            }
            return sum;
        }

        void serve(int quota, int wanted) {
            int given = Math.min(quotas.get(quota, QUOTA_LEFT), wanted);
            int spare = given;
            for (int at = 0; at < declarations.count(); at++) {
                if (isClaimOn(at, quota)) {
                    declarations.put(at, GOODS_REASON, claimReason(at));
                }
                if (isGoodClaimOn(at, quota)) {
                    int share = scaled(declarations.get(at, GOODS_QUANTITY), given, wanted);
                    declarations.put(at, GOODS_GOT, share);
                    spare -= share;
                }
            }
            giveSpareUnits(quota, spare);
            quotas.increase(quota, QUOTA_LEFT, -given);
            quotas.increase(quota, QUOTA_GOT, given);
        }

        int assessLodged() {
            int number = 0;
            for (int at = 0; at < declarations.count(); at++) {
                if (hasStatus(at, LODGED)) {
                    assess(at);
                    number++;
                }
            }
            return number;
        }

        int refusalReason(int declaration) {
            if (hasStatus(declaration, LODGED)) {
                return REFUSED_LODGED;
            }
            if (hasStatus(declaration, REFUNDED)) {
                return REFUSED_REFUNDED;
            }
            int gone = ledger.day() - declarations.get(declaration, GOODS_DAY);
            return gone > tariff.setting(REFUND_TIME) ? REFUSED_TOO_LATE : REFUSED_NOT;
        }

        int giveAllBack(int declaration) {
            int amount = keptOf(declaration);
            giveBack(declaration, amount);
            returnUnits(declaration);
            declarations.put(declaration, GOODS_STATUS, REFUNDED);
            return amount;
        }

        int takeProof(int declaration, int proof) {
            declarations.put(declaration, GOODS_PROOF, proof);
            loadGoods(declaration);
            int rate = tariff.leastRate(goods);
            int second = secondPart(declaration, rate);
            int saving = declarations.get(declaration, GOODS_SECOND_PART) - second;
            if (saving <= 0) {
                return 0;
            }
            declarations.put(declaration, GOODS_SECOND_PART, second);
            declarations.put(declaration, GOODS_RATE, rate);
            declarations.put(declaration, GOODS_SOURCE, tariff.sourceOf(rate, goods));
            giveBack(declaration, saving);
            return saving;
        }

        int keptOf(int declaration) {
            if (!hasStatus(declaration, SETTLED)) {
                return 0;
            }
            return declarations.get(declaration, GOODS_FIRST_PART) + declarations.get(declaration, GOODS_SECOND_PART);
        }

        int assessedValue() {
            int sum = 0;
            for (int at = 0; at < declarations.count(); at++) {
                if (!hasStatus(at, LODGED)) {
                    sum += declarations.get(at, GOODS_VALUE);
                }
            }
            return sum;
        }

        void keepIn(int slot) {
            tariff.keepIn(slot);
            ledger.keepIn(slot);
            quotas.keepIn(slot);
            declarations.keepIn(slot);
        }

        void bringFrom(int slot) {
            tariff.bringFrom(slot);
            ledger.bringFrom(slot);
            quotas.bringFrom(slot);
            declarations.bringFrom(slot);
        }

        private void loadGoods(int declaration) {
            goods.fill(declarations.get(declaration, GOODS_HEADING), declarations.get(declaration, GOODS_ORIGIN),
                    declarations.get(declaration, GOODS_VALUE), declarations.get(declaration, GOODS_PROOF),
                    declarations.get(declaration, GOODS_DAY));
        }

        private boolean isClaimOn(int declaration, int quota) {
            return hasStatus(declaration, LODGED) && declarations.get(declaration, GOODS_QUOTA) == quota;
        }

        private boolean isGoodClaimOn(int declaration, int quota) {
            return isClaimOn(declaration, quota) && declarations.get(declaration, GOODS_REASON) == CLAIM_GOOD;
        }

        private void giveSpareUnits(int quota, int spare) {
            int remaining = spare;
            for (int at = 0; at < declarations.count() && remaining > 0; at++) {
                if (isGoodClaimOn(at, quota)) {
                    declarations.increase(at, GOODS_GOT, 1);
                    remaining--;
                }
            }
        }

        private void assess(int declaration) {
            loadGoods(declaration);
            int quota = declarations.get(declaration, GOODS_QUOTA);
            int rate = tariff.leastRate(goods);
            int first = valueInQuota(declaration) * quotas.get(quota, QUOTA_RATE) / FULL_RATE;
            int second = secondPart(declaration, rate);
            declarations.put(declaration, GOODS_FIRST_PART, first);
            declarations.put(declaration, GOODS_SECOND_PART, second);
            declarations.put(declaration, GOODS_RATE, rate);
            declarations.put(declaration, GOODS_SOURCE, tariff.sourceOf(rate, goods));
            declarations.put(declaration, GOODS_STATUS, SETTLED);
            ledger.addDuty(goods.country, first + second);
        }

        private int valueInQuota(int declaration) {
            return scaled(declarations.get(declaration, GOODS_VALUE), declarations.get(declaration, GOODS_GOT),
                    declarations.get(declaration, GOODS_QUANTITY));
        }

        private int secondPart(int declaration, int rate) {
            return (declarations.get(declaration, GOODS_VALUE) - valueInQuota(declaration)) * rate / FULL_RATE;
        }

        private void giveBack(int declaration, int amount) {
            declarations.increase(declaration, GOODS_GIVEN_BACK, amount);
            ledger.giveBack(declarations.get(declaration, GOODS_ORIGIN), amount);
        }

        private void returnUnits(int declaration) {
            int quota = declarations.get(declaration, GOODS_QUOTA);
            int units = declarations.get(declaration, GOODS_GOT);
            boolean isOver = ledger.day() > quotas.get(quota, QUOTA_LAST);
            quotas.increase(quota, QUOTA_GOT, -units);
            quotas.increase(quota, isOver ? QUOTA_LOST : QUOTA_LEFT, units);
            declarations.put(declaration, GOODS_GOT, 0);
        }
    }

    /** The buffer, and the reading of its text into entries. */
    private static final class Text {
        private final char[] characters = new char[MOST_CHARACTERS];
        private final Table entries = new Table(MOST_ENTRIES, ENTRY_COLUMNS, 0);
        private int length = 0;
        private int at = 0;
        private int lastError = NONE;

        int addCharacter(char character) {
            if (length >= 0 && length < characters.length) {
                characters[length] = character;
                length++;
            }
            return length;
        }

        boolean readAll() {
            at = 0;
            entries.clear();
            boolean isSound = readEntry();
            for (int turn = 0; turn < MOST_CHARACTERS && isSound && at < length; turn++) {
                isSound = take(';') && readEntry();
            }
            if (!isSound) {
                lastError = at;
            }
            length = 0;
            return isSound;
        }

        int partNumber(int entry, int part, int column) {
            return entries.get(entry, partColumn(part, column));
        }

        private boolean readEntry() {
            int entry = entries.add();
            entries.put(entry, ENTRY_QUOTA, NONE);
            return readNumber(entry, ENTRY_CODE, CODE_DIGITS, 1)
                    && take('x')
                    && readNumber(entry, ENTRY_QUANTITY, NUMBER_DIGITS, 0)
                    && take('@')
                    && readParts(entry)
                    && readChoice(entry, '!', ENTRY_PROOF)
                    && readChoice(entry, '#', ENTRY_QUOTA);
        }

        private boolean readParts(int entry) {
            for (int part = 0; part < MOST_PARTS; part++) {
                if (part > 0 && !take('+')) {
                    return true;
                }
                if (!readDigit(entry, partColumn(part, PART_COUNTRY))
                        || !take(':')
                        || !readNumber(entry, partColumn(part, PART_VALUE), NUMBER_DIGITS, 0)) {
                    return false;
                }
                entries.put(entry, ENTRY_PARTS, part + 1);
            }
            return true;
        }

        private boolean readChoice(int entry, char sign, int column) {
            return !take(sign) || readDigit(entry, column);
        }

        private boolean readNumber(int entry, int column, int mostDigits, int leastLaterDigit) {
            int number = 0;
            for (int read = 0; read < mostDigits; read++) {
                int digit = digitHere();
                if (digit < (read == 0 ? 1 : leastLaterDigit)) {
                    break;
                }
                number = number * 10 + digit;
                at++;
            }
            entries.put(entry, column, number);
            return number > 0;
        }

        private boolean readDigit(int entry, int column) {
            int digit = digitHere();
            if (digit == NONE) {
                return false;
            }
            entries.put(entry, column, digit);
            at++;
            return true;
        }

        private boolean take(char sign) {
            if (!isInText() || characters[at] != sign) {
                return false;
            }
            at++;
            return true;
        }

        private int digitHere() {
            if (!isInText() || characters[at] < '0' || characters[at] > '9') {
                return NONE;
            }
            return characters[at] - '0';
        }

        private boolean isInText() {
            return at >= 0 && at < length && at < characters.length;
        }

        private static int partColumn(int part, int column) {
            return ENTRY_FIRST_PART + part * PART_COLUMNS + column;
        }
    }
}
