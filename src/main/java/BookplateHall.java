/** The catalogue of a library, and its loans. */
public final class BookplateHall {

    private static final int NONE = -1;

    private static final int MOST_NAMES = 16;
    private static final int MOST_RECORDS = 20;
    private static final int MOST_COPIES = 30;
    private static final int MOST_READERS = 8;

    private static final int ALL_WORDS = 4095;
    private static final int LAST_YEAR = 99;
    private static final int MOST_PRICE = 200;

    private static final int IN = 0;
    private static final int LENT = 1;
    private static final int ASIDE = 2;
    private static final int LOST = 3;

    private static final int MOST_OWED_BY_A_BORROWER = 50;
    private static final int MOST_RENEWALS = 2;
    private static final int DAYS_ASIDE = 6;
    private static final int DAYS_LATE_UNTIL_LOST = 30;
    private static final int FINE_A_DAY = 2;
    private static final int MOST_FINE = 40;
    private static final int FEE_FOR_A_LOST_ONE = 40;

    private static final int MOST_DAYS_TO_PASS = 40;
    private static final int MOST_DAYS_AHEAD = 60;

    private static final int LAST_FACT = 6;
    private static final int LAST_TOTAL = 9;
    private static final int FIRST_TOTAL_OF_A_PLACE = 5;

    private static final int DIGEST_START = 982;
    private static final int DIGEST_FACTOR = 31;
    private static final int DIGEST_DAYS = 30;

    // Each row is filled from 0 on, and what is behind its count is null.
    private final Name[] names = new Name[MOST_NAMES];
    private final BookRecord[] records = new BookRecord[MOST_RECORDS];
    private final Copy[] copies = new Copy[MOST_COPIES];
    private final Reader[] readers = new Reader[MOST_READERS];
    private int nameCount;
    private int recordCount;
    private int copyCount;
    private int readerCount;
    private int today;

    public BookplateHall() {
    }

    // ---- names and records

    public int name() throws IllegalStateException {
        int number = nameCount;
        if (number < 0 || number >= names.length) {
            throw new IllegalStateException("there are 16 names");
        }
        names[number] = new Name(number);
        nameCount = number + 1;
        return number;
    }

    public int variant(int name, int of) throws IndexOutOfBoundsException, IllegalStateException {
        Name changed = knownName(name);
        Name other = knownName(of);
        if (other.leadsTo(changed)) {
            throw new IllegalStateException("the other name is it, or a variant of it");
        }
        changed.variantOf = other;
        return changed.stoodFor().number;
    }

    public int stands(int name) throws IndexOutOfBoundsException {
        return knownName(name).stoodFor().number;
    }

    public int record(int author, int title, int year)
            throws IndexOutOfBoundsException, IllegalArgumentException, IllegalStateException {
        Name writer = knownNameOrNull(author);
        requireBetween(title, 1, ALL_WORDS);
        requireBetween(year, 0, LAST_YEAR);
        int number = recordCount;
        if (number < 0 || number >= records.length) {
            throw new IllegalStateException("there were 20 records");
        }
        records[number] = new BookRecord(number, writer, title, year);
        recordCount = number + 1;
        return number;
    }

    public int ofRecord(int record, int what) throws IndexOutOfBoundsException, IllegalArgumentException {
        BookRecord asked = knownRecord(record);
        requireBetween(what, 0, LAST_FACT);
        return factOfRecord(asked, what);
    }

    public int likeness(int one, int other) throws IndexOutOfBoundsException {
        return knownRecord(one).likenessTo(knownRecord(other));
    }

    public int twin(int record, int least) throws IndexOutOfBoundsException {
        BookRecord asked = knownRecord(record);
        BookRecord own = asked.liveOne();
        BookRecord twin = null;
        for (BookRecord other : records) {
            if (other != null && other.isLive() && other != own
                    && (twin == null || asked.likenessTo(other) > asked.likenessTo(twin))) {
                twin = other;
            }
        }
        return twin == null || asked.likenessTo(twin) < least ? NONE : twin.number;
    }

    public int lay(int record, int into) throws IndexOutOfBoundsException, IllegalStateException {
        BookRecord from = knownRecord(record);
        BookRecord to = knownRecord(into);
        if (!from.isLive() || !to.isLive() || from == to) {
            throw new IllegalStateException("one record is not live, or they are the same");
        }
        moveCopies(from, to);
        moveWaiters(from, to);
        to.timesLent += from.timesLent;
        from.wentInto = to;
        freeThoseWronglyAside();
        freeThoseIn();
        return copiesNotLost(to);
    }

    public int found(int words, int author) throws IndexOutOfBoundsException, IllegalArgumentException {
        Name writer = knownNameOrNull(author);
        requireBetween(words, 0, ALL_WORDS);
        int count = 0;
        for (BookRecord record : records) {
            if (record != null && record.isLive() && record.hasWords(words)
                    && (writer == null || record.isBy(writer))) {
                count++;
            }
        }
        return count;
    }

    // ---- copies and readers

    public int copy(int record, int price)
            throws IndexOutOfBoundsException, IllegalArgumentException, IllegalStateException {
        BookRecord copied = knownRecord(record);
        requireBetween(price, 1, MOST_PRICE);
        int number = copyCount;
        if (!copied.isLive() || number < 0 || number >= copies.length) {
            throw new IllegalStateException("the record is not live, or there were 30 copies");
        }
        Copy added = new Copy(number, copied, price);
        copies[number] = added;
        copyCount = number + 1;
        free(added);
        return number;
    }

    public int ofCopy(int copy, int what) throws IndexOutOfBoundsException, IllegalArgumentException {
        Copy asked = knownCopy(copy);
        requireBetween(what, 0, LAST_FACT);
        return factOfCopy(asked, what);
    }

    public int reader(int kind) throws IllegalArgumentException, IllegalStateException {
        requireBetween(kind, 0, 1);
        int number = readerCount;
        if (number < 0 || number >= readers.length) {
            throw new IllegalStateException("there are 8 readers");
        }
        readers[number] = new Reader(number, kind);
        readerCount = number + 1;
        return number;
    }

    public int ofReader(int reader, int what) throws IndexOutOfBoundsException, IllegalArgumentException {
        Reader asked = knownReader(reader);
        requireBetween(what, 0, LAST_FACT);
        return factOfReader(asked, what);
    }

    public int pay(int reader, int amount) throws IndexOutOfBoundsException, IllegalArgumentException {
        Reader payer = knownReader(reader);
        requireBetween(amount, 1, payer.owes);
        payer.owes -= amount;
        return payer.owes;
    }

    // ---- loans

    public int reason(int reader, int copy) throws IndexOutOfBoundsException {
        return reasonAgainst(knownReader(reader), knownCopy(copy));
    }

    public int lend(int reader, int copy) throws IndexOutOfBoundsException, IllegalStateException {
        Reader borrower = knownReader(reader);
        Copy borrowed = knownCopy(copy);
        if (reasonAgainst(borrower, borrowed) != 0) {
            throw new IllegalStateException("the reader may not borrow the copy");
        }
        borrowed.put(LENT, borrower, today + borrower.daysOfALoan());
        borrowed.record.timesLent++;
        endWait(borrower, borrowed.record);
        return borrowed.day;
    }

    public int renew(int copy) throws IndexOutOfBoundsException, IllegalStateException {
        Copy renewed = knownCopy(copy);
        Reader reader = renewed.reader;
        if (reader == null || !mayBeRenewed(renewed)) {
            throw new IllegalStateException("the copy cannot be renewed");
        }
        renewed.day = today + reader.daysOfALoan();
        renewed.timesRenewed++;
        return renewed.day;
    }

    public int back(int copy) throws IndexOutOfBoundsException, IllegalStateException {
        Copy brought = knownCopy(copy);
        Reader reader = brought.reader;
        if (brought.place != LENT || reader == null) {
            throw new IllegalStateException("the copy is not lent");
        }
        int fine = brought.fineOn(today);
        reader.owes += fine;
        free(brought);
        return fine;
    }

    public int find(int copy) throws IndexOutOfBoundsException, IllegalStateException {
        Copy found = knownCopy(copy);
        Reader reader = found.reader;
        if (found.place != LOST || reader == null) {
            throw new IllegalStateException("the copy is not lost");
        }
        reader.owes = Math.max(0, reader.owes - found.price);
        free(found);
        return reader.owes;
    }

    // ---- waiting and days

    public int await(int reader, int record) throws IndexOutOfBoundsException, IllegalStateException {
        Reader comer = knownReader(reader);
        BookRecord wanted = knownRecord(record).liveOne();
        if (wanted.line.holds(comer) || hasCopyOf(comer, wanted)) {
            throw new IllegalStateException("the reader has a copy, or waits already");
        }
        wanted.line.join(comer);
        // Nobody else can be without one while a copy is in, so the first one in is for the comer.
        Copy first = firstIn(wanted);
        if (first == null) {
            return NONE;
        }
        free(first);
        return first.number;
    }

    public int leave(int reader, int record) throws IndexOutOfBoundsException, IllegalStateException {
        Reader leaver = knownReader(reader);
        BookRecord left = knownRecord(record).liveOne();
        if (!left.line.holds(leaver)) {
            throw new IllegalStateException("the reader does not wait for the record");
        }
        endWait(leaver, left);
        return left.line.length;
    }

    public int waiter(int record, int k) throws IndexOutOfBoundsException {
        Reader waiter = knownRecord(record).liveOne().line.at(k);
        if (waiter == null) {
            throw new IndexOutOfBoundsException("no such place");
        }
        return waiter.number;
    }

    public int pass(int days) throws IllegalArgumentException {
        requireBetween(days, 1, MOST_DAYS_TO_PASS);
        int lost = 0;
        for (int day = 0; day < days; day++) {
            lost += passOneDay();
        }
        return lost;
    }

    public int many(int what) throws IllegalArgumentException {
        requireBetween(what, 0, LAST_TOTAL);
        return total(what);
    }

    public double meanWaits() {
        if (readerCount <= 0) {
            return 0.0;
        }
        int waits = 0;
        for (BookRecord record : records) {
            if (record != null) {
                waits += record.line.length;
            }
        }
        return (double) waits / readerCount;
    }

    // ---- what would be (nothing is changed)

    public int fineIn(int copy, int days)
            throws IndexOutOfBoundsException, IllegalArgumentException, IllegalStateException {
        Copy asked = knownCopy(copy);
        requireBetween(days, 0, MOST_DAYS_AHEAD);
        if (asked.place != LENT) {
            throw new IllegalStateException("the copy is not lent");
        }
        return asked.isLostOn(today + days) ? asked.feeWhenLost() : asked.fineOn(today + days);
    }

    public int soon(int reader, int record) throws IndexOutOfBoundsException, IllegalStateException {
        Reader asker = knownReader(reader);
        BookRecord wanted = knownRecord(record).liveOne();
        if (!wanted.line.holds(asker)) {
            throw new IllegalStateException("the reader does not wait for the record");
        }
        if (firstAside(asker, wanted) != null) {
            return 0;
        }
        return daysUntilServed(asker, wanted);
    }

    public int mayBorrow(int reader) throws IndexOutOfBoundsException {
        return borrowable(knownReader(reader));
    }

    public int lostIn(int days) throws IllegalArgumentException {
        requireBetween(days, 1, MOST_DAYS_TO_PASS);
        return lostWithin(days);
    }

    public long digest() {
        long sum = DIGEST_START;
        for (int what = 0; what <= LAST_TOTAL; what++) {
            sum = digested(sum, total(what));
        }
        for (Name name : names) {
            if (name != null) {
                sum = digested(sum, name.stoodFor().number);
            }
        }
        for (BookRecord record : records) {
            if (record != null) {
                sum = digestedRecord(sum, record);
            }
        }
        for (Copy copy : copies) {
            if (copy != null) {
                sum = digestedCopy(sum, copy);
            }
        }
        for (Reader reader : readers) {
            if (reader != null) {
                sum = digestedReader(sum, reader);
            }
        }
        return digested(sum, lostWithin(DIGEST_DAYS));
    }

    // ---- what is asked for by number

    private Name knownName(int number) {
        Name name = number >= 0 && number < names.length ? names[number] : null;
        if (name == null) {
            throw new IndexOutOfBoundsException("no such name");
        }
        return name;
    }

    private Name knownNameOrNull(int number) {
        return number == NONE ? null : knownName(number);
    }

    private BookRecord knownRecord(int number) {
        BookRecord record = number >= 0 && number < records.length ? records[number] : null;
        if (record == null) {
            throw new IndexOutOfBoundsException("no such record");
        }
        return record;
    }

    private Copy knownCopy(int number) {
        Copy copy = number >= 0 && number < copies.length ? copies[number] : null;
        if (copy == null) {
            throw new IndexOutOfBoundsException("no such copy");
        }
        return copy;
    }

    private Reader knownReader(int number) {
        Reader reader = number >= 0 && number < readers.length ? readers[number] : null;
        if (reader == null) {
            throw new IndexOutOfBoundsException("no such reader");
        }
        return reader;
    }

    private static void requireBetween(int value, int least, int most) {
        if (value < least || value > most) {
            throw new IllegalArgumentException("a number is beyond what is allowed");
        }
    }

    // ---- facts and totals

    private int factOfRecord(BookRecord record, int what) {
        BookRecord live = record.liveOne();
        switch (what) {
            case 0:
                return record.author == null ? NONE : record.author.number;
            case 1:
                return record.title;
            case 2:
                return record.year;
            case 3:
                return live.number;
            case 4:
                return copiesNotLost(live);
            case 5:
                return live.line.length;
            default:
                return live.timesLent;
        }
    }

    private int factOfCopy(Copy copy, int what) {
        switch (what) {
            case 0:
                return copy.record.number;
            case 1:
                return copy.place;
            case 2:
                return copy.reader == null ? NONE : copy.reader.number;
            case 3:
                return copy.day;
            case 4:
                return copy.daysLateOn(today);
            case 5:
                return copy.timesRenewed;
            default:
                return copy.price;
        }
    }

    private int factOfReader(Reader reader, int what) {
        switch (what) {
            case 0:
                return reader.kind;
            case 1:
                return copiesOf(reader, LENT);
            case 2:
                return reader.owes;
            case 3:
                return waitsOf(reader);
            case 4:
                return copiesOf(reader, ASIDE);
            case 5:
                return lateCopiesOf(reader);
            default:
                return finesOf(reader);
        }
    }

    private int total(int what) {
        switch (what) {
            case 0:
                return today;
            case 1:
                return nameCount;
            case 2:
                return liveRecords();
            case 3:
                return copyCount;
            case 4:
                return readerCount;
            case LAST_TOTAL:
                return owedByAll();
            default:
                return copiesAt(what - FIRST_TOTAL_OF_A_PLACE);
        }
    }

    private int copiesNotLost(BookRecord record) {
        int count = 0;
        for (Copy copy : copies) {
            if (copy != null && copy.record == record && copy.place != LOST) {
                count++;
            }
        }
        return count;
    }

    private int copiesOf(Reader reader, int place) {
        int count = 0;
        for (Copy copy : copies) {
            if (copy != null && copy.place == place && copy.reader == reader) {
                count++;
            }
        }
        return count;
    }

    private int lateCopiesOf(Reader reader) {
        int count = 0;
        for (Copy copy : copies) {
            if (copy != null && copy.reader == reader && copy.daysLateOn(today) > 0) {
                count++;
            }
        }
        return count;
    }

    private int finesOf(Reader reader) {
        int fines = 0;
        for (Copy copy : copies) {
            if (copy != null && copy.reader == reader) {
                fines += copy.fineOn(today);
            }
        }
        return fines;
    }

    private int waitsOf(Reader reader) {
        int count = 0;
        for (BookRecord record : records) {
            if (record != null && record.line.holds(reader)) {
                count++;
            }
        }
        return count;
    }

    private int liveRecords() {
        int count = 0;
        for (BookRecord record : records) {
            if (record != null && record.isLive()) {
                count++;
            }
        }
        return count;
    }

    private int copiesAt(int place) {
        int count = 0;
        for (Copy copy : copies) {
            if (copy != null && copy.place == place) {
                count++;
            }
        }
        return count;
    }

    private int owedByAll() {
        int owed = 0;
        for (Reader reader : readers) {
            if (reader != null) {
                owed += reader.owes;
            }
        }
        return owed;
    }

    // ---- borrowing and renewing

    private int reasonAgainst(Reader reader, Copy copy) {
        if (copy.place != IN && !copy.isAsideFor(reader, copy.record)) {
            return 1;
        }
        if (copiesOf(reader, LENT) >= reader.mostCopies()) {
            return 2;
        }
        if (reader.owes > MOST_OWED_BY_A_BORROWER) {
            return 3;
        }
        if (lateCopiesOf(reader) > 0) {
            return 4;
        }
        return 0;
    }

    private int borrowable(Reader reader) {
        int count = 0;
        for (Copy copy : copies) {
            if (copy != null && reasonAgainst(reader, copy) == 0) {
                count++;
            }
        }
        return count;
    }

    private boolean mayBeRenewed(Copy copy) {
        return copy.place == LENT
                && copy.daysLateOn(today) == 0
                && copy.timesRenewed < MOST_RENEWALS
                && firstWithNoneAside(copy.record) == null;
    }

    private boolean hasCopyOf(Reader reader, BookRecord record) {
        for (Copy copy : copies) {
            if (copy != null && copy.record == record && copy.place == LENT && copy.reader == reader) {
                return true;
            }
        }
        return false;
    }

    // ---- who waits, and what is aside

    private Copy firstAside(Reader reader, BookRecord record) {
        for (Copy copy : copies) {
            if (copy != null && copy.isAsideFor(reader, record)) {
                return copy;
            }
        }
        return null;
    }

    private Copy firstIn(BookRecord record) {
        for (Copy copy : copies) {
            if (copy != null && copy.record == record && copy.place == IN) {
                return copy;
            }
        }
        return null;
    }

    private Reader firstWithNoneAside(BookRecord record) {
        for (Reader waiter : record.line.readers) {
            if (waiter != null && firstAside(waiter, record) == null) {
                return waiter;
            }
        }
        return null;
    }

    private void free(Copy copy) {
        copy.put(IN, null, NONE);
        Reader next = firstWithNoneAside(copy.record);
        if (next != null) {
            copy.put(ASIDE, next, today + DAYS_ASIDE);
        }
    }

    private void endWait(Reader reader, BookRecord record) {
        // The reader must be out of the line first, or its own copy would be aside for it again.
        record.line.drop(reader);
        for (Copy copy : copies) {
            if (copy != null && copy.isAsideFor(reader, record)) {
                free(copy);
            }
        }
    }

    // ---- laying together

    private void moveCopies(BookRecord from, BookRecord to) {
        for (Copy copy : copies) {
            if (copy != null && copy.record == from) {
                copy.record = to;
            }
        }
    }

    // The copies must have moved before: who has one of them does not go on to wait.
    private void moveWaiters(BookRecord from, BookRecord to) {
        for (Reader waiter : from.line.readers) {
            if (waiter != null && !to.line.holds(waiter) && !hasCopyOf(waiter, to)) {
                to.line.join(waiter);
            }
        }
        from.line.clear();
    }

    private void freeThoseWronglyAside() {
        for (Copy copy : copies) {
            if (copy != null && copy.place == ASIDE && !isRightlyAside(copy)) {
                free(copy);
            }
        }
    }

    private boolean isRightlyAside(Copy copy) {
        return copy.record.line.holds(copy.reader) && firstAside(copy.reader, copy.record) == copy;
    }

    // One that is in and becomes free goes to a waiter or stays where it is: just what is due.
    private void freeThoseIn() {
        for (Copy copy : copies) {
            if (copy != null && copy.place == IN) {
                free(copy);
            }
        }
    }

    // ---- days

    private int passOneDay() {
        today++;
        int lost = 0;
        for (Copy copy : copies) {
            if (copy != null && copy.place == ASIDE && copy.day < today) {
                endWait(copy.reader, copy.record);
            } else if (copy != null && copy.isLostOn(today)) {
                lose(copy);
                lost++;
            }
        }
        return lost;
    }

    private void lose(Copy copy) {
        Reader reader = copy.reader;
        if (reader != null) {
            reader.owes += copy.feeWhenLost();
        }
        copy.put(LOST, reader, NONE);
    }

    private int lostWithin(int days) {
        int count = 0;
        for (Copy copy : copies) {
            if (copy != null && copy.isLostOn(today + days)) {
                count++;
            }
        }
        return count;
    }

    // ---- how long a reader would have to wait

    private int daysUntilServed(Reader asker, BookRecord wanted) {
        reckonWhenThere(wanted);
        for (Reader waiter : wanted.line.readers) {
            if (waiter != null && firstAside(waiter, wanted) == null) {
                Copy next = firstThere(wanted);
                if (next == null) {
                    return NONE;
                }
                if (waiter == asker) {
                    return next.thereIn;
                }
                next.thereIn += waiter.daysOfALoan();
            }
        }
        return NONE;
    }

    private void reckonWhenThere(BookRecord record) {
        for (Copy copy : copies) {
            if (copy != null && copy.record == record) {
                copy.thereIn = copy.daysUntilThere(today);
            }
        }
    }

    private Copy firstThere(BookRecord record) {
        Copy first = null;
        for (Copy copy : copies) {
            if (copy != null && copy.record == record && copy.place != LOST
                    && (first == null || copy.thereIn < first.thereIn)) {
                first = copy;
            }
        }
        return first;
    }

    // ---- the checksum

    private static long digested(long sum, int value) {
        return sum * DIGEST_FACTOR + value;
    }

    private long digestedRecord(long before, BookRecord record) {
        long sum = before;
        for (int what = 0; what <= LAST_FACT; what++) {
            sum = digested(sum, factOfRecord(record, what));
        }
        for (Reader waiter : record.liveOne().line.readers) {
            if (waiter != null) {
                sum = digested(sum, waiter.number);
            }
        }
        return sum;
    }

    private long digestedCopy(long before, Copy copy) {
        long sum = before;
        for (int what = 0; what <= LAST_FACT; what++) {
            sum = digested(sum, factOfCopy(copy, what));
        }
        return sum;
    }

    private long digestedReader(long before, Reader reader) {
        long sum = before;
        for (int what = 0; what <= LAST_FACT; what++) {
            sum = digested(sum, factOfReader(reader, what));
        }
        return digested(sum, borrowable(reader));
    }

    /** A name, which stands for itself or for what another one stands for. */
    private static final class Name {

        final int number;
        Name variantOf;

        Name(int number) {
            this.number = number;
        }

        Name stoodFor() {
            Name name = this;
            for (int steps = 0; steps < MOST_NAMES && name.variantOf != null; steps++) {
                name = name.variantOf;
            }
            return name;
        }

        boolean leadsTo(Name goal) {
            Name name = this;
            for (int steps = 0; steps < MOST_NAMES && name != null; steps++) {
                if (name == goal) {
                    return true;
                }
                name = name.variantOf;
            }
            return false;
        }
    }

    /** A record of the catalogue; it is live until it goes over into another one. */
    private static final class BookRecord {

        final int number;
        final Name author;
        final int title;
        final int year;
        final WaitingLine line = new WaitingLine();
        BookRecord wentInto;
        int timesLent;

        BookRecord(int number, Name author, int title, int year) {
            this.number = number;
            this.author = author;
            this.title = title;
            this.year = year;
        }

        boolean isLive() {
            return wentInto == null;
        }

        BookRecord liveOne() {
            BookRecord record = this;
            for (int steps = 0; steps < MOST_RECORDS && record.wentInto != null; steps++) {
                record = record.wentInto;
            }
            return record;
        }

        boolean hasWords(int words) {
            return (title & words) == words;
        }

        boolean isBy(Name name) {
            return author != null && name != null && author.stoodFor() == name.stoodFor();
        }

        int likenessTo(BookRecord other) {
            return likenessOfAuthors(other) + likenessOfTitles(other) + likenessOfYears(other);
        }

        private int likenessOfAuthors(BookRecord other) {
            boolean bothHaveNone = author == null && other.author == null;
            return bothHaveNone || isBy(other.author) ? 30 : 0;
        }

        private int likenessOfTitles(BookRecord other) {
            int wordsOfBoth = Integer.bitCount(title & other.title);
            int wordsOfEither = Integer.bitCount(title | other.title);
            return wordsOfEither == 0 ? 0 : 50 * wordsOfBoth / wordsOfEither;
        }

        private int likenessOfYears(BookRecord other) {
            return Math.max(0, 20 - 4 * Math.abs(year - other.year));
        }
    }

    /** Those who wait for a record, in the order in which they began to. */
    private static final class WaitingLine {

        final Reader[] readers = new Reader[MOST_READERS];
        int length;

        boolean holds(Reader reader) {
            for (Reader waiter : readers) {
                if (waiter != null && waiter == reader) {
                    return true;
                }
            }
            return false;
        }

        Reader at(int place) {
            return place >= 0 && place < readers.length ? readers[place] : null;
        }

        void join(Reader reader) {
            if (length >= 0 && length < readers.length) {
                readers[length] = reader;
                length++;
            }
        }

        void drop(Reader reader) {
            int kept = 0;
            for (int place = 0; place < readers.length; place++) {
                Reader waiter = readers[place];
                readers[place] = null;
                if (waiter != null && waiter != reader && kept >= 0 && kept <= place) {
                    readers[kept] = waiter;
                    kept++;
                }
            }
            length = kept;
        }

        void clear() {
            for (int place = 0; place < readers.length; place++) {
                readers[place] = null;
            }
            length = 0;
        }
    }

    /** A copy of a record, on the shelf or elsewhere. */
    private static final class Copy {

        final int number;
        final int price;
        BookRecord record;
        int place = IN;
        // Who has it, for whom it is aside, or who had it as it was lost.
        Reader reader;
        // On which it is due, or till which it is aside.
        int day = NONE;
        int timesRenewed;
        // Holds good only while soon() reckons; kept here so that no call needs a new row.
        int thereIn;

        Copy(int number, BookRecord record, int price) {
            this.number = number;
            this.record = record;
            this.price = price;
        }

        void put(int newPlace, Reader newReader, int newDay) {
            place = newPlace;
            reader = newReader;
            day = newDay;
            timesRenewed = 0;
        }

        boolean isAsideFor(Reader somebody, BookRecord something) {
            return place == ASIDE && reader == somebody && record == something;
        }

        int daysLateOn(int someDay) {
            return place == LENT && someDay > day ? someDay - day : 0;
        }

        boolean isLostOn(int someDay) {
            return daysLateOn(someDay) >= DAYS_LATE_UNTIL_LOST;
        }

        int fineOn(int someDay) {
            return Math.min(MOST_FINE, FINE_A_DAY * daysLateOn(someDay));
        }

        int feeWhenLost() {
            return price + FEE_FOR_A_LOST_ONE;
        }

        int daysUntilThere(int today) {
            if (place == LENT) {
                return Math.max(0, day - today);
            }
            return place == ASIDE && reader != null ? reader.daysOfALoan() : 0;
        }
    }

    /** One who borrows copies and waits for records. */
    private static final class Reader {

        final int number;
        final int kind;
        int owes;

        Reader(int number, int kind) {
            this.number = number;
            this.kind = kind;
        }

        int mostCopies() {
            return kind == 0 ? 2 : 4;
        }

        int daysOfALoan() {
            return kind == 0 ? 14 : 28;
        }
    }
}
