/** Promises 11 to 15, and what the terms say of copies and readers: each edge by itself. */
public final class EdgesOfCopiesAndReadersTest {

    private static final int NONE = -1;
    private static final int LEAST = Integer.MIN_VALUE;
    private static final int GREATEST = Integer.MAX_VALUE;

    private EdgesOfCopiesAndReadersTest() {
    }

    public static void main(String[] args) {
        Edges.run(EdgesOfCopiesAndReadersTest.class);
    }

    // ---- copies

    @Edge(promise = Edge.TERMS, words = "At most 30 COPIES ever, numbered from 0")
    static void thirtyCopiesFrom0() {
        BookplateHall hall = Halls.withRecords(0, 2);
        for (int number = 0; number < 30; number++) {
            Check.same("copies", number, hall.many(3));
            Check.same("copy()", number, hall.copy(number % 2, 200 - number));
        }
        Facts.totals(hall, 0, 0, 2, 30, 0, 30, 0, 0, 0, 0);
        Facts.ofCopy(hall, 0, 0, Facts.IN, NONE, NONE, 0, 0, 200);
        Facts.ofCopy(hall, 29, 1, Facts.IN, NONE, NONE, 0, 0, 171);
    }

    @Edge(promise = 11, words = "or there were 30")
    static void theThirtyFirstCopy() {
        BookplateHall hall = Halls.withCopies(2, 29, 1, 0);
        hall.lend(0, 0);
        Halls.pass(hall, 44);
        Check.same("the 30th, with a lost one", 29, hall.copy(0, 1));
        Check.refuses(Check.STATE, "the 31st", hall, () -> hall.copy(0, 1));
        Check.refuses(Check.STATE, "the 31st of a record without copies", hall, () -> hall.copy(1, 1));
        Check.same("copies", 30, hall.many(3));
        Check.refuses(Check.INDEX, "ofCopy(30, 0)", hall, () -> hall.ofCopy(30, 0));
    }

    @Edge(promise = Edge.TERMS, words = "each with a PRICE, 1 to 200.")
    static void theLeastAndTheGreatestPrice() {
        BookplateHall hall = Halls.withReaders(1, 0);
        hall.copy(0, 1);
        hall.copy(0, 200);
        Check.same("the least", 1, hall.ofCopy(0, 6));
        Check.same("the greatest", 200, hall.ofCopy(1, 6));
        hall.lend(0, 0);
        hall.lend(0, 1);
        Halls.pass(hall, 44);
        Check.same("owed for both", 41 + 240, hall.ofReader(0, 2));
    }

    @Edge(promise = 11, words = "Throws `IllegalArgumentException` if price is not 1 to 200")
    static void aPriceBeyond() {
        BookplateHall hall = Halls.withRecords(0, 1);
        Check.refuses(Check.ARGUMENT, "price 0", hall, () -> hall.copy(0, 0));
        Check.refuses(Check.ARGUMENT, "price -1", hall, () -> hall.copy(0, -1));
        Check.refuses(Check.ARGUMENT, "price 201", hall, () -> hall.copy(0, 201));
        Check.refuses(Check.ARGUMENT, "the least", hall, () -> hall.copy(0, LEAST));
        Check.refuses(Check.ARGUMENT, "the greatest", hall, () -> hall.copy(0, GREATEST));
        Check.same("price 1", 0, hall.copy(0, 1));
        Check.same("price 200", 1, hall.copy(0, 200));
    }

    @Edge(promise = 11, words = "Throws `IndexOutOfBoundsException` if there is no such RECORD")
    static void noSuchRecordToCopy() {
        BookplateHall hall = Halls.withRecords(0, 2);
        Check.refuses(Check.INDEX, "record -1", hall, () -> hall.copy(-1, 1));
        Check.refuses(Check.INDEX, "record 2", hall, () -> hall.copy(2, 1));
        Check.refuses(Check.INDEX, "record 20", hall, () -> hall.copy(20, 1));
        Check.refuses(Check.INDEX, "the least", hall, () -> hall.copy(LEAST, 1));
        Check.refuses(Check.INDEX, "the greatest", hall, () -> hall.copy(GREATEST, 1));
        Check.refuses(Check.INDEX, "record 2 and price 0", hall, () -> hall.copy(2, 0));
        Check.same("record 1", 0, hall.copy(1, 1));
    }

    @Edge(promise = 11, words = "Throws `IllegalStateException` if the RECORD is not LIVE")
    static void noCopyOfARecordThatIsNotLive() {
        BookplateHall hall = Halls.withRecords(0, 3);
        hall.lay(0, 1);
        Check.refuses(Check.STATE, "of one laid", hall, () -> hall.copy(0, 1));
        Check.refuses(Check.ARGUMENT, "of one laid, of price 0", hall, () -> hall.copy(0, 0));
        hall.lay(1, 2);
        Check.refuses(Check.STATE, "of one that others went over into", hall, () -> hall.copy(1, 1));
        Check.same("of the live one", 0, hall.copy(2, 1));
    }

    @Edge(promise = 11, words = "Adds a COPY, FREE at once.")
    static void aNewCopyWithNobodyWaiting() {
        BookplateHall hall = Halls.withReaders(2, 0);
        hall.await(0, 1);
        hall.copy(0, 9);
        Facts.ofCopy(hall, 0, 0, Facts.IN, NONE, NONE, 0, 0, 9);
    }

    @Edge(promise = 11, words = "Adds a COPY, FREE at once.")
    static void newCopiesForThoseWhoWait() {
        BookplateHall hall = Halls.withReaders(1, 0, 0, 1);
        hall.await(2, 0);
        hall.await(0, 0);
        hall.pass(3);
        hall.copy(0, 9);
        Facts.ofCopy(hall, 0, 0, Facts.ASIDE, 2, 9, 0, 0, 9);
        hall.pass(1);
        hall.copy(0, 8);
        Facts.ofCopy(hall, 1, 0, Facts.ASIDE, 0, 10, 0, 0, 8);
        hall.copy(0, 7);
        Facts.ofCopy(hall, 2, 0, Facts.IN, NONE, NONE, 0, 0, 7);
    }

    // ---- what is told of a copy

    @Edge(promise = 12, words = "Throws `IndexOutOfBoundsException` if there is no such COPY")
    static void noSuchCopyToTellOf() {
        BookplateHall hall = Halls.withCopies(1, 2, 1);
        Check.refuses(Check.INDEX, "ofCopy(-1, 0)", hall, () -> hall.ofCopy(-1, 0));
        Check.refuses(Check.INDEX, "ofCopy(2, 0)", hall, () -> hall.ofCopy(2, 0));
        Check.refuses(Check.INDEX, "ofCopy(2, 7)", hall, () -> hall.ofCopy(2, 7));
        Check.refuses(Check.INDEX, "ofCopy(30, 0)", hall, () -> hall.ofCopy(30, 0));
        Check.refuses(Check.INDEX, "ofCopy(least, 0)", hall, () -> hall.ofCopy(LEAST, 0));
        Check.refuses(Check.INDEX, "ofCopy(greatest, 0)", hall, () -> hall.ofCopy(GREATEST, 0));
        Check.same("ofCopy(1, 0)", 0, hall.ofCopy(1, 0));
    }

    @Edge(promise = 12, words = "Throws `IllegalArgumentException` if what is not 0 to 6")
    static void nothingToTellOfACopy() {
        BookplateHall hall = Halls.withCopies(1, 1, 33);
        Check.refuses(Check.ARGUMENT, "ofCopy(0, -1)", hall, () -> hall.ofCopy(0, -1));
        Check.refuses(Check.ARGUMENT, "ofCopy(0, 7)", hall, () -> hall.ofCopy(0, 7));
        Check.refuses(Check.ARGUMENT, "ofCopy(0, least)", hall, () -> hall.ofCopy(0, LEAST));
        Check.refuses(Check.ARGUMENT, "ofCopy(0, greatest)", hall, () -> hall.ofCopy(0, GREATEST));
        Check.same("ofCopy(0, 0)", 0, hall.ofCopy(0, 0));
        Check.same("ofCopy(0, 6)", 33, hall.ofCopy(0, 6));
    }

    @Edge(promise = Edge.TERMS,
            words = "each of a LIVE RECORD, IN (0) the shelf, LENT (1), ASIDE (2) for a READER, or LOST (3)")
    static void whereACopyIs() {
        BookplateHall hall = Halls.withCopies(1, 1, 1, 0, 1);
        Check.same("in", 0, hall.ofCopy(0, 1));
        hall.lend(0, 0);
        Check.same("lent", 1, hall.ofCopy(0, 1));
        hall.await(1, 0);
        hall.back(0);
        Check.same("aside", 2, hall.ofCopy(0, 1));
        hall.lend(1, 0);
        Halls.pass(hall, 58);
        Check.same("lost", 3, hall.ofCopy(0, 1));
        hall.find(0);
        Check.same("in again", 0, hall.ofCopy(0, 1));
    }

    @Edge(promise = 12,
            words = "2 the READER who has it, for whom it is ASIDE, or who had it as it was LOST (NONE)")
    static void theReaderOfACopy() {
        BookplateHall hall = Halls.withCopies(1, 1, 1, 0, 1);
        Check.same("in", NONE, hall.ofCopy(0, 2));
        hall.lend(1, 0);
        Check.same("who has it", 1, hall.ofCopy(0, 2));
        hall.await(0, 0);
        hall.back(0);
        Check.same("for whom it is aside", 0, hall.ofCopy(0, 2));
        hall.lend(0, 0);
        Halls.pass(hall, 44);
        Check.same("who had it", 0, hall.ofCopy(0, 2));
        hall.find(0);
        Check.same("in again", NONE, hall.ofCopy(0, 2));
    }

    @Edge(promise = 12, words = "3 the DAY on which it is DUE, or till which it is ASIDE (NONE otherwise)")
    static void theDayOfACopy() {
        BookplateHall hall = Halls.withCopies(1, 1, 1, 0, 1);
        Check.same("in", NONE, hall.ofCopy(0, 3));
        hall.pass(2);
        hall.lend(0, 0);
        Check.same("due", 16, hall.ofCopy(0, 3));
        hall.pass(15);
        Check.same("due, though it is late", 16, hall.ofCopy(0, 3));
        hall.await(1, 0);
        hall.back(0);
        Check.same("aside till", 23, hall.ofCopy(0, 3));
        hall.lend(1, 0);
        Halls.pass(hall, 58);
        Check.same("lost", NONE, hall.ofCopy(0, 3));
        hall.find(0);
        Check.same("in again", NONE, hall.ofCopy(0, 3));
    }

    @Edge(promise = 12, words = "4 for how many DAYS it is LATE")
    static void howLateACopyIs() {
        BookplateHall hall = Halls.withCopies(1, 1, 1, 0, 0);
        hall.pass(20);
        Check.same("in", 0, hall.ofCopy(0, 4));
        hall.lend(0, 0);
        Check.same("as it is lent", 0, hall.ofCopy(0, 4));
        hall.pass(13);
        Check.same("the day ahead of the one on which it is due", 0, hall.ofCopy(0, 4));
        hall.pass(1);
        Check.same("the day on which it is due", 0, hall.ofCopy(0, 4));
        hall.pass(1);
        Check.same("a day behind it", 1, hall.ofCopy(0, 4));
        hall.pass(28);
        Check.same("29 days behind it", 29, hall.ofCopy(0, 4));
        hall.pass(1);
        Check.same("lost", 0, hall.ofCopy(0, 4));
        hall.find(0);
        hall.await(1, 0);
        hall.pass(6);
        Check.same("aside", 0, hall.ofCopy(0, 4));
    }

    @Edge(promise = 12, words = "5 how often it was RENEWED, by who has it (0)")
    static void howOftenACopyWasRenewed() {
        BookplateHall hall = Halls.withCopies(1, 1, 1, 0, 1);
        Check.same("in", 0, hall.ofCopy(0, 5));
        hall.lend(0, 0);
        Check.same("never", 0, hall.ofCopy(0, 5));
        hall.renew(0);
        Check.same("once", 1, hall.ofCopy(0, 5));
        hall.renew(0);
        Check.same("twice", 2, hall.ofCopy(0, 5));
        hall.back(0);
        Check.same("in again", 0, hall.ofCopy(0, 5));
        hall.lend(1, 0);
        Check.same("never, by who has it now", 0, hall.ofCopy(0, 5));
        hall.renew(0);
        hall.await(0, 0);
        hall.back(0);
        Check.same("aside", 0, hall.ofCopy(0, 5));
        hall.lend(0, 0);
        hall.renew(0);
        Halls.pass(hall, 44);
        Check.same("lost", 0, hall.ofCopy(0, 5));
    }

    @Edge(promise = 12, words = "6 its PRICE")
    static void aPriceStays() {
        BookplateHall hall = Halls.withCopies(1, 1, 123, 0);
        hall.lend(0, 0);
        Check.same("lent", 123, hall.ofCopy(0, 6));
        Halls.pass(hall, 44);
        Check.same("lost", 123, hall.ofCopy(0, 6));
        hall.find(0);
        Check.same("found", 123, hall.ofCopy(0, 6));
    }

    // ---- readers

    @Edge(promise = Edge.TERMS, words = "At most 8 READERS, numbered from 0")
    static void eightReadersFrom0() {
        BookplateHall hall = new BookplateHall();
        for (int number = 0; number < 8; number++) {
            Check.same("readers", number, hall.many(4));
            Check.same("reader()", number, hall.reader(number / 4));
        }
        Check.same("readers", 8, hall.many(4));
        Facts.ofReader(hall, 3, 0, 0, 0, 0, 0, 0, 0);
        Facts.ofReader(hall, 7, 1, 0, 0, 0, 0, 0, 0);
    }

    @Edge(promise = 13, words = "Throws `IllegalStateException` if there are 8")
    static void theNinthReader() {
        BookplateHall hall = Halls.withReaders(0, 0, 0, 0, 0, 0, 0, 0);
        Check.same("the eighth", 7, hall.reader(1));
        Check.refuses(Check.STATE, "the ninth of kind 0", hall, () -> hall.reader(0));
        Check.refuses(Check.STATE, "the ninth of kind 1", hall, () -> hall.reader(1));
        Check.refuses(Check.ARGUMENT, "the ninth of kind 2", hall, () -> hall.reader(2));
        Check.refuses(Check.ARGUMENT, "the ninth of kind -1", hall, () -> hall.reader(-1));
        Check.same("readers", 8, hall.many(4));
        Check.refuses(Check.INDEX, "ofReader(8, 0)", hall, () -> hall.ofReader(8, 0));
    }

    @Edge(promise = 13, words = "Throws `IllegalArgumentException` if kind is not 0 to 1")
    static void aKindBeyond() {
        BookplateHall hall = new BookplateHall();
        Check.refuses(Check.ARGUMENT, "kind -1", hall, () -> hall.reader(-1));
        Check.refuses(Check.ARGUMENT, "kind 2", hall, () -> hall.reader(2));
        Check.refuses(Check.ARGUMENT, "the least", hall, () -> hall.reader(LEAST));
        Check.refuses(Check.ARGUMENT, "the greatest", hall, () -> hall.reader(GREATEST));
        Check.same("kind 0", 0, hall.reader(0));
        Check.same("kind 1", 1, hall.reader(1));
    }

    @Edge(promise = Edge.TERMS, words = "0 may have 2 COPIES at the same time, each for 14 DAYS")
    static void kind0HasTwoFor14Days() {
        BookplateHall hall = Halls.withCopies(1, 3, 1, 0);
        Check.same("due of the first", 14, hall.lend(0, 0));
        Check.same("due of the second", 14, hall.lend(0, 1));
        Check.refuses(Check.STATE, "a third", hall, () -> hall.lend(0, 2));
        hall.back(0);
        Check.same("a third at another time", 14, hall.lend(0, 2));
    }

    @Edge(promise = Edge.TERMS, words = "1 may have 4, for 28.")
    static void kind1HasFourFor28Days() {
        BookplateHall hall = Halls.withCopies(1, 5, 1, 1);
        for (int copy = 0; copy < 4; copy++) {
            Check.same("due of copy " + copy, 28, hall.lend(0, copy));
        }
        Check.refuses(Check.STATE, "a fifth", hall, () -> hall.lend(0, 4));
        hall.back(3);
        Check.same("a fifth at another time", 28, hall.lend(0, 4));
    }

    @Edge(promise = Edge.TERMS, words = "What a READER OWES is 0 at first.")
    static void aReaderOwesNothingAtFirst() {
        BookplateHall hall = Halls.owing(100, 0);
        Check.same("reader()", 1, hall.reader(0));
        Check.same("owes", 0, hall.ofReader(1, 2));
        Check.same("all owe", 100, hall.many(9));
    }

    // ---- what is told of a reader

    @Edge(promise = 14, words = "Throws `IndexOutOfBoundsException` if there is no such READER")
    static void noSuchReaderToTellOf() {
        BookplateHall hall = Halls.withReaders(0, 0, 1);
        Check.refuses(Check.INDEX, "ofReader(-1, 0)", hall, () -> hall.ofReader(-1, 0));
        Check.refuses(Check.INDEX, "ofReader(2, 0)", hall, () -> hall.ofReader(2, 0));
        Check.refuses(Check.INDEX, "ofReader(2, 7)", hall, () -> hall.ofReader(2, 7));
        Check.refuses(Check.INDEX, "ofReader(8, 0)", hall, () -> hall.ofReader(8, 0));
        Check.refuses(Check.INDEX, "ofReader(least, 0)", hall, () -> hall.ofReader(LEAST, 0));
        Check.refuses(Check.INDEX, "ofReader(greatest, 0)", hall, () -> hall.ofReader(GREATEST, 0));
        Check.same("ofReader(1, 0)", 1, hall.ofReader(1, 0));
    }

    @Edge(promise = 14, words = "Throws `IllegalArgumentException` if what is not 0 to 6")
    static void nothingToTellOfAReader() {
        BookplateHall hall = Halls.withReaders(0, 1);
        Check.refuses(Check.ARGUMENT, "ofReader(0, -1)", hall, () -> hall.ofReader(0, -1));
        Check.refuses(Check.ARGUMENT, "ofReader(0, 7)", hall, () -> hall.ofReader(0, 7));
        Check.refuses(Check.ARGUMENT, "ofReader(0, least)", hall, () -> hall.ofReader(0, LEAST));
        Check.refuses(Check.ARGUMENT, "ofReader(0, greatest)", hall, () -> hall.ofReader(0, GREATEST));
        Check.same("ofReader(0, 0)", 1, hall.ofReader(0, 0));
        Check.same("ofReader(0, 6)", 0, hall.ofReader(0, 6));
    }

    @Edge(promise = 14, words = "1 how many COPIES it has")
    static void noneToFourCopies() {
        BookplateHall hall = Halls.withCopies(1, 4, 1, 1, 0);
        for (int copy = 0; copy < 4; copy++) {
            Check.same("copies", copy, hall.ofReader(0, 1));
            hall.lend(0, copy);
        }
        Check.same("four", 4, hall.ofReader(0, 1));
        Check.same("none of the other", 0, hall.ofReader(1, 1));
        hall.back(2);
        Check.same("three, as one is back", 3, hall.ofReader(0, 1));
        hall.await(1, 0);
        Check.same("one aside is not had", 0, hall.ofReader(1, 1));
        Halls.pass(hall, 58);
        Check.same("lost ones are not had", 0, hall.ofReader(0, 1));
    }

    @Edge(promise = 14, words = "3 for how many RECORDS it WAITS")
    static void noneToTwentyRecordsWaitedFor() {
        BookplateHall hall = Halls.withReaders(20, 0, 0);
        for (int record = 0; record < 20; record++) {
            Check.same("waits", record, hall.ofReader(1, 3));
            hall.await(1, record);
        }
        Check.same("twenty", 20, hall.ofReader(1, 3));
        Check.same("none of the other", 0, hall.ofReader(0, 3));
        hall.lay(0, 1);
        Check.same("two of them are one", 19, hall.ofReader(1, 3));
        hall.leave(1, 1);
        Check.same("one left", 18, hall.ofReader(1, 3));
    }

    @Edge(promise = 14, words = "4 how many COPIES are ASIDE for it")
    static void noneToTwentyCopiesAside() {
        BookplateHall hall = Halls.withReaders(20, 0, 0);
        for (int record = 0; record < 20; record++) {
            hall.copy(record, 1);
            Check.same("aside", record, hall.ofReader(0, 4));
            hall.await(0, record);
        }
        Check.same("twenty", 20, hall.ofReader(0, 4));
        Check.same("none of the other", 0, hall.ofReader(1, 4));
        hall.lend(0, 0);
        Check.same("one lent", 19, hall.ofReader(0, 4));
        hall.pass(6);
        Check.same("till that day", 19, hall.ofReader(0, 4));
        hall.pass(1);
        Check.same("behind that day", 0, hall.ofReader(0, 4));
    }

    @Edge(promise = 14, words = "5 how many of those that it has are LATE")
    static void noneToFourLate() {
        BookplateHall hall = Halls.withCopies(1, 4, 1, 1, 1);
        for (int copy = 0; copy < 4; copy++) {
            hall.lend(0, copy);
            hall.pass(1);
        }
        hall.pass(24);
        Check.same("none, as the first is due", 0, hall.ofReader(0, 5));
        for (int late = 1; late <= 4; late++) {
            hall.pass(1);
            Check.same("late ones", late, hall.ofReader(0, 5));
        }
        Check.same("none of the other", 0, hall.ofReader(1, 5));
        hall.back(1);
        Check.same("three, as one is back", 3, hall.ofReader(0, 5));
        hall.pass(26);
        Check.same("two, as one is lost", 2, hall.ofReader(0, 5));
    }

    @Edge(promise = 14, words = "6 what it would OWE more, if it brought all BACK now")
    static void whatAllWouldCost() {
        BookplateHall hall = Halls.withCopies(1, 4, 1, 1, 1);
        hall.lend(1, 3);
        hall.lend(0, 0);
        hall.pass(10);
        hall.lend(0, 1);
        hall.lend(0, 2);
        hall.renew(2);
        hall.pass(18);
        Check.same("nothing, as the first is due", 0, hall.ofReader(0, 6));
        hall.pass(1);
        Check.same("a day", 2, hall.ofReader(0, 6));
        hall.pass(9);
        Check.same("ten days", 20, hall.ofReader(0, 6));
        hall.pass(10);
        Check.same("20 days, and twice ten", 40 + 20 + 20, hall.ofReader(0, 6));
        hall.pass(1);
        Check.same("21 days, and twice eleven", 40 + 22 + 22, hall.ofReader(0, 6));
        int before = hall.ofReader(0, 2);
        Check.same("back", 84, hall.back(0) + hall.back(1) + hall.back(2));
        Check.same("owes as much more", before + 84, hall.ofReader(0, 2));
        Check.same("nothing to bring back", 0, hall.ofReader(0, 6));
    }

    @Edge(promise = 14, words = "6 what it would OWE more, if it brought all BACK now")
    static void eachOneCosts40AtMost() {
        BookplateHall hall = Halls.withCopies(1, 4, 200, 1);
        for (int copy = 0; copy < 4; copy++) {
            hall.lend(0, copy);
        }
        Halls.pass(hall, 28 + 29);
        Check.same("four times 40", 160, hall.ofReader(0, 6));
        hall.pass(1);
        Check.same("nothing, as all are lost", 0, hall.ofReader(0, 6));
        Check.same("owes", 960, hall.ofReader(0, 2));
    }

    // ---- paying

    @Edge(promise = 15, words = "Throws `IndexOutOfBoundsException` if there is no such READER")
    static void noSuchReaderToPay() {
        BookplateHall hall = Halls.owing(50, 0);
        Check.refuses(Check.INDEX, "pay(-1, 1)", hall, () -> hall.pay(-1, 1));
        Check.refuses(Check.INDEX, "pay(1, 1)", hall, () -> hall.pay(1, 1));
        Check.refuses(Check.INDEX, "pay(1, 0)", hall, () -> hall.pay(1, 0));
        Check.refuses(Check.INDEX, "pay(8, 1)", hall, () -> hall.pay(8, 1));
        Check.refuses(Check.INDEX, "pay(least, 1)", hall, () -> hall.pay(LEAST, 1));
        Check.refuses(Check.INDEX, "pay(greatest, 1)", hall, () -> hall.pay(GREATEST, 1));
        Check.same("pay(0, 1)", 49, hall.pay(0, 1));
    }

    @Edge(promise = 15, words = "Throws `IllegalArgumentException` if amount is not 1 to what it OWES")
    static void anAmountBeyond() {
        BookplateHall hall = Halls.owing(50, 0);
        Check.refuses(Check.ARGUMENT, "0", hall, () -> hall.pay(0, 0));
        Check.refuses(Check.ARGUMENT, "-1", hall, () -> hall.pay(0, -1));
        Check.refuses(Check.ARGUMENT, "51", hall, () -> hall.pay(0, 51));
        Check.refuses(Check.ARGUMENT, "the least", hall, () -> hall.pay(0, LEAST));
        Check.refuses(Check.ARGUMENT, "the greatest", hall, () -> hall.pay(0, GREATEST));
        Check.same("1", 49, hall.pay(0, 1));
        Check.refuses(Check.ARGUMENT, "50, as 49 are owed", hall, () -> hall.pay(0, 50));
        Check.same("49", 0, hall.pay(0, 49));
    }

    @Edge(promise = 15, words = "Throws `IllegalArgumentException` if amount is not 1 to what it OWES")
    static void whoOwesNothingPaysNothing() {
        BookplateHall hall = Halls.withReaders(0, 0);
        Check.refuses(Check.ARGUMENT, "1", hall, () -> hall.pay(0, 1));
        Check.refuses(Check.ARGUMENT, "0", hall, () -> hall.pay(0, 0));
        Check.refuses(Check.ARGUMENT, "-1", hall, () -> hall.pay(0, -1));
    }

    @Edge(promise = 15, words = "Returns what it OWES then.")
    static void payingAllAtOnceOrOneByOne() {
        BookplateHall hall = Halls.owing(43, 0);
        Check.same("40", 3, hall.pay(0, 40));
        Check.same("1", 2, hall.pay(0, 1));
        Check.same("1", 1, hall.pay(0, 1));
        Check.same("1", 0, hall.pay(0, 1));
        BookplateHall all = Halls.owing(240, 0);
        Check.same("240", 0, all.pay(0, 240));
        Check.same("owes", 0, all.ofReader(0, 2));
    }
}
