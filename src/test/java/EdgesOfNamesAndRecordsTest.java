/** Promises 1 to 8 and 10, and what the terms say of names and records: each edge by itself. */
public final class EdgesOfNamesAndRecordsTest {

    private static final int NONE = -1;
    private static final int LEAST = Integer.MIN_VALUE;
    private static final int GREATEST = Integer.MAX_VALUE;

    private EdgesOfNamesAndRecordsTest() {
    }

    public static void main(String[] args) {
        Edges.run(EdgesOfNamesAndRecordsTest.class);
    }

    // ---- a new object

    @Edge(promise = 1, words = "Creates a library without NAMES, RECORDS, COPIES and READERS.")
    static void aNewLibraryHoldsNothing() {
        BookplateHall hall = new BookplateHall();
        Facts.totals(hall, 0, 0, 0, 0, 0, 0, 0, 0, 0, 0);
        Check.same("meanWaits()", 0.0, hall.meanWaits());
        Check.same("found(0, NONE)", 0, hall.found(0, NONE));
        Check.same("lostIn(40)", 0, hall.lostIn(40));
        Check.same("pass(40)", 0, hall.pass(40));
    }

    @Edge(promise = 1, words = "Creates a library without NAMES, RECORDS, COPIES and READERS.")
    static void aNewLibraryKnowsNoNumber() {
        BookplateHall hall = new BookplateHall();
        Check.refuses(Check.INDEX, "stands(0)", hall, () -> hall.stands(0));
        Check.refuses(Check.INDEX, "variant(0, 0)", hall, () -> hall.variant(0, 0));
        Check.refuses(Check.INDEX, "record(0, 1, 0)", hall, () -> hall.record(0, 1, 0));
        Check.refuses(Check.INDEX, "found(0, 0)", hall, () -> hall.found(0, 0));
        Check.refuses(Check.INDEX, "ofRecord(0, 0)", hall, () -> hall.ofRecord(0, 0));
        Check.refuses(Check.INDEX, "likeness(0, 0)", hall, () -> hall.likeness(0, 0));
        Check.refuses(Check.INDEX, "twin(0, 0)", hall, () -> hall.twin(0, 0));
        Check.refuses(Check.INDEX, "lay(0, 0)", hall, () -> hall.lay(0, 0));
        Check.refuses(Check.INDEX, "copy(0, 1)", hall, () -> hall.copy(0, 1));
        Check.refuses(Check.INDEX, "waiter(0, 0)", hall, () -> hall.waiter(0, 0));
    }

    @Edge(promise = 1, words = "Creates a library without NAMES, RECORDS, COPIES and READERS.")
    static void aNewLibraryKnowsNoCopyAndNoReader() {
        BookplateHall hall = new BookplateHall();
        Check.refuses(Check.INDEX, "ofCopy(0, 0)", hall, () -> hall.ofCopy(0, 0));
        Check.refuses(Check.INDEX, "ofReader(0, 0)", hall, () -> hall.ofReader(0, 0));
        Check.refuses(Check.INDEX, "pay(0, 1)", hall, () -> hall.pay(0, 1));
        Check.refuses(Check.INDEX, "reason(0, 0)", hall, () -> hall.reason(0, 0));
        Check.refuses(Check.INDEX, "lend(0, 0)", hall, () -> hall.lend(0, 0));
        Check.refuses(Check.INDEX, "renew(0)", hall, () -> hall.renew(0));
        Check.refuses(Check.INDEX, "back(0)", hall, () -> hall.back(0));
        Check.refuses(Check.INDEX, "find(0)", hall, () -> hall.find(0));
        Check.refuses(Check.INDEX, "await(0, 0)", hall, () -> hall.await(0, 0));
        Check.refuses(Check.INDEX, "leave(0, 0)", hall, () -> hall.leave(0, 0));
        Check.refuses(Check.INDEX, "fineIn(0, 0)", hall, () -> hall.fineIn(0, 0));
        Check.refuses(Check.INDEX, "soon(0, 0)", hall, () -> hall.soon(0, 0));
        Check.refuses(Check.INDEX, "mayBorrow(0)", hall, () -> hall.mayBorrow(0));
    }

    @Edge(promise = 1, words = "Creates a library")
    static void twoLibrariesShareNothing() {
        BookplateHall full = Halls.full();
        full.pass(3);
        BookplateHall hall = new BookplateHall();
        Facts.totals(hall, 0, 0, 0, 0, 0, 0, 0, 0, 0, 0);
        Check.same("the first name", 0, hall.name());
        Check.same("names of the full one", 16, full.many(1));
    }

    @Edge(promise = Edge.TERMS, words = "TODAY is 0 at first.")
    static void todayIs0AtFirst() {
        BookplateHall hall = new BookplateHall();
        Check.same("today", 0, hall.many(0));
        hall.pass(1);
        Check.same("today, a day later", 1, hall.many(0));
    }

    @Edge(promise = Edge.TERMS, words = "NONE is -1.")
    static void noneIsMinusOne() {
        BookplateHall hall = Halls.withCopies(1, 1, 1, 0, 0);
        Check.same("an author", -1, hall.ofRecord(0, 0));
        Check.same("a twin", -1, hall.twin(0, 0));
        Check.same("the reader of a copy that is in", -1, hall.ofCopy(0, 2));
        Check.same("its day", -1, hall.ofCopy(0, 3));
        hall.lend(0, 0);
        Check.same("a copy aside", -1, hall.await(1, 0));
        hall.pass(40);
        hall.pass(4);
        Check.same("how soon", -1, hall.soon(1, 0));
    }

    @Edge(promise = Edge.TERMS,
            words = "An object is used for at most 512 calls after it has been made; what later calls answer is free.")
    static void as512CallsAllow() {
        BookplateHall hall = new BookplateHall();
        for (int call = 1; call < 512; call++) {
            hall.pass(40);
        }
        Check.same("today, behind 511 times 40 days", 511 * 40, hall.many(0));
        BookplateHall lending = Halls.withCopies(1, 1, 1, 0);
        for (int loan = 0; loan < 254; loan++) {
            lending.lend(0, 0);
            lending.back(0);
        }
        Check.same("times lent, as the 512th call", 254, lending.ofRecord(0, 6));
    }

    // ---- names

    @Edge(promise = Edge.TERMS, words = "At most 16 NAMES, numbered from 0.")
    static void sixteenNamesFrom0() {
        BookplateHall hall = new BookplateHall();
        for (int number = 0; number < 16; number++) {
            Check.same("names", number, hall.many(1));
            Check.same("name()", number, hall.name());
        }
        Check.same("names", 16, hall.many(1));
        Check.same("the first", 0, hall.stands(0));
        Check.same("the last", 15, hall.stands(15));
    }

    @Edge(promise = 2, words = "Throws `IllegalStateException` if there are 16")
    static void theSeventeenthName() {
        BookplateHall hall = Halls.withNames(15);
        Check.same("the 16th", 15, hall.name());
        Check.refuses(Check.STATE, "the 17th", hall, hall::name);
        Check.refuses(Check.STATE, "the 17th again", hall, hall::name);
        hall.variant(15, 0);
        Check.refuses(Check.STATE, "the 17th, though one is a variant", hall, hall::name);
        Check.same("names", 16, hall.many(1));
        Check.refuses(Check.INDEX, "stands(16)", hall, () -> hall.stands(16));
    }

    @Edge(promise = Edge.TERMS, words = "Each is a VARIANT of no other one (at first), and STANDS for itself")
    static void eachNameStandsForItselfAtFirst() {
        BookplateHall hall = Halls.withNames(16);
        for (int number = 0; number < 16; number++) {
            Check.same("stands(" + number + ")", number, hall.stands(number));
        }
    }

    @Edge(promise = Edge.TERMS, words = "or a VARIANT of another one, and STANDS for what that STANDS for.")
    static void aNameStandsForWhatTheOtherStandsFor() {
        BookplateHall hall = Halls.withNames(4);
        hall.variant(3, 2);
        Check.same("stands(3)", 2, hall.stands(3));
        hall.variant(2, 1);
        Check.same("stands(3), as 2 stands for 1", 1, hall.stands(3));
        hall.variant(1, 0);
        Check.same("stands(3), as 1 stands for 0", 0, hall.stands(3));
        hall.variant(2, 0);
        Check.same("stands(3), as 2 skips 1", 0, hall.stands(3));
    }

    @Edge(promise = 4, words = "Returns the NAME for which it STANDS.")
    static void theLongestChainOfVariants() {
        BookplateHall hall = Halls.withNames(16);
        for (int name = 0; name < 15; name++) {
            Check.same("variant(" + name + ")", name + 1, hall.variant(name, name + 1));
        }
        Check.same("by fifteen steps", 15, hall.stands(0));
        Check.same("by fourteen", 15, hall.stands(1));
        Check.same("by one", 15, hall.stands(14));
        Check.same("by none", 15, hall.stands(15));
    }

    @Edge(promise = 4, words = "Throws `IndexOutOfBoundsException` if there is no such NAME")
    static void noSuchNameToStand() {
        BookplateHall hall = Halls.withNames(3);
        Check.refuses(Check.INDEX, "stands(-1)", hall, () -> hall.stands(-1));
        Check.same("stands(0)", 0, hall.stands(0));
        Check.same("stands(2)", 2, hall.stands(2));
        Check.refuses(Check.INDEX, "stands(3)", hall, () -> hall.stands(3));
        Check.refuses(Check.INDEX, "stands(16)", hall, () -> hall.stands(16));
        Check.refuses(Check.INDEX, "stands(least)", hall, () -> hall.stands(LEAST));
        Check.refuses(Check.INDEX, "stands(greatest)", hall, () -> hall.stands(GREATEST));
    }

    @Edge(promise = 3, words = "(in place of that of which it was one)")
    static void aVariantInPlaceOfAnother() {
        BookplateHall hall = Halls.withNames(4);
        hall.variant(0, 1);
        Check.same("of another", 2, hall.variant(0, 2));
        Check.same("stands", 2, hall.stands(0));
        hall.variant(1, 3);
        Check.same("what it no longer is a variant of has no part in it", 2, hall.stands(0));
        Check.same("that one may be a variant of it now", 2, hall.variant(1, 0));
    }

    @Edge(promise = 3, words = "Returns the NAME for which it STANDS then.")
    static void variantReturnsTheNameAtTheEnd() {
        BookplateHall hall = Halls.withNames(4);
        Check.same("variant(0, 1)", 1, hall.variant(0, 1));
        Check.same("variant(2, 0) by two steps", 1, hall.variant(2, 0));
        Check.same("variant(1, 3)", 3, hall.variant(1, 3));
        Check.same("variant(2, 0) again, by three", 3, hall.variant(2, 0));
    }

    @Edge(promise = 3, words = "Throws `IndexOutOfBoundsException` if there is no such NAME")
    static void noSuchNameToVary() {
        BookplateHall hall = Halls.withNames(2);
        Check.refuses(Check.INDEX, "variant(-1, 0)", hall, () -> hall.variant(-1, 0));
        Check.refuses(Check.INDEX, "variant(2, 0)", hall, () -> hall.variant(2, 0));
        Check.refuses(Check.INDEX, "variant(0, -1)", hall, () -> hall.variant(0, -1));
        Check.refuses(Check.INDEX, "variant(0, 2)", hall, () -> hall.variant(0, 2));
        Check.refuses(Check.INDEX, "variant(2, 2), which is it too", hall, () -> hall.variant(2, 2));
        Check.refuses(Check.INDEX, "variant(-1, -1), which is it too", hall, () -> hall.variant(-1, -1));
        Check.refuses(Check.INDEX, "variant(least, 0)", hall, () -> hall.variant(LEAST, 0));
        Check.refuses(Check.INDEX, "variant(0, greatest)", hall, () -> hall.variant(0, GREATEST));
        Check.same("variant(0, 1)", 1, hall.variant(0, 1));
    }

    @Edge(promise = 3, words = "Throws `IllegalStateException` if the other one is it")
    static void aNameIsNoVariantOfItself() {
        BookplateHall hall = Halls.withNames(3);
        Check.refuses(Check.STATE, "variant(0, 0)", hall, () -> hall.variant(0, 0));
        hall.variant(1, 0);
        Check.refuses(Check.STATE, "variant(1, 1) of a variant", hall, () -> hall.variant(1, 1));
        Check.refuses(Check.STATE, "variant(0, 0) of one that has a variant", hall, () -> hall.variant(0, 0));
    }

    @Edge(promise = 3, words = "or a VARIANT of it, or of a VARIANT of it, and so on")
    static void aNameIsNoVariantOfItsVariants() {
        BookplateHall hall = Halls.withNames(16);
        for (int name = 1; name < 16; name++) {
            hall.variant(name, name - 1);
        }
        Check.refuses(Check.STATE, "by one step", hall, () -> hall.variant(0, 1));
        Check.refuses(Check.STATE, "by two steps", hall, () -> hall.variant(0, 2));
        Check.refuses(Check.STATE, "by fourteen steps", hall, () -> hall.variant(0, 14));
        Check.refuses(Check.STATE, "by fifteen steps", hall, () -> hall.variant(0, 15));
        Check.refuses(Check.STATE, "in the midst", hall, () -> hall.variant(7, 9));
        Check.same("the other way, over some", 0, hall.variant(15, 0));
        Check.same("a variant of the same one", 0, hall.variant(14, 15));
    }

    // ---- records

    @Edge(promise = Edge.TERMS, words = "At most 20 RECORDS ever, numbered from 0")
    static void twentyRecordsFrom0() {
        BookplateHall hall = new BookplateHall();
        for (int number = 0; number < 20; number++) {
            Check.same("records", number, hall.many(2));
            Check.same("record()", number, hall.record(NONE, 1 + number, 99 - number));
        }
        Check.same("records", 20, hall.many(2));
        Facts.ofRecord(hall, 0, NONE, 1, 99, 0, 0, 0, 0);
        Facts.ofRecord(hall, 19, NONE, 20, 80, 19, 0, 0, 0);
    }

    @Edge(promise = 5, words = "Throws `IllegalStateException` if there were 20")
    static void theTwentyFirstRecord() {
        BookplateHall hall = Halls.withRecords(0, 19);
        Check.same("the 20th", 19, hall.record(NONE, 1, 0));
        Check.refuses(Check.STATE, "the 21st", hall, () -> hall.record(NONE, 1, 0));
        for (int number = 0; number < 19; number++) {
            hall.lay(number, 19);
        }
        Check.same("one is live", 1, hall.many(2));
        Check.refuses(Check.STATE, "the 21st, though one is live alone", hall, () -> hall.record(NONE, 1, 0));
        Check.refuses(Check.INDEX, "ofRecord(20, 0)", hall, () -> hall.ofRecord(20, 0));
    }

    @Edge(promise = Edge.TERMS, words = "an AUTHOR, a NAME or NONE")
    static void anAuthorOrNone() {
        BookplateHall hall = Halls.withNames(16);
        hall.record(NONE, 1, 0);
        hall.record(0, 1, 0);
        hall.record(15, 1, 0);
        Check.same("none", NONE, hall.ofRecord(0, 0));
        Check.same("the first", 0, hall.ofRecord(1, 0));
        Check.same("the last", 15, hall.ofRecord(2, 0));
        Check.same("none, without any name", 0, new BookplateHall().record(NONE, 1, 0));
    }

    @Edge(promise = Edge.TERMS,
            words = "a TITLE, a set of WORDS 0 to 11 (the sum of 2^k for each WORD k in it), not empty")
    static void titlesOfOneWordToAllWords() {
        BookplateHall hall = new BookplateHall();
        for (int word = 0; word < 12; word++) {
            hall.record(NONE, 1 << word, 0);
            Check.same("the title of word " + word, 1 << word, hall.ofRecord(word, 1));
            Check.same("found by word " + word, 1, hall.found(1 << word, NONE));
        }
        hall.record(NONE, 4095, 0);
        Check.same("of all words", 4095, hall.ofRecord(12, 1));
        Check.same("found by word 11", 2, hall.found(2048, NONE));
        Check.refuses(Check.ARGUMENT, "an empty title", hall, () -> hall.record(NONE, 0, 0));
    }

    @Edge(promise = Edge.TERMS, words = "and a YEAR, 0 to 99.")
    static void theFirstAndTheLastYear() {
        BookplateHall hall = new BookplateHall();
        hall.record(NONE, 1, 0);
        hall.record(NONE, 1, 99);
        Check.same("the first", 0, hall.ofRecord(0, 2));
        Check.same("the last", 99, hall.ofRecord(1, 2));
    }

    @Edge(promise = Edge.TERMS, words = "A RECORD is LIVE, or has gone over into another one.")
    static void aRecordIsLiveUntilItGoesOver() {
        BookplateHall hall = Halls.withRecords(0, 2);
        Check.same("live ones", 2, hall.many(2));
        Check.same("the first is live", 0, hall.ofRecord(0, 3));
        hall.lay(0, 1);
        Check.same("live ones", 1, hall.many(2));
        Check.same("the first went over", 1, hall.ofRecord(0, 3));
        Check.same("the other is live", 1, hall.ofRecord(1, 3));
        Check.same("a third is live", 2, hall.record(NONE, 1, 0));
        Check.same("live ones", 2, hall.many(2));
    }

    @Edge(promise = 5, words = "Throws `IndexOutOfBoundsException` if there is no such NAME (but NONE)")
    static void noSuchAuthor() {
        BookplateHall hall = Halls.withNames(2);
        Check.refuses(Check.INDEX, "author -2", hall, () -> hall.record(-2, 1, 0));
        Check.refuses(Check.INDEX, "author 2", hall, () -> hall.record(2, 1, 0));
        Check.refuses(Check.INDEX, "author 16", hall, () -> hall.record(16, 1, 0));
        Check.refuses(Check.INDEX, "the least", hall, () -> hall.record(LEAST, 1, 0));
        Check.refuses(Check.INDEX, "the greatest", hall, () -> hall.record(GREATEST, 1, 0));
        Check.same("author -1", 0, hall.record(NONE, 1, 0));
        Check.same("author 1", 1, hall.record(1, 1, 0));
        BookplateHall full = Halls.withNames(16);
        Check.refuses(Check.INDEX, "author 16 of sixteen", full, () -> full.record(16, 1, 0));
    }

    @Edge(promise = 5, words = "Throws `IllegalArgumentException` if title is not 1 to 4095")
    static void aTitleBeyond() {
        BookplateHall hall = Halls.withNames(1);
        Check.refuses(Check.ARGUMENT, "title 0", hall, () -> hall.record(0, 0, 0));
        Check.refuses(Check.ARGUMENT, "title -1", hall, () -> hall.record(0, -1, 0));
        Check.refuses(Check.ARGUMENT, "title 4096", hall, () -> hall.record(0, 4096, 0));
        Check.refuses(Check.ARGUMENT, "the least", hall, () -> hall.record(0, LEAST, 0));
        Check.refuses(Check.ARGUMENT, "the greatest", hall, () -> hall.record(0, GREATEST, 0));
        Check.same("title 1", 0, hall.record(0, 1, 0));
        Check.same("title 4095", 1, hall.record(0, 4095, 0));
    }

    @Edge(promise = 5, words = "or year is not 0 to 99")
    static void aYearBeyond() {
        BookplateHall hall = Halls.withNames(1);
        Check.refuses(Check.ARGUMENT, "year -1", hall, () -> hall.record(0, 1, -1));
        Check.refuses(Check.ARGUMENT, "year 100", hall, () -> hall.record(0, 1, 100));
        Check.refuses(Check.ARGUMENT, "the least", hall, () -> hall.record(0, 1, LEAST));
        Check.refuses(Check.ARGUMENT, "the greatest", hall, () -> hall.record(0, 1, GREATEST));
        Check.same("year 0", 0, hall.record(0, 1, 0));
        Check.same("year 99", 1, hall.record(0, 1, 99));
    }

    // ---- what is told of a record

    @Edge(promise = 6, words = "Throws `IndexOutOfBoundsException` if there is no such RECORD")
    static void noSuchRecordToTellOf() {
        BookplateHall hall = Halls.withRecords(0, 2);
        Check.refuses(Check.INDEX, "ofRecord(-1, 0)", hall, () -> hall.ofRecord(-1, 0));
        Check.refuses(Check.INDEX, "ofRecord(2, 0)", hall, () -> hall.ofRecord(2, 0));
        Check.refuses(Check.INDEX, "ofRecord(20, 0)", hall, () -> hall.ofRecord(20, 0));
        Check.refuses(Check.INDEX, "ofRecord(least, 0)", hall, () -> hall.ofRecord(LEAST, 0));
        Check.refuses(Check.INDEX, "ofRecord(greatest, 0)", hall, () -> hall.ofRecord(GREATEST, 0));
        Check.same("ofRecord(1, 3)", 1, hall.ofRecord(1, 3));
    }

    @Edge(promise = 6, words = "Throws `IllegalArgumentException` if what is not 0 to 6")
    static void nothingToTellOfARecord() {
        BookplateHall hall = Halls.withRecords(0, 1);
        Check.refuses(Check.ARGUMENT, "ofRecord(0, -1)", hall, () -> hall.ofRecord(0, -1));
        Check.refuses(Check.ARGUMENT, "ofRecord(0, 7)", hall, () -> hall.ofRecord(0, 7));
        Check.refuses(Check.ARGUMENT, "ofRecord(0, least)", hall, () -> hall.ofRecord(0, LEAST));
        Check.refuses(Check.ARGUMENT, "ofRecord(0, greatest)", hall, () -> hall.ofRecord(0, GREATEST));
        Check.same("ofRecord(0, 0)", NONE, hall.ofRecord(0, 0));
        Check.same("ofRecord(0, 6)", 0, hall.ofRecord(0, 6));
    }

    @Edge(promise = 6, words = "3 the LIVE one (itself, if it is) into which it went over")
    static void theLiveOneBehindNineteen() {
        BookplateHall hall = Halls.withRecords(0, 20);
        Check.same("itself", 19, hall.ofRecord(19, 3));
        for (int record = 19; record > 0; record--) {
            hall.lay(record, record - 1);
        }
        Check.same("by nineteen steps", 0, hall.ofRecord(19, 3));
        Check.same("by one", 0, hall.ofRecord(1, 3));
        Check.same("itself, as all went over into it", 0, hall.ofRecord(0, 3));
    }

    @Edge(promise = 6, words = "4 how many COPIES that has, but LOST ones")
    static void copiesButLostOnes() {
        BookplateHall hall = Halls.withReaders(3, 0, 0);
        Check.same("none", 0, hall.ofRecord(0, 4));
        hall.copy(0, 1);
        hall.copy(1, 1);
        Check.same("one that is in", 1, hall.ofRecord(0, 4));
        hall.lend(0, 0);
        Check.same("one that is lent", 1, hall.ofRecord(0, 4));
        Halls.pass(hall, 44);
        Check.same("one that is lost", 0, hall.ofRecord(0, 4));
        hall.await(1, 0);
        hall.find(0);
        Check.same("one that is aside", 1, hall.ofRecord(0, 4));
        hall.lay(0, 1);
        Check.same("of the live one", 2, hall.ofRecord(0, 4));
        Check.same("of another", 0, hall.ofRecord(2, 4));
    }

    @Edge(promise = 6, words = "4 how many COPIES that has, but LOST ones")
    static void allCopiesOfOneRecord() {
        BookplateHall hall = Halls.withCopies(1, 30, 1);
        Check.same("thirty", 30, hall.ofRecord(0, 4));
    }

    @Edge(promise = 6, words = "5 how many WAIT for that")
    static void nobodyToEightWait() {
        BookplateHall hall = Halls.withReaders(2, 0, 0, 0, 0, 1, 1, 1, 1);
        for (int reader = 0; reader < 8; reader++) {
            Check.same("how many wait", reader, hall.ofRecord(0, 5));
            hall.await(reader, 0);
        }
        Check.same("eight", 8, hall.ofRecord(0, 5));
        Check.same("nobody for the other", 0, hall.ofRecord(1, 5));
        hall.lay(0, 1);
        Check.same("of the live one", 8, hall.ofRecord(0, 5));
    }

    @Edge(promise = 6, words = "6 how many times a COPY was LENT of that, and of all that went over into that, ever")
    static void timesLentEver() {
        BookplateHall hall = Halls.withCopies(3, 1, 1, 0, 1);
        hall.copy(1, 1);
        hall.copy(2, 1);
        Check.same("never", 0, hall.ofRecord(0, 6));
        hall.lend(0, 0);
        hall.renew(0);
        Check.same("renewed is not lent", 1, hall.ofRecord(0, 6));
        Check.refuses(Check.STATE, "one lent", hall, () -> hall.lend(1, 0));
        hall.back(0);
        hall.lend(1, 0);
        hall.lend(1, 1);
        hall.lend(1, 2);
        hall.lay(0, 1);
        Check.same("of both", 3, hall.ofRecord(1, 6));
        Check.same("of the live one", 3, hall.ofRecord(0, 6));
        hall.back(0);
        hall.lend(0, 0);
        hall.lay(1, 2);
        Check.same("of all that went over", 5, hall.ofRecord(2, 6));
        Check.same("of the live one behind two", 5, hall.ofRecord(0, 6));
        Halls.pass(hall, 58);
        Check.same("all are lost", 3, hall.many(8));
        Check.same("lost ones were lent too", 5, hall.ofRecord(2, 6));
    }

    @Edge(promise = 6, words = "Returns that (0 to 2 of itself, LIVE or not).")
    static void ofItselfLiveOrNot() {
        BookplateHall hall = Halls.withNames(2);
        hall.record(0, 5, 7);
        hall.record(1, 4095, 99);
        hall.lay(0, 1);
        hall.variant(0, 1);
        Facts.ofRecord(hall, 0, 0, 5, 7, 1, 0, 0, 0);
        Facts.ofRecord(hall, 1, 1, 4095, 99, 1, 0, 0, 0);
    }

    // ---- likeness

    @Edge(promise = Edge.TERMS,
            words = "30, if both have an AUTHOR, and these STAND for the same NAME, or if both have none")
    static void likenessOfAuthors() {
        BookplateHall hall = Halls.withNames(3);
        hall.record(0, 1, 0);
        hall.record(1, 2, 9);
        hall.record(2, 4, 18);
        hall.record(NONE, 8, 27);
        hall.record(NONE, 16, 36);
        Check.same("each stands for itself", 0, hall.likeness(0, 1));
        Check.same("name 0 and none", 0, hall.likeness(0, 3));
        Check.same("none and name 0", 0, hall.likeness(3, 0));
        Check.same("none and none", 30, hall.likeness(3, 4));
        hall.variant(0, 1);
        Check.same("a variant and what it is one of", 30, hall.likeness(0, 1));
        hall.variant(2, 1);
        Check.same("two variants of the same", 30, hall.likeness(0, 2));
    }

    @Edge(promise = Edge.TERMS, words = "50 * (WORDS that both have) / (WORDS that one or both have), cut towards 0")
    static void likenessOfTitles() {
        BookplateHall hall = Halls.withNames(1);
        int[] titles = {4095, 1, 2, 3, 2047, 6, 7};
        for (int number = 0; number < titles.length; number++) {
            hall.record(number == 0 ? NONE : 0, titles[number], number == 0 ? 99 : 0);
        }
        Check.same("50 * 1 / 12", 4, hall.likeness(0, 1));
        Check.same("50 * 2 / 12", 8, hall.likeness(0, 3));
        Check.same("50 * 11 / 12", 45, hall.likeness(0, 4));
        Check.same("50 * 12 / 12", 50 + 50, hall.likeness(0, 0));
        Check.same("50 * 0 / 2", 50, hall.likeness(1, 2));
        Check.same("50 * 1 / 1", 50 + 50, hall.likeness(1, 1));
        Check.same("50 * 1 / 3", 50 + 16, hall.likeness(3, 5));
        Check.same("50 * 2 / 3", 50 + 33, hall.likeness(6, 3));
    }

    @Edge(promise = Edge.TERMS, words = "and 20 less 4 times the difference of their YEARS, but 0 at the least.")
    static void likenessOfYears() {
        BookplateHall hall = Halls.withNames(1);
        int[] years = {50, 50, 51, 49, 54, 55, 45, 56, 99, 0};
        int[] due = {20, 20, 16, 16, 4, 0, 0, 0, 0, 0};
        for (int number = 0; number < years.length; number++) {
            hall.record(number == 0 ? NONE : 0, number == 0 ? 1 : 2, years[number]);
        }
        for (int number = 1; number < years.length; number++) {
            Check.same("50 and " + years[number], due[number], hall.likeness(0, number));
            Check.same(years[number] + " and 50", due[number], hall.likeness(number, 0));
        }
        Check.same("99 and 0", 80, hall.likeness(8, 9));
    }

    @Edge(promise = 7, words = "Returns their LIKENESS (of these themselves, LIVE or not).")
    static void likenessOfThoseNotLive() {
        BookplateHall hall = Halls.withNames(1);
        hall.record(NONE, 1, 0);
        hall.record(NONE, 1, 0);
        hall.record(0, 2, 99);
        hall.lay(0, 2);
        Check.same("one that is not live and one that is", 100, hall.likeness(0, 1));
        Check.same("one that is live and one that is not", 100, hall.likeness(1, 0));
        Check.same("one and what it went over into", 0, hall.likeness(0, 2));
        hall.lay(1, 2);
        Check.same("both not live", 100, hall.likeness(0, 1));
        Check.same("itself, not live", 100, hall.likeness(0, 0));
    }

    @Edge(promise = 7, words = "Throws `IndexOutOfBoundsException` if there is no such RECORD")
    static void noSuchRecordToLiken() {
        BookplateHall hall = Halls.withRecords(0, 2);
        Check.refuses(Check.INDEX, "likeness(-1, 0)", hall, () -> hall.likeness(-1, 0));
        Check.refuses(Check.INDEX, "likeness(0, -1)", hall, () -> hall.likeness(0, -1));
        Check.refuses(Check.INDEX, "likeness(2, 0)", hall, () -> hall.likeness(2, 0));
        Check.refuses(Check.INDEX, "likeness(0, 2)", hall, () -> hall.likeness(0, 2));
        Check.refuses(Check.INDEX, "likeness(2, 2)", hall, () -> hall.likeness(2, 2));
        Check.refuses(Check.INDEX, "likeness(20, 0)", hall, () -> hall.likeness(20, 0));
        Check.refuses(Check.INDEX, "likeness(least, 0)", hall, () -> hall.likeness(LEAST, 0));
        Check.refuses(Check.INDEX, "likeness(0, greatest)", hall, () -> hall.likeness(0, GREATEST));
        Check.same("likeness(1, 1)", 100, hall.likeness(1, 1));
    }

    // ---- twins

    @Edge(promise = 8, words = "other than the one into which it went over (or it is)")
    static void noTwinOfItselfOrOfTheLiveOne() {
        BookplateHall hall = Halls.withRecords(0, 1);
        Check.same("the only record", NONE, hall.twin(0, LEAST));
        hall.record(NONE, 2, 50);
        Check.same("not itself", 1, hall.twin(0, 0));
        hall.record(NONE, 1, 0);
        hall.record(NONE, 1, 1);
        hall.lay(0, 2);
        Check.same("not the one into which it went over", 3, hall.twin(0, 0));
        hall.lay(2, 3);
        Check.same("not the one into which that went over", 1, hall.twin(0, 0));
        hall.lay(1, 3);
        Check.same("no other", NONE, hall.twin(0, LEAST));
        Check.same("no other than the live one itself", NONE, hall.twin(3, LEAST));
    }

    @Edge(promise = 8, words = "Returns the LIVE one")
    static void noTwinThatIsNotLive() {
        BookplateHall hall = Halls.withRecords(0, 2);
        hall.record(NONE, 4095, 99);
        Check.same("the most like", 1, hall.twin(0, 0));
        hall.lay(1, 2);
        Check.same("as that is not live", 2, hall.twin(0, 0));
        Check.same("as that is not live, of 35", NONE, hall.twin(0, 35));
    }

    @Edge(promise = 8, words = "that is the most like the RECORD itself")
    static void theMostLikeTheRecordItselfNotTheLiveOne() {
        BookplateHall hall = Halls.withNames(1);
        hall.record(NONE, 1, 0);
        hall.record(0, 2, 99);
        hall.record(0, 2, 98);
        hall.record(NONE, 1, 1);
        hall.lay(0, 1);
        Check.same("of the one laid", 3, hall.twin(0, 0));
        Check.same("of the one laid, of its likeness", 3, hall.twin(0, 96));
        Check.same("of the one laid, of more", NONE, hall.twin(0, 97));
        Check.same("of the live one", 2, hall.twin(1, 96));
    }

    @Edge(promise = 8, words = "that is the most like the RECORD itself")
    static void asMuchLikenessOfTheRecordItself() {
        BookplateHall hall = Halls.withNames(1);
        hall.record(NONE, 1, 0);
        hall.record(0, 2, 99);
        hall.record(0, 2, 99);
        hall.lay(0, 1);
        Check.same("0 of 1, though the live one has 100", NONE, hall.twin(0, 1));
        Check.same("0 of 0", 2, hall.twin(0, 0));
    }

    @Edge(promise = 8, words = "that is the most like the RECORD itself, of several the smallest number")
    static void theSmallestOfTheMostLike() {
        BookplateHall hall = Halls.withRecords(0, 3);
        Check.same("of two behind it", 1, hall.twin(0, 0));
        Check.same("of one ahead of it and one behind", 0, hall.twin(1, 0));
        Check.same("of two ahead of it", 0, hall.twin(2, 0));
        hall.record(NONE, 1, 1);
        Check.same("one behind that is less like", 0, hall.twin(2, 0));
        hall.record(NONE, 3, 1);
        hall.record(NONE, 3, 1);
        Check.same("the last, that is the most like", 5, hall.twin(4, 0));
    }

    @Edge(promise = 8, words = "NONE if none has so much LIKENESS, or more.")
    static void asMuchLikenessAsTheLeast() {
        BookplateHall hall = Halls.withNames(1);
        hall.record(NONE, 1, 0);
        hall.record(0, 2, 99);
        Check.same("0 of 0", 1, hall.twin(0, 0));
        Check.same("0 of 1", NONE, hall.twin(0, 1));
        Check.same("0 of -1", 1, hall.twin(0, -1));
        Check.same("0 of the least", 1, hall.twin(0, LEAST));
        hall.record(NONE, 2, 3);
        Check.same("38 of 37", 2, hall.twin(0, 37));
        Check.same("38 of 38", 2, hall.twin(0, 38));
        Check.same("38 of 39", NONE, hall.twin(0, 39));
        hall.record(NONE, 1, 0);
        Check.same("100 of 100", 3, hall.twin(0, 100));
        Check.same("100 of 101", NONE, hall.twin(0, 101));
        Check.same("100 of the greatest", NONE, hall.twin(0, GREATEST));
    }

    @Edge(promise = 8, words = "Throws `IndexOutOfBoundsException` if there is no such RECORD")
    static void noSuchRecordToHaveATwin() {
        BookplateHall hall = Halls.withRecords(0, 2);
        Check.refuses(Check.INDEX, "twin(-1, 0)", hall, () -> hall.twin(-1, 0));
        Check.refuses(Check.INDEX, "twin(2, 0)", hall, () -> hall.twin(2, 0));
        Check.refuses(Check.INDEX, "twin(20, 101)", hall, () -> hall.twin(20, 101));
        Check.refuses(Check.INDEX, "twin(least, 0)", hall, () -> hall.twin(LEAST, 0));
        Check.refuses(Check.INDEX, "twin(greatest, 0)", hall, () -> hall.twin(GREATEST, 0));
        Check.same("twin(1, 0)", 0, hall.twin(1, 0));
    }

    // ---- found

    @Edge(promise = 10, words = "Returns how many LIVE RECORDS have all these WORDS")
    static void foundByAllTheseWords() {
        BookplateHall hall = Halls.withNames(1);
        Check.same("of no records", 0, hall.found(0, NONE));
        int[] titles = {1, 2, 3, 4095, 2048};
        for (int title : titles) {
            hall.record(NONE, title, 0);
        }
        Check.same("of no words", 5, hall.found(0, NONE));
        Check.same("of word 0", 3, hall.found(1, NONE));
        Check.same("of words 0 and 1, not of one of both", 2, hall.found(3, NONE));
        Check.same("of word 11", 2, hall.found(2048, NONE));
        Check.same("of all words", 1, hall.found(4095, NONE));
        hall.lay(3, 0);
        Check.same("of all words, as that is not live", 0, hall.found(4095, NONE));
        Check.same("of word 0, as that is not live", 2, hall.found(1, NONE));
    }

    @Edge(promise = 10, words = {"and an AUTHOR who STANDS for the same as that NAME.",
        "a NAME, or NONE for any AUTHOR, or none"})
    static void foundByTheAuthor() {
        BookplateHall hall = Halls.withNames(4);
        hall.record(NONE, 1, 0);
        hall.record(0, 1, 0);
        hall.record(1, 1, 0);
        hall.record(2, 1, 0);
        Check.same("of any author, or none", 4, hall.found(1, NONE));
        Check.same("of one author", 1, hall.found(1, 0));
        Check.same("of an author without records", 0, hall.found(1, 3));
        hall.variant(0, 3);
        hall.variant(2, 0);
        Check.same("of what two of them stand for", 2, hall.found(1, 3));
        Check.same("of a variant", 2, hall.found(1, 2));
        Check.same("of one that stands for itself", 1, hall.found(1, 1));
    }

    @Edge(promise = 10, words = "Returns how many LIVE RECORDS")
    static void allTwentyFound() {
        BookplateHall hall = Halls.withRecords(0, 20);
        Check.same("twenty", 20, hall.found(1, NONE));
        for (int record = 1; record < 20; record++) {
            hall.lay(record, 0);
        }
        Check.same("the one that is live", 1, hall.found(1, NONE));
    }

    @Edge(promise = 10, words = "Throws `IndexOutOfBoundsException` if there is no such NAME (but NONE)")
    static void noSuchAuthorToFind() {
        BookplateHall hall = Halls.withNames(2);
        Check.refuses(Check.INDEX, "found(0, -2)", hall, () -> hall.found(0, -2));
        Check.refuses(Check.INDEX, "found(0, 2)", hall, () -> hall.found(0, 2));
        Check.refuses(Check.INDEX, "found(0, 16)", hall, () -> hall.found(0, 16));
        Check.refuses(Check.INDEX, "found(0, least)", hall, () -> hall.found(0, LEAST));
        Check.refuses(Check.INDEX, "found(0, greatest)", hall, () -> hall.found(0, GREATEST));
        Check.same("found(0, -1)", 0, hall.found(0, NONE));
        Check.same("found(0, 1)", 0, hall.found(0, 1));
    }

    @Edge(promise = 10, words = "Throws `IllegalArgumentException` if words is not 0 to 4095")
    static void wordsBeyond() {
        BookplateHall hall = Halls.withRecords(1, 1);
        Check.refuses(Check.ARGUMENT, "found(-1, NONE)", hall, () -> hall.found(-1, NONE));
        Check.refuses(Check.ARGUMENT, "found(4096, NONE)", hall, () -> hall.found(4096, NONE));
        Check.refuses(Check.ARGUMENT, "found(4096, 0)", hall, () -> hall.found(4096, 0));
        Check.refuses(Check.ARGUMENT, "found(4097, NONE)", hall, () -> hall.found(4097, NONE));
        Check.refuses(Check.ARGUMENT, "found(least, NONE)", hall, () -> hall.found(LEAST, NONE));
        Check.refuses(Check.ARGUMENT, "found(greatest, NONE)", hall, () -> hall.found(GREATEST, NONE));
        Check.same("found(0, NONE)", 1, hall.found(0, NONE));
        Check.same("found(4095, NONE)", 0, hall.found(4095, NONE));
    }
}
