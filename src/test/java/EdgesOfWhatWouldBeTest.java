import java.math.BigInteger;
import java.util.List;

/** Promises 27 to 31: each edge by itself. */
public final class EdgesOfWhatWouldBeTest {

    private static final int NONE = -1;
    private static final int LEAST = Integer.MIN_VALUE;
    private static final int GREATEST = Integer.MAX_VALUE;

    private EdgesOfWhatWouldBeTest() {
    }

    public static void main(String[] args) {
        Edges.run(EdgesOfWhatWouldBeTest.class);
    }

    // ---- what a copy would cost

    @Edge(promise = 27, words = "Returns what its READER would OWE more by that COPY, if it was brought BACK then")
    static void fineInOfEachDay() {
        BookplateHall hall = Halls.withCopies(1, 1, 200, 0);
        hall.lend(0, 0);
        int[] days = {0, 14, 15, 33, 34, 35, 43};
        int[] due = {0, 0, 2, 38, 40, 40, 40};
        for (int k = 0; k < days.length; k++) {
            Check.same("fineIn(0, " + days[k] + ")", due[k], hall.fineIn(0, days[k]));
        }
    }

    @Edge(promise = 27, words = "or, if it would be LATE for 30 DAYS or more then, by its being LOST.")
    static void fineInOfALostOne() {
        int[] prices = {1, 200};
        for (int price : prices) {
            BookplateHall hall = Halls.withCopies(1, 1, price, 0);
            hall.lend(0, 0);
            Check.same("late for 29 days", 40, hall.fineIn(0, 43));
            Check.same("late for 30 days", price + 40, hall.fineIn(0, 44));
            Check.same("late for 31 days", price + 40, hall.fineIn(0, 45));
            Check.same("late for 46 days", price + 40, hall.fineIn(0, 60));
        }
    }

    @Edge(promise = 27, words = "or, if it would be LATE for 30 DAYS or more then, by its being LOST.")
    static void fineInOfOneThatIsLateNow() {
        BookplateHall hall = Halls.withCopies(1, 1, 9, 1);
        hall.lend(0, 0);
        Check.same("kind 1, on the last day", 40, hall.fineIn(0, 57));
        Check.same("kind 1, a day behind it", 49, hall.fineIn(0, 58));
        Halls.pass(hall, 57);
        Check.same("now, late for 29 days", 40, hall.fineIn(0, 0));
        Check.same("in a day", 49, hall.fineIn(0, 1));
        Check.same("owes nothing yet", 0, hall.ofReader(0, 2));
    }

    @Edge(promise = 27, words = "how many DAYS would pass ahead of it")
    static void fineInIsWhatBackAsksThen() {
        for (int days = 1; days <= 43; days += 7) {
            BookplateHall hall = Halls.withCopies(1, 1, 100, 0);
            hall.lend(0, 0);
            int told = hall.fineIn(0, days);
            Halls.pass(hall, days);
            Check.same("back, behind " + days + " days", told, hall.back(0));
        }
    }

    @Edge(promise = 27, words = "Throws `IndexOutOfBoundsException` if there is no such COPY")
    static void noSuchCopyToFine() {
        BookplateHall hall = Halls.withCopies(1, 2, 1, 0);
        hall.lend(0, 1);
        Check.refuses(Check.INDEX, "fineIn(-1, 0)", hall, () -> hall.fineIn(-1, 0));
        Check.refuses(Check.INDEX, "fineIn(2, 0)", hall, () -> hall.fineIn(2, 0));
        Check.refuses(Check.INDEX, "fineIn(2, 61)", hall, () -> hall.fineIn(2, 61));
        Check.refuses(Check.INDEX, "fineIn(30, -1)", hall, () -> hall.fineIn(30, -1));
        Check.refuses(Check.INDEX, "fineIn(least, 0)", hall, () -> hall.fineIn(LEAST, 0));
        Check.refuses(Check.INDEX, "fineIn(greatest, 0)", hall, () -> hall.fineIn(GREATEST, 0));
        Check.same("fineIn(1, 0)", 0, hall.fineIn(1, 0));
    }

    @Edge(promise = 27, words = "Throws `IllegalArgumentException` if days is not 0 to 60")
    static void fineInOfDaysBeyond() {
        BookplateHall hall = Halls.withCopies(1, 2, 1, 0);
        hall.lend(0, 0);
        Check.refuses(Check.ARGUMENT, "-1", hall, () -> hall.fineIn(0, -1));
        Check.refuses(Check.ARGUMENT, "61", hall, () -> hall.fineIn(0, 61));
        Check.refuses(Check.ARGUMENT, "the least", hall, () -> hall.fineIn(0, LEAST));
        Check.refuses(Check.ARGUMENT, "the greatest", hall, () -> hall.fineIn(0, GREATEST));
        Check.refuses(Check.ARGUMENT, "61, of one that is in", hall, () -> hall.fineIn(1, 61));
        Check.refuses(Check.ARGUMENT, "-1, of one that is in", hall, () -> hall.fineIn(1, -1));
        Check.same("0", 0, hall.fineIn(0, 0));
        Check.same("60", 41, hall.fineIn(0, 60));
    }

    @Edge(promise = 27, words = "Throws `IllegalStateException` if it is not LENT")
    static void fineInOfOneThatIsNotLent() {
        BookplateHall hall = Halls.withCopies(1, 1, 1, 0);
        Check.refuses(Check.STATE, "one that is in", hall, () -> hall.fineIn(0, 0));
        hall.await(0, 0);
        Check.refuses(Check.STATE, "one that is aside", hall, () -> hall.fineIn(0, 60));
        hall.lend(0, 0);
        Halls.pass(hall, 44);
        Check.refuses(Check.STATE, "one that is lost", hall, () -> hall.fineIn(0, 0));
    }

    // ---- how soon

    @Edge(promise = 28, words = "one that is LENT in as many as it is DUE behind TODAY (0, if it is LATE)")
    static void soonOfALentOne() {
        BookplateHall hall = Halls.withCopies(1, 1, 1, 0, 0);
        hall.lend(0, 0);
        hall.await(1, 0);
        Check.same("on the day on which it was lent", 14, hall.soon(1, 0));
        hall.pass(13);
        Check.same("the day ahead of the one on which it is due", 1, hall.soon(1, 0));
        hall.pass(1);
        Check.same("the day on which it is due", 0, hall.soon(1, 0));
        hall.pass(1);
        Check.same("late for a day", 0, hall.soon(1, 0));
        hall.pass(28);
        Check.same("late for 29 days", 0, hall.soon(1, 0));
    }

    @Edge(promise = 28, words = "one that is ASIDE in as many as its READER may have it.")
    static void soonOfOneAside() {
        for (int kind = 0; kind < 2; kind++) {
            BookplateHall hall = Halls.withCopies(1, 1, 1, kind, 0);
            hall.await(0, 0);
            hall.await(1, 0);
            Check.same("on the first day", kind == 0 ? 14 : 28, hall.soon(1, 0));
            hall.pass(6);
            Check.same("on the last day", kind == 0 ? 14 : 28, hall.soon(1, 0));
            hall.pass(1);
            Check.same("as it is aside for the reader itself", 0, hall.soon(1, 0));
        }
    }

    @Edge(promise = 28,
            words = "Those who WAIT for it and have none ASIDE get one each, in their order: the one that is there first")
    static void soonInTheirOrder() {
        BookplateHall hall = Halls.withCopies(1, 3, 1, 1, 0, 1, 0, 0, 0, 1);
        hall.lend(0, 0);
        hall.pass(2);
        hall.lend(1, 1);
        hall.pass(1);
        hall.lend(2, 2);
        int[] line = {6, 3, 5, 4};
        for (int reader : line) {
            hall.await(reader, 0);
        }
        Check.same("the first, copy 1", 13, hall.soon(6, 0));
        Check.same("the second, copy 0", 25, hall.soon(3, 0));
        Check.same("the third, copy 2", 28, hall.soon(5, 0));
        Check.same("the fourth, copy 0 again", 39, hall.soon(4, 0));
    }

    @Edge(promise = 28, words = "Those who WAIT for it and have none ASIDE get one each")
    static void whoHasOneAsideTakesNoOther() {
        BookplateHall hall = Halls.withCopies(1, 2, 1, 0, 1, 0);
        hall.lend(0, 1);
        hall.await(1, 0);
        hall.await(2, 0);
        Check.same("who has one aside", 0, hall.soon(1, 0));
        Check.same("the lent one, not the one aside", 14, hall.soon(2, 0));
        hall.pass(5);
        Check.same("five days later", 9, hall.soon(2, 0));
    }

    @Edge(promise = 28, words = "of several the one with the smallest number")
    static void soonOfSeveralTheSmallest() {
        BookplateHall hall = Halls.withCopies(1, 2, 1, 0, 1, 0, 0);
        hall.lend(0, 0);
        hall.lend(0, 1);
        hall.await(1, 0);
        hall.await(2, 0);
        hall.await(3, 0);
        Check.same("copy 0", 14, hall.soon(1, 0));
        Check.same("copy 1", 14, hall.soon(2, 0));
        Check.same("copy 1 again, as copy 0 went for 28 days", 28, hall.soon(3, 0));
        BookplateHall tie = Halls.withCopies(1, 2, 1, 1, 0, 0, 0, 1, 0);
        tie.lend(0, 0);
        tie.pass(14);
        tie.lend(1, 1);
        tie.await(2, 0);
        tie.await(4, 0);
        tie.await(3, 0);
        tie.await(5, 0);
        Check.same("copy 0 of a tie", 14, tie.soon(2, 0));
        Check.same("copy 1", 14, tie.soon(4, 0));
        Check.same("copy 0 again", 28, tie.soon(3, 0));
        Check.same("copy 0 of a later tie", 42, tie.soon(5, 0));
    }

    @Edge(promise = 28, words = "that is there again as many DAYS later as that READER may have it.")
    static void soonOfOneCopyForAll() {
        BookplateHall hall = Halls.withCopies(1, 1, 1, 0, 1, 0, 0, 1, 1, 0, 1);
        hall.lend(0, 0);
        for (int reader = 1; reader < 8; reader++) {
            hall.await(reader, 0);
        }
        int[] due = {14, 42, 56, 70, 98, 126, 140};
        for (int k = 0; k < due.length; k++) {
            Check.same("soon(" + (k + 1) + ", 0)", due[k], hall.soon(k + 1, 0));
        }
        hall.pass(20);
        Check.same("the first, as it is late", 0, hall.soon(1, 0));
        Check.same("the last, as it is late", 126, hall.soon(7, 0));
    }

    @Edge(promise = 28, words = "0 if one is ASIDE for it")
    static void soonWithOneAside() {
        BookplateHall hall = Halls.withCopies(2, 1, 1, 1, 0);
        hall.copy(1, 1);
        hall.lend(1, 1);
        hall.await(0, 1);
        hall.await(0, 0);
        Check.same("of that record", 0, hall.soon(0, 0));
        Check.same("of another record", 14, hall.soon(0, 1));
    }

    @Edge(promise = 28, words = "NONE if there is no COPY, but LOST ones.")
    static void soonWithoutACopy() {
        BookplateHall hall = Halls.withCopies(2, 1, 1, 0, 0, 0);
        hall.await(1, 1);
        hall.await(2, 1);
        Check.same("the first, with none at all", NONE, hall.soon(1, 1));
        Check.same("the second, with none at all", NONE, hall.soon(2, 1));
        hall.lend(0, 0);
        hall.await(1, 0);
        hall.await(2, 0);
        Halls.pass(hall, 44);
        Check.same("the first, with a lost one", NONE, hall.soon(1, 0));
        Check.same("the second, with a lost one", NONE, hall.soon(2, 0));
        hall.find(0);
        Check.same("the first, as it was found", 0, hall.soon(1, 0));
        Check.same("the second, as it was found", 14, hall.soon(2, 0));
    }

    @Edge(promise = 28, words = "Each COPY of the RECORD (the LIVE one) that is not LOST")
    static void soonCountsNoLostOne() {
        BookplateHall hall = Halls.withCopies(1, 2, 1, 0, 1, 0, 0);
        hall.lend(0, 0);
        Halls.pass(hall, 44);
        hall.lend(1, 1);
        hall.await(2, 0);
        hall.await(3, 0);
        Check.same("the first", 28, hall.soon(2, 0));
        Check.same("the second", 42, hall.soon(3, 0));
    }

    @Edge(promise = 28, words = "Each COPY of the RECORD (the LIVE one) that is not LOST")
    static void soonOfOneThatIsNotLive() {
        BookplateHall hall = Halls.withCopies(3, 1, 1, 0, 1);
        hall.copy(2, 1);
        hall.lend(0, 1);
        hall.lend(0, 0);
        hall.await(1, 0);
        hall.lay(0, 1);
        hall.pass(1);
        Check.same("the one laid", 13, hall.soon(1, 0));
        Check.same("the live one", 13, hall.soon(1, 1));
        hall.lay(1, 2);
        Check.same("the one laid, two steps behind", 13, hall.soon(1, 0));
        Check.refuses(Check.STATE, "who does not wait for it", hall, () -> hall.soon(0, 0));
    }

    @Edge(promise = 28, words = "Throws `IndexOutOfBoundsException` if there is no such READER, or RECORD")
    static void noSuchReaderOrRecordToServe() {
        BookplateHall hall = Halls.withReaders(2, 0, 0);
        hall.await(1, 1);
        Check.refuses(Check.INDEX, "soon(-1, 0)", hall, () -> hall.soon(-1, 0));
        Check.refuses(Check.INDEX, "soon(2, 0)", hall, () -> hall.soon(2, 0));
        Check.refuses(Check.INDEX, "soon(8, 0)", hall, () -> hall.soon(8, 0));
        Check.refuses(Check.INDEX, "soon(greatest, 0)", hall, () -> hall.soon(GREATEST, 0));
        Check.refuses(Check.INDEX, "soon(0, -1)", hall, () -> hall.soon(0, -1));
        Check.refuses(Check.INDEX, "soon(0, 2)", hall, () -> hall.soon(0, 2));
        Check.refuses(Check.INDEX, "soon(0, 20)", hall, () -> hall.soon(0, 20));
        Check.refuses(Check.INDEX, "soon(0, least)", hall, () -> hall.soon(0, LEAST));
        Check.same("soon(1, 1)", NONE, hall.soon(1, 1));
    }

    @Edge(promise = 28, words = "Throws `IllegalStateException` if it does not WAIT for it")
    static void soonOfWhoDoesNotWait() {
        BookplateHall hall = Halls.withCopies(2, 1, 1, 0, 0);
        Check.refuses(Check.STATE, "as nobody waits", hall, () -> hall.soon(0, 0));
        hall.await(0, 1);
        hall.await(1, 0);
        Check.refuses(Check.STATE, "who waits for another record", hall, () -> hall.soon(0, 0));
        hall.lend(1, 0);
        Check.refuses(Check.STATE, "who has it", hall, () -> hall.soon(1, 0));
        hall.leave(0, 1);
        Check.refuses(Check.STATE, "who left", hall, () -> hall.soon(0, 1));
    }

    // ---- what may be borrowed

    @Edge(promise = 29, words = "Returns how many COPIES it may BORROW now, one by one, each as if it was the only one.")
    static void mayBorrowNoneToThirty() {
        BookplateHall hall = Halls.withRecords(0, 1);
        hall.reader(0);
        Check.same("without copies", 0, hall.mayBorrow(0));
        for (int copy = 0; copy < 30; copy++) {
            hall.copy(0, 1);
        }
        Check.same("all thirty, though it may have two", 30, hall.mayBorrow(0));
        hall.lend(0, 0);
        Check.same("but the one that it has", 29, hall.mayBorrow(0));
        hall.lend(0, 29);
        Check.same("none, with two", 0, hall.mayBorrow(0));
        hall.back(0);
        Check.same("with one", 29, hall.mayBorrow(0));
    }

    @Edge(promise = 29, words = "Returns how many COPIES it may BORROW now, one by one, each as if it was the only one.")
    static void mayBorrowWhatIsAsideForIt() {
        BookplateHall hall = Halls.withCopies(2, 1, 1, 0, 0);
        hall.copy(1, 1);
        hall.await(0, 0);
        Check.same("one aside for it, and one that is in", 2, hall.mayBorrow(0));
        Check.same("the one that is in", 1, hall.mayBorrow(1));
        hall.await(1, 1);
        Check.same("one aside for it", 1, hall.mayBorrow(0));
        Check.same("the other, aside for the other", 1, hall.mayBorrow(1));
    }

    @Edge(promise = 29, words = "Returns how many COPIES it may BORROW now, one by one, each as if it was the only one.")
    static void mayBorrowOwing50AndWithALateOne() {
        BookplateHall hall = Halls.owing(51, 2);
        Check.same("owing 51", 0, hall.mayBorrow(0));
        hall.pay(0, 1);
        Check.same("owing 50, but the lost one", 2, hall.mayBorrow(0));
        hall.lend(0, 1);
        hall.pass(14);
        Check.same("on the day on which one is due", 1, hall.mayBorrow(0));
        hall.pass(1);
        Check.same("with a late one", 0, hall.mayBorrow(0));
    }

    @Edge(promise = 29, words = "Throws `IndexOutOfBoundsException` if there is no such READER")
    static void noSuchReaderToBorrow() {
        BookplateHall hall = Halls.withCopies(1, 1, 1, 0, 0);
        Check.refuses(Check.INDEX, "mayBorrow(-1)", hall, () -> hall.mayBorrow(-1));
        Check.refuses(Check.INDEX, "mayBorrow(2)", hall, () -> hall.mayBorrow(2));
        Check.refuses(Check.INDEX, "mayBorrow(8)", hall, () -> hall.mayBorrow(8));
        Check.refuses(Check.INDEX, "mayBorrow(least)", hall, () -> hall.mayBorrow(LEAST));
        Check.refuses(Check.INDEX, "mayBorrow(greatest)", hall, () -> hall.mayBorrow(GREATEST));
        Check.same("mayBorrow(1)", 1, hall.mayBorrow(1));
    }

    // ---- what would be lost

    @Edge(promise = 30, words = "Returns how many COPIES would come to be LOST, if nothing else was done.")
    static void lostInFromTheDayOn() {
        BookplateHall hall = Halls.withCopies(1, 3, 1, 0, 1);
        Check.same("with none lent", 0, hall.lostIn(40));
        hall.lend(0, 0);
        hall.lend(1, 1);
        hall.pass(3);
        Check.same("the day 43", 0, hall.lostIn(40));
        hall.pass(1);
        Check.same("the day 43", 0, hall.lostIn(39));
        Check.same("the day 44", 1, hall.lostIn(40));
        hall.pass(39);
        Check.same("the day 44, tomorrow", 1, hall.lostIn(1));
        Check.same("the day 57", 1, hall.lostIn(14));
        Check.same("the day 58", 2, hall.lostIn(15));
        hall.pass(1);
        Check.same("lost already", 0, hall.lostIn(1));
        Check.same("nothing is lost by asking", 1, hall.many(8));
    }

    @Edge(promise = 30, words = "Returns how many COPIES would come to be LOST, if nothing else was done.")
    static void lostInOfAllThirty() {
        BookplateHall hall = Halls.withCopies(1, 30, 1, 1, 1, 1, 1, 1, 1, 1, 1);
        for (int copy = 0; copy < 30; copy++) {
            hall.lend(copy / 4, copy);
        }
        hall.pass(18);
        Check.same("a day ahead", 0, hall.lostIn(39));
        Check.same("on the day", 30, hall.lostIn(40));
        Check.same("as many as come to be lost", 30, hall.pass(40));
        Check.same("none is left", 0, hall.lostIn(40));
    }

    @Edge(promise = 30, words = "Throws `IllegalArgumentException` if days is not 1 to 40")
    static void lostInOfDaysBeyond() {
        BookplateHall hall = Halls.withCopies(1, 1, 1, 0);
        hall.lend(0, 0);
        hall.pass(4);
        Check.refuses(Check.ARGUMENT, "lostIn(0)", hall, () -> hall.lostIn(0));
        Check.refuses(Check.ARGUMENT, "lostIn(-1)", hall, () -> hall.lostIn(-1));
        Check.refuses(Check.ARGUMENT, "lostIn(41)", hall, () -> hall.lostIn(41));
        Check.refuses(Check.ARGUMENT, "lostIn(least)", hall, () -> hall.lostIn(LEAST));
        Check.refuses(Check.ARGUMENT, "lostIn(greatest)", hall, () -> hall.lostIn(GREATEST));
        Check.same("lostIn(1)", 0, hall.lostIn(1));
        Check.same("lostIn(40)", 1, hall.lostIn(40));
    }

    // ---- the checksum

    @Edge(promise = 31, words = "A number d starts with 982")
    static void digestOfNothing() {
        // Ten totals and lostIn(30), all 0: 982 times 31 to the 11th, which is more than 64 bits hold.
        BigInteger whole = BigInteger.valueOf(982).multiply(BigInteger.valueOf(31).pow(11));
        Check.holds("it wraps around", whole.bitLength() > 64);
        Check.same("digest", whole.longValue(), new BookplateHall().digest());
    }

    @Edge(promise = 31, words = "then d becomes d * 31 + v, which wraps around as a 64-bit integer")
    static void digestWrapsAround() {
        List<Integer> values = Checksum.values(busy(Halls.full()), busy(Halls.full()));
        BigInteger whole = Checksum.whole(values);
        Check.holds("it is far beyond 64 bits", whole.bitLength() > 1000);
        Check.same("digest", whole.longValue(), busy(Halls.full()).digest());
    }

    @Edge(promise = 31, words = "which wraps around as a 64-bit integer")
    static void digestsOfBothSigns() {
        BookplateHall hall = new BookplateHall();
        int negative = 0;
        for (int name = 0; name < 16; name++) {
            hall.name();
            long due = Checksum.wrapped(hall);
            Check.same("digest of " + (name + 1) + " names", due, hall.digest());
            negative += due < 0 ? 1 : 0;
        }
        Check.holds("some are below 0, and some are not", negative > 0 && negative < 16);
    }

    @Edge(promise = 31, words = {"many() of 0 to 9; each stands(); RECORD by RECORD ofRecord() of 0 to 6, and each waiter()",
        "COPY by COPY ofCopy() of 0 to 6; READER by READER ofReader() of 0 to 6, mayBorrow(); lostIn() of 30."})
    static void digestOfEachPartAlone() {
        BookplateHall names = Halls.withNames(3);
        names.variant(0, 2);
        Check.same("of names", Checksum.wrapped(names), names.digest());
        BookplateHall records = Halls.withRecords(1, 20);
        records.lay(3, 4);
        Check.same("of records", Checksum.wrapped(records), records.digest());
        BookplateHall copies = Halls.withCopies(1, 30, 7);
        Check.same("of copies", Checksum.wrapped(copies), copies.digest());
        BookplateHall readers = Halls.withReaders(0, 0, 1, 0, 1, 0, 1, 0, 1);
        Check.same("of readers", Checksum.wrapped(readers), readers.digest());
        BookplateHall waiting = Halls.withReaders(2, 0, 1, 0, 1, 0, 1, 0, 1);
        waiting.await(3, 0);
        waiting.await(1, 0);
        waiting.await(1, 1);
        Check.same("of those who wait", Checksum.wrapped(waiting), waiting.digest());
        waiting.lay(0, 1);
        Check.same("of those who wait for what others went over into", Checksum.wrapped(waiting), waiting.digest());
    }

    @Edge(promise = 31, words = "lostIn() of 30.")
    static void digestOfThirtyDaysAhead() {
        BookplateHall hall = Halls.withCopies(1, 1, 1, 0);
        hall.lend(0, 0);
        hall.pass(13);
        Check.same("31 days ahead of its loss", 0, hall.lostIn(30));
        Check.same("digest", Checksum.wrapped(hall), hall.digest());
        hall.pass(1);
        Check.same("30 days ahead of its loss", 1, hall.lostIn(30));
        Check.same("digest", Checksum.wrapped(hall), hall.digest());
    }

    @Edge(promise = 31, words = "Computes a checksum.")
    static void digestChangesNothing() {
        BookplateHall hall = Halls.full();
        busy(hall);
        long first = hall.digest();
        Check.same("digest again", first, hall.digest());
        Check.same("digest of the same calls", first, busy(Halls.full()).digest());
    }

    /** Copies at each place, some of them late, and some readers who wait for what was laid together. */
    private static BookplateHall busy(BookplateHall hall) {
        hall.variant(3, 5);
        hall.lend(0, 0);
        hall.lend(4, 20);
        hall.lend(5, 1);
        Halls.pass(hall, 44);
        hall.lend(1, 2);
        hall.renew(2);
        hall.await(2, 0);
        hall.await(3, 0);
        hall.await(7, 19);
        hall.lay(0, 19);
        return hall;
    }
}
