/** Promises 21 to 26, and what the terms say of waiting and of days: each edge by itself. */
public final class EdgesOfWaitingAndDaysTest {

    private static final int NONE = -1;
    private static final int LEAST = Integer.MIN_VALUE;
    private static final int GREATEST = Integer.MAX_VALUE;

    private EdgesOfWaitingAndDaysTest() {
    }

    public static void main(String[] args) {
        Edges.run(EdgesOfWaitingAndDaysTest.class);
    }

    // ---- beginning to wait

    @Edge(promise = Edge.TERMS, words = "READERS WAIT for RECORDS, in the order in which they began to.")
    static void inTheOrderInWhichTheyBegan() {
        BookplateHall hall = Halls.withReaders(1, 0, 0, 0, 0, 0, 0, 0, 0);
        int[] order = {7, 0, 3, 6, 1, 5, 2, 4};
        for (int reader : order) {
            hall.await(reader, 0);
        }
        Facts.line(hall, 0, order);
        hall.leave(7, 0);
        hall.leave(6, 0);
        hall.leave(4, 0);
        Facts.line(hall, 0, 0, 3, 1, 5, 2);
        hall.await(6, 0);
        hall.await(4, 0);
        hall.await(7, 0);
        Facts.line(hall, 0, 0, 3, 1, 5, 2, 6, 4, 7);
    }

    @Edge(promise = Edge.TERMS, words = "A READER who has a COPY of it cannot begin to WAIT")
    static void whoHasACopyCannotBegin() {
        BookplateHall hall = Halls.withCopies(2, 2, 1, 0, 0);
        hall.copy(1, 1);
        hall.lend(0, 1);
        Check.refuses(Check.STATE, "who has one, though another is in", hall, () -> hall.await(0, 0));
        Check.same("for another record", 2, hall.await(0, 1));
        Check.same("who has none", 0, hall.await(1, 0));
        hall.back(1);
        Check.same("who had one", 1, hall.await(0, 0));
    }

    @Edge(promise = Edge.TERMS, words = "A READER who has a COPY of it cannot begin to WAIT")
    static void whoLostACopyCanBegin() {
        BookplateHall hall = Halls.withCopies(1, 1, 1, 0);
        hall.lend(0, 0);
        Halls.pass(hall, 43);
        Check.refuses(Check.STATE, "who has a late one", hall, () -> hall.await(0, 0));
        hall.pass(1);
        Check.same("who lost one", NONE, hall.await(0, 0));
    }

    @Edge(promise = Edge.TERMS, words = "nor one who WAITS already.")
    static void whoWaitsCannotBegin() {
        BookplateHall hall = Halls.withCopies(2, 1, 1, 0, 0);
        hall.await(0, 0);
        hall.await(1, 0);
        Check.refuses(Check.STATE, "who waits with one aside", hall, () -> hall.await(0, 0));
        Check.refuses(Check.STATE, "who waits with none", hall, () -> hall.await(1, 0));
        Check.same("for another record", NONE, hall.await(0, 1));
        hall.leave(0, 0);
        Check.same("who waited", NONE, hall.await(0, 0));
    }

    @Edge(promise = Edge.TERMS, words = "the smallest such COPY is ASIDE for that READER at once, as above.")
    static void theSmallestCopyThatIsIn() {
        BookplateHall hall = Halls.withCopies(2, 4, 1, 0, 0, 0, 1);
        hall.copy(1, 1);
        hall.lend(3, 0);
        hall.pass(2);
        Check.same("not the one lent", 1, hall.await(2, 0));
        Facts.place(hall, 1, Facts.ASIDE, 2, 8);
        Check.same("not the one aside", 2, hall.await(0, 0));
        hall.back(0);
        Check.same("the one that is back", 0, hall.await(1, 0));
        Facts.place(hall, 3, Facts.IN, NONE, NONE);
        Facts.place(hall, 4, Facts.IN, NONE, NONE);
    }

    @Edge(promise = 21, words = "Returns the COPY that is ASIDE for it then; NONE without one.")
    static void awaitWithoutACopy() {
        BookplateHall hall = Halls.withReaders(2, 0, 0, 0);
        Check.same("without copies", NONE, hall.await(0, 0));
        hall.copy(1, 1);
        Check.same("with one of another record", NONE, hall.await(1, 0));
        hall.lend(0, 0);
        Check.same("with one that is lent", NONE, hall.await(1, 1));
        Halls.pass(hall, 44);
        Check.same("with one that is lost", NONE, hall.await(2, 1));
        hall.leave(1, 1);
        hall.find(0);
        Check.same("with one that is aside for another", NONE, hall.await(0, 1));
        Facts.place(hall, 0, Facts.ASIDE, 2, 50);
    }

    @Edge(promise = 21, words = "the RECORD, LIVE or not")
    static void awaitOfOneThatIsNotLive() {
        BookplateHall hall = Halls.withReaders(3, 0, 0);
        hall.copy(1, 1);
        hall.lay(1, 2);
        hall.lay(0, 2);
        Check.same("a copy of the live one", 0, hall.await(0, 0));
        Check.refuses(Check.STATE, "who waits for the live one", hall, () -> hall.await(0, 1));
        hall.lend(0, 0);
        Check.refuses(Check.STATE, "who has a copy of the live one", hall, () -> hall.await(0, 0));
        Check.same("who has none", NONE, hall.await(1, 1));
        Facts.line(hall, 2, 1);
    }

    @Edge(promise = 21, words = "Throws `IndexOutOfBoundsException` if there is no such READER, or RECORD")
    static void noSuchReaderOrRecordToAwait() {
        BookplateHall hall = Halls.withReaders(2, 0, 0);
        hall.await(0, 0);
        Check.refuses(Check.INDEX, "await(-1, 0)", hall, () -> hall.await(-1, 0));
        Check.refuses(Check.INDEX, "await(2, 0)", hall, () -> hall.await(2, 0));
        Check.refuses(Check.INDEX, "await(8, 0)", hall, () -> hall.await(8, 0));
        Check.refuses(Check.INDEX, "await(greatest, 0)", hall, () -> hall.await(GREATEST, 0));
        Check.refuses(Check.INDEX, "await(0, -1)", hall, () -> hall.await(0, -1));
        Check.refuses(Check.INDEX, "await(0, 2)", hall, () -> hall.await(0, 2));
        Check.refuses(Check.INDEX, "await(0, 20)", hall, () -> hall.await(0, 20));
        Check.refuses(Check.INDEX, "await(0, least)", hall, () -> hall.await(0, LEAST));
        Check.same("await(1, 1)", NONE, hall.await(1, 1));
    }

    @Edge(promise = 21, words = "Throws `IllegalStateException` if it cannot begin to WAIT for it")
    static void aRefusedAwaitLeavesTheLine() {
        BookplateHall hall = Halls.withCopies(1, 2, 1, 0, 0);
        hall.await(1, 0);
        hall.lend(0, 1);
        Check.refuses(Check.STATE, "who has a copy", hall, () -> hall.await(0, 0));
        Check.refuses(Check.STATE, "who waits", hall, () -> hall.await(1, 0));
        Facts.line(hall, 0, 1);
        Facts.place(hall, 0, Facts.ASIDE, 1, 6);
        Facts.place(hall, 1, Facts.LENT, 0, 14);
    }

    // ---- leaving

    @Edge(promise = Edge.TERMS,
            words = "Who does not WAIT any more has nothing ASIDE for it: such a COPY is FREE (as above).")
    static void leaveFreesTheOneAside() {
        BookplateHall hall = Halls.withCopies(1, 2, 1, 0, 0, 0, 0);
        hall.await(0, 0);
        hall.await(1, 0);
        hall.await(2, 0);
        hall.await(3, 0);
        hall.pass(1);
        hall.leave(1, 0);
        Facts.place(hall, 1, Facts.ASIDE, 2, 7);
        hall.leave(3, 0);
        Facts.place(hall, 0, Facts.ASIDE, 0, 6);
        hall.leave(2, 0);
        Facts.place(hall, 1, Facts.IN, NONE, NONE);
    }

    @Edge(promise = Edge.TERMS,
            words = "Who does not WAIT any more has nothing ASIDE for it: such a COPY is FREE (as above).")
    static void leaveKeepsWhatIsAsideOfAnotherRecord() {
        BookplateHall hall = Halls.withCopies(2, 1, 1, 0);
        hall.copy(1, 1);
        hall.await(0, 0);
        hall.await(0, 1);
        hall.leave(0, 0);
        Facts.place(hall, 0, Facts.IN, NONE, NONE);
        Facts.place(hall, 1, Facts.ASIDE, 0, 6);
        Facts.line(hall, 1, 0);
    }

    @Edge(promise = 22, words = "Returns how many WAIT for it then.")
    static void leaveReturnsSevenToNone() {
        BookplateHall hall = Halls.withReaders(1, 0, 0, 0, 0, 0, 0, 0, 0);
        for (int reader = 0; reader < 8; reader++) {
            hall.await(reader, 0);
        }
        int[] order = {3, 0, 7, 1, 6, 4, 2, 5};
        for (int k = 0; k < order.length; k++) {
            Check.same("leave of " + order[k], 7 - k, hall.leave(order[k], 0));
        }
        Facts.line(hall, 0);
    }

    @Edge(promise = 22, words = "the RECORD, LIVE or not")
    static void leaveOneThatIsNotLive() {
        BookplateHall hall = Halls.withReaders(3, 0, 0, 0);
        hall.await(0, 0);
        hall.await(1, 1);
        hall.await(2, 2);
        hall.lay(0, 1);
        hall.lay(1, 2);
        Check.same("the one laid", 2, hall.leave(1, 0));
        Check.same("the one that it went over into", 1, hall.leave(2, 1));
        Facts.line(hall, 2, 0);
    }

    @Edge(promise = 22, words = "Throws `IndexOutOfBoundsException` if there is no such READER, or RECORD")
    static void noSuchReaderOrRecordToLeave() {
        BookplateHall hall = Halls.withReaders(2, 0, 0);
        hall.await(1, 1);
        Check.refuses(Check.INDEX, "leave(-1, 0)", hall, () -> hall.leave(-1, 0));
        Check.refuses(Check.INDEX, "leave(2, 0)", hall, () -> hall.leave(2, 0));
        Check.refuses(Check.INDEX, "leave(8, 0)", hall, () -> hall.leave(8, 0));
        Check.refuses(Check.INDEX, "leave(least, 0)", hall, () -> hall.leave(LEAST, 0));
        Check.refuses(Check.INDEX, "leave(0, -1)", hall, () -> hall.leave(0, -1));
        Check.refuses(Check.INDEX, "leave(0, 2)", hall, () -> hall.leave(0, 2));
        Check.refuses(Check.INDEX, "leave(0, 20)", hall, () -> hall.leave(0, 20));
        Check.refuses(Check.INDEX, "leave(0, greatest)", hall, () -> hall.leave(0, GREATEST));
        Check.same("leave(1, 1)", 0, hall.leave(1, 1));
    }

    @Edge(promise = 22, words = "Throws `IllegalStateException` if it does not WAIT for it")
    static void whoDoesNotWaitCannotLeave() {
        BookplateHall hall = Halls.withCopies(2, 1, 1, 0, 0);
        Check.refuses(Check.STATE, "as nobody waits", hall, () -> hall.leave(0, 0));
        hall.await(1, 0);
        hall.await(0, 1);
        Check.refuses(Check.STATE, "as another waits", hall, () -> hall.leave(0, 0));
        hall.lend(1, 0);
        Check.refuses(Check.STATE, "who has it", hall, () -> hall.leave(1, 0));
        hall.leave(0, 1);
        Check.refuses(Check.STATE, "who left", hall, () -> hall.leave(0, 1));
    }

    // ---- who waits

    @Edge(promise = 23, words = "Throws `IndexOutOfBoundsException` if there is no such RECORD, or place")
    static void noSuchPlaceInALine() {
        BookplateHall hall = Halls.withReaders(2, 0, 1, 0);
        Check.refuses(Check.INDEX, "waiter(0, 0) of nobody", hall, () -> hall.waiter(0, 0));
        hall.await(2, 0);
        hall.await(1, 0);
        Check.same("the first", 2, hall.waiter(0, 0));
        Check.same("the last", 1, hall.waiter(0, 1));
        Check.refuses(Check.INDEX, "waiter(0, 2)", hall, () -> hall.waiter(0, 2));
        Check.refuses(Check.INDEX, "waiter(0, -1)", hall, () -> hall.waiter(0, -1));
        Check.refuses(Check.INDEX, "waiter(0, least)", hall, () -> hall.waiter(0, LEAST));
        Check.refuses(Check.INDEX, "waiter(0, greatest)", hall, () -> hall.waiter(0, GREATEST));
        Check.refuses(Check.INDEX, "waiter(1, 0) of nobody", hall, () -> hall.waiter(1, 0));
        hall.leave(2, 0);
        Check.same("the first now", 1, hall.waiter(0, 0));
        Check.refuses(Check.INDEX, "waiter(0, 1) of one", hall, () -> hall.waiter(0, 1));
    }

    @Edge(promise = 23, words = "Throws `IndexOutOfBoundsException` if there is no such RECORD, or place")
    static void noNinthPlaceInAFullLine() {
        BookplateHall hall = Halls.withReaders(1, 0, 0, 0, 0, 1, 1, 1, 1);
        for (int reader = 0; reader < 8; reader++) {
            hall.await(7 - reader, 0);
        }
        Check.same("the eighth", 0, hall.waiter(0, 7));
        Check.refuses(Check.INDEX, "waiter(0, 8)", hall, () -> hall.waiter(0, 8));
        Check.refuses(Check.INDEX, "waiter(0, 9)", hall, () -> hall.waiter(0, 9));
    }

    @Edge(promise = 23, words = "Throws `IndexOutOfBoundsException` if there is no such RECORD, or place")
    static void noSuchRecordToWaitFor() {
        BookplateHall hall = Halls.withReaders(2, 0);
        hall.await(0, 1);
        Check.refuses(Check.INDEX, "waiter(-1, 0)", hall, () -> hall.waiter(-1, 0));
        Check.refuses(Check.INDEX, "waiter(2, 0)", hall, () -> hall.waiter(2, 0));
        Check.refuses(Check.INDEX, "waiter(20, 0)", hall, () -> hall.waiter(20, 0));
        Check.refuses(Check.INDEX, "waiter(least, 0)", hall, () -> hall.waiter(LEAST, 0));
        Check.refuses(Check.INDEX, "waiter(greatest, 0)", hall, () -> hall.waiter(GREATEST, 0));
        Check.same("waiter(1, 0)", 0, hall.waiter(1, 0));
    }

    @Edge(promise = 23, words = "a RECORD, LIVE or not")
    static void waiterOfOneThatIsNotLive() {
        BookplateHall hall = Halls.withReaders(3, 0, 0);
        hall.await(0, 2);
        hall.await(1, 0);
        hall.lay(0, 1);
        hall.lay(1, 2);
        Check.same("the first of the live one", 0, hall.waiter(0, 0));
        Check.same("the second of the live one", 1, hall.waiter(0, 1));
        Check.refuses(Check.INDEX, "the third", hall, () -> hall.waiter(0, 2));
    }

    // ---- days

    @Edge(promise = 24, words = "Throws `IllegalArgumentException` if days is not 1 to 40")
    static void daysBeyond() {
        BookplateHall hall = Halls.withCopies(1, 1, 1, 0);
        hall.lend(0, 0);
        Check.refuses(Check.ARGUMENT, "pass(0)", hall, () -> hall.pass(0));
        Check.refuses(Check.ARGUMENT, "pass(-1)", hall, () -> hall.pass(-1));
        Check.refuses(Check.ARGUMENT, "pass(41)", hall, () -> hall.pass(41));
        Check.refuses(Check.ARGUMENT, "pass(least)", hall, () -> hall.pass(LEAST));
        Check.refuses(Check.ARGUMENT, "pass(greatest)", hall, () -> hall.pass(GREATEST));
        Check.same("today", 0, hall.many(0));
        Check.same("pass(1)", 0, hall.pass(1));
        Check.same("pass(40)", 0, hall.pass(40));
        Check.same("today", 41, hall.many(0));
    }

    @Edge(promise = Edge.TERMS, words = "of one that is ASIDE till TODAY - 1 the READER does not WAIT for its RECORD any more")
    static void asideTillTheDayAndNoLonger() {
        BookplateHall hall = Halls.withCopies(1, 1, 1, 0);
        hall.pass(3);
        hall.await(0, 0);
        hall.pass(6);
        Check.same("today", 9, hall.many(0));
        Facts.place(hall, 0, Facts.ASIDE, 0, 9);
        Facts.line(hall, 0, 0);
        hall.pass(1);
        Facts.place(hall, 0, Facts.IN, NONE, NONE);
        Facts.line(hall, 0);
    }

    @Edge(promise = Edge.TERMS, words = "of one that is ASIDE till TODAY - 1 the READER does not WAIT for its RECORD any more")
    static void fromOneWaiterToTheNextInOnePass() {
        BookplateHall hall = Halls.withCopies(2, 1, 1, 0, 0, 0);
        hall.await(2, 0);
        hall.await(1, 0);
        hall.await(0, 0);
        hall.await(2, 1);
        hall.pass(13);
        Facts.line(hall, 0, 1, 0);
        Facts.place(hall, 0, Facts.ASIDE, 1, 13);
        hall.pass(8);
        Facts.line(hall, 0);
        Facts.place(hall, 0, Facts.IN, NONE, NONE);
        Facts.line(hall, 1, 2);
    }

    @Edge(promise = Edge.TERMS, words = "of one that is ASIDE till TODAY - 1 the READER does not WAIT for its RECORD any more")
    static void allDaysOfOnePassAreTheSameAsOneByOne() {
        BookplateHall atOnce = Halls.withCopies(1, 2, 5, 0, 1, 0, 0);
        BookplateHall oneByOne = Halls.withCopies(1, 2, 5, 0, 1, 0, 0);
        for (BookplateHall hall : new BookplateHall[] {atOnce, oneByOne}) {
            hall.lend(0, 0);
            hall.await(1, 0);
            hall.await(2, 0);
            hall.await(3, 0);
            hall.pass(20);
        }
        int lost = 0;
        for (int day = 0; day < 40; day++) {
            lost += oneByOne.pass(1);
        }
        Check.same("lost", lost, atOnce.pass(40));
        Check.same("digest", oneByOne.digest(), atOnce.digest());
    }

    @Edge(promise = Edge.TERMS, words = "then, COPY by COPY")
    static void twoThatEndOnOneDayGoInTheirOrder() {
        BookplateHall hall = Halls.withCopies(1, 2, 1, 0, 0, 0, 0);
        hall.await(1, 0);
        hall.await(0, 0);
        hall.await(3, 0);
        hall.await(2, 0);
        hall.pass(7);
        Facts.line(hall, 0, 3, 2);
        Facts.place(hall, 0, Facts.ASIDE, 3, 13);
        Facts.place(hall, 1, Facts.ASIDE, 2, 13);
    }

    @Edge(promise = Edge.TERMS, words = "then, COPY by COPY")
    static void oneThatEndsAndOneThatStays() {
        BookplateHall hall = Halls.withCopies(1, 2, 1, 0, 0, 0);
        hall.await(0, 0);
        hall.pass(1);
        hall.await(1, 0);
        hall.await(2, 0);
        hall.pass(6);
        Facts.line(hall, 0, 1, 2);
        Facts.place(hall, 0, Facts.ASIDE, 2, 13);
        Facts.place(hall, 1, Facts.ASIDE, 1, 7);
    }

    @Edge(promise = Edge.TERMS, words = "one that is LATE for 30 DAYS is LOST")
    static void lateFor29DaysAndFor30() {
        BookplateHall hall = Halls.withCopies(1, 2, 1, 0, 1);
        hall.lend(0, 0);
        hall.lend(1, 1);
        Halls.pass(hall, 43);
        Facts.place(hall, 0, Facts.LENT, 0, 14);
        Check.same("kind 0, on its 30th day", 1, hall.pass(1));
        Facts.place(hall, 0, Facts.LOST, 0, NONE);
        Check.same("kind 1, on its 29th day", 0, hall.pass(13));
        Facts.place(hall, 1, Facts.LENT, 1, 28);
        Check.same("kind 1, on its 30th day", 1, hall.pass(1));
        Facts.place(hall, 1, Facts.LOST, 1, NONE);
    }

    @Edge(promise = Edge.TERMS, words = "one that is LATE for 30 DAYS is LOST")
    static void aRenewedOneIsLostLater() {
        BookplateHall hall = Halls.withCopies(1, 1, 1, 0);
        hall.lend(0, 0);
        hall.pass(14);
        hall.renew(0);
        Check.same("on the day 44", 0, hall.pass(30));
        Check.same("on the day 57", 0, hall.pass(13));
        Check.same("on the day 58", 1, hall.pass(1));
    }

    @Edge(promise = Edge.TERMS, words = "its READER OWES its PRICE and 40 more, and is without it.")
    static void aLostOneCostsItsPriceAnd40() {
        int[] prices = {1, 200};
        for (int price : prices) {
            BookplateHall hall = Halls.withCopies(1, 1, price, 0, 0);
            hall.lend(0, 0);
            Halls.pass(hall, 44);
            Facts.ofReader(hall, 0, 0, 0, price + 40, 0, 0, 0, 0);
            Facts.ofReader(hall, 1, 0, 0, 0, 0, 0, 0, 0);
            hall.pass(40);
            Check.same("owes no more by days", price + 40, hall.ofReader(0, 2));
        }
    }

    @Edge(promise = 24, words = "Returns how many COPIES came to be LOST.")
    static void noneToAllThirtyLost() {
        BookplateHall hall = Halls.withCopies(1, 30, 1, 1, 1, 1, 1, 1, 1, 1, 1);
        for (int copy = 0; copy < 30; copy++) {
            hall.lend(copy / 4, copy);
        }
        Check.same("pass(40)", 0, hall.pass(40));
        Check.same("pass(17)", 0, hall.pass(17));
        Check.same("pass(1)", 30, hall.pass(1));
        Facts.totals(hall, 58, 0, 1, 30, 8, 0, 0, 0, 30, 30 * 41);
        Check.same("those lost already", 0, hall.pass(40));
    }

    @Edge(promise = 24, words = "Returns how many COPIES came to be LOST.")
    static void lostOnSeveralDaysOfOnePass() {
        BookplateHall hall = Halls.withCopies(1, 4, 1, 1, 0);
        hall.lend(1, 0);
        hall.pass(1);
        hall.lend(1, 1);
        hall.lend(0, 2);
        hall.pass(40);
        Check.same("on the days 44, 45 and 59", 2, hall.pass(17));
        Check.same("on the day 59", 1, hall.pass(40));
    }

    // ---- totals

    @Edge(promise = 25, words = "Throws `IllegalArgumentException` if what is not 0 to 9")
    static void noSuchTotal() {
        BookplateHall hall = Halls.owing(77, 0);
        Check.refuses(Check.ARGUMENT, "many(-1)", hall, () -> hall.many(-1));
        Check.refuses(Check.ARGUMENT, "many(10)", hall, () -> hall.many(10));
        Check.refuses(Check.ARGUMENT, "many(least)", hall, () -> hall.many(LEAST));
        Check.refuses(Check.ARGUMENT, "many(greatest)", hall, () -> hall.many(GREATEST));
        Check.same("many(0)", 44, hall.many(0));
        Check.same("many(9)", 77, hall.many(9));
    }

    @Edge(promise = 25, words = {"0 TODAY, 1 NAMES, 2 RECORDS that are LIVE, 3 COPIES, 4 READERS",
        "5 to 8 COPIES that are IN, LENT, ASIDE, LOST, 9 what all READERS OWE"})
    static void totalsOfAFullLibrary() {
        BookplateHall hall = Halls.full();
        Facts.totals(hall, 0, 16, 20, 30, 8, 30, 0, 0, 0, 0);
        hall.lend(0, 0);
        hall.lend(4, 1);
        hall.lend(4, 2);
        hall.await(7, 3);
        hall.await(7, 4);
        hall.await(6, 5);
        Facts.totals(hall, 0, 16, 20, 30, 8, 24, 3, 3, 0, 0);
        Halls.pass(hall, 44);
        Facts.totals(hall, 44, 16, 20, 30, 8, 27, 2, 0, 1, 50);
        hall.back(2);
        Facts.totals(hall, 44, 16, 20, 30, 8, 28, 1, 0, 1, 50 + 32);
        Halls.pass(hall, 14);
        Facts.totals(hall, 58, 16, 20, 30, 8, 28, 0, 0, 2, 50 + 32 + 51);
    }

    @Edge(promise = 25, words = "2 RECORDS that are LIVE")
    static void twentyRecordsToOneAreLive() {
        BookplateHall hall = Halls.withRecords(0, 20);
        for (int record = 0; record < 19; record++) {
            Check.same("live ones", 20 - record, hall.many(2));
            hall.lay(record, 19);
        }
        Check.same("live ones", 1, hall.many(2));
    }

    // ---- the mean

    @Edge(promise = 26, words = {"Returns the mean number of RECORDS for which a READER WAITS, not cut",
        "0 without any."})
    static void theMeanWithoutReaders() {
        BookplateHall hall = Halls.withRecords(0, 20);
        Check.same("without readers", 0.0, hall.meanWaits());
        Check.same("without anything", 0.0, new BookplateHall().meanWaits());
    }

    @Edge(promise = 26, words = "Returns the mean number of RECORDS for which a READER WAITS, not cut")
    static void theMeanOfOneReader() {
        BookplateHall hall = Halls.withReaders(20, 0);
        for (int record = 0; record < 20; record++) {
            Check.same("waits for " + record, (double) record, hall.meanWaits());
            hall.await(0, record);
        }
        Check.same("waits for all", 20.0, hall.meanWaits());
    }

    @Edge(promise = 26, words = "Returns the mean number of RECORDS for which a READER WAITS, not cut")
    static void theMeanIsNotCut() {
        BookplateHall hall = Halls.withReaders(20, 0, 0, 0, 0, 0, 0, 0);
        Check.same("as nobody waits", 0.0, hall.meanWaits());
        hall.await(6, 0);
        Check.same("1 of 7", 1.0 / 7.0, hall.meanWaits());
        hall.await(6, 1);
        hall.await(5, 1);
        Check.same("3 of 7", 3.0 / 7.0, hall.meanWaits());
        hall.reader(1);
        Check.same("3 of 8", 0.375, hall.meanWaits());
        hall.leave(6, 1);
        Check.same("2 of 8", 0.25, hall.meanWaits());
    }

    @Edge(promise = 26, words = "Returns the mean number of RECORDS for which a READER WAITS, not cut")
    static void theMeanWhenAllWaitForAll() {
        BookplateHall hall = Halls.withReaders(20, 0, 0, 0, 0, 1, 1, 1, 1);
        for (int record = 0; record < 20; record++) {
            for (int reader = 0; reader < 8; reader++) {
                hall.await(reader, record);
            }
        }
        Check.same("all for all", 20.0, hall.meanWaits());
        hall.lay(0, 1);
        Check.same("all for all that are live", 19.0, hall.meanWaits());
    }

    @Edge(promise = Edge.TERMS, words = "All numbers are whole, if nothing else is said.")
    static void theMeanAloneIsNotWhole() {
        BookplateHall hall = Halls.withReaders(1, 0, 0);
        hall.await(0, 0);
        Check.same("the mean", 0.5, hall.meanWaits());
        Check.same("what a reader owes", 0, hall.ofReader(0, 2));
    }
}
