/** Promise 9, and what the terms say of records laid together: each edge by itself. */
public final class EdgesOfLayingTest {

    private static final int NONE = -1;

    private EdgesOfLayingTest() {
    }

    public static void main(String[] args) {
        Edges.run(EdgesOfLayingTest.class);
    }

    // ---- what lay answers and refuses

    @Edge(promise = 9, words = "Returns how many COPIES that has then, but LOST ones.")
    static void layReturnsCopiesButLostOnes() {
        BookplateHall hall = Halls.withReaders(5, 0, 1);
        Check.same("none", 0, hall.lay(0, 1));
        hall.copy(2, 1);
        hall.copy(2, 1);
        hall.copy(3, 1);
        hall.copy(4, 1);
        hall.lend(0, 0);
        hall.lend(0, 2);
        Halls.pass(hall, 44);
        hall.lend(1, 1);
        Check.same("a lent one, but not a lost one", 1, hall.lay(2, 1));
        Check.same("as many, with one lost on each side", 1, hall.lay(1, 3));
        Check.same("with one that is in", 2, hall.lay(3, 4));
    }

    @Edge(promise = 9, words = "Returns how many COPIES that has then, but LOST ones.")
    static void layOfAllCopies() {
        BookplateHall hall = Halls.withCopies(2, 15, 1);
        for (int copy = 0; copy < 15; copy++) {
            hall.copy(1, 1);
        }
        Check.same("thirty", 30, hall.lay(1, 0));
    }

    @Edge(promise = 9, words = "Throws `IndexOutOfBoundsException` if there is no such RECORD")
    static void noSuchRecordToLay() {
        BookplateHall hall = Halls.withRecords(0, 3);
        hall.lay(0, 1);
        Check.refuses(Check.INDEX, "lay(-1, 2)", hall, () -> hall.lay(-1, 2));
        Check.refuses(Check.INDEX, "lay(2, -1)", hall, () -> hall.lay(2, -1));
        Check.refuses(Check.INDEX, "lay(3, 2)", hall, () -> hall.lay(3, 2));
        Check.refuses(Check.INDEX, "lay(2, 3)", hall, () -> hall.lay(2, 3));
        Check.refuses(Check.INDEX, "lay(20, 2)", hall, () -> hall.lay(20, 2));
        Check.refuses(Check.INDEX, "lay(2, greatest)", hall, () -> hall.lay(2, Integer.MAX_VALUE));
        Check.refuses(Check.INDEX, "lay(least, 2)", hall, () -> hall.lay(Integer.MIN_VALUE, 2));
        Check.refuses(Check.INDEX, "lay(3, 3), which are the same", hall, () -> hall.lay(3, 3));
        Check.refuses(Check.INDEX, "lay(0, 3), of which one is not live", hall, () -> hall.lay(0, 3));
        Check.refuses(Check.INDEX, "lay(3, 0), of which one is not live", hall, () -> hall.lay(3, 0));
        Check.same("lay(2, 1)", 0, hall.lay(2, 1));
    }

    @Edge(promise = 9, words = "Throws `IllegalStateException` if one of both is not LIVE")
    static void oneThatIsNotLiveIsNotLaid() {
        BookplateHall hall = Halls.withRecords(0, 4);
        hall.lay(0, 1);
        Check.refuses(Check.STATE, "the first is not live", hall, () -> hall.lay(0, 2));
        Check.refuses(Check.STATE, "the first is not live, into the same again", hall, () -> hall.lay(0, 1));
        Check.refuses(Check.STATE, "the second is not live", hall, () -> hall.lay(2, 0));
        Check.refuses(Check.STATE, "the second is not live, and went over into the first", hall, () -> hall.lay(1, 0));
        hall.lay(2, 3);
        Check.refuses(Check.STATE, "both are not live", hall, () -> hall.lay(0, 2));
        Check.same("both are live", 0, hall.lay(1, 3));
    }

    @Edge(promise = 9, words = "or they are the same")
    static void aRecordIsNotLaidIntoItself() {
        BookplateHall hall = Halls.withRecords(0, 2);
        Check.refuses(Check.STATE, "live", hall, () -> hall.lay(0, 0));
        hall.lay(0, 1);
        Check.refuses(Check.STATE, "not live", hall, () -> hall.lay(0, 0));
        Check.refuses(Check.STATE, "live, with one laid into it", hall, () -> hall.lay(1, 1));
    }

    // ---- copies

    @Edge(promise = Edge.TERMS, words = "its COPIES are of that one from now on")
    static void allItsCopiesMove() {
        BookplateHall hall = Halls.withReaders(3, 1, 0);
        hall.copy(0, 5);
        hall.lend(0, 0);
        Halls.pass(hall, 58);
        hall.copy(0, 6);
        hall.copy(0, 7);
        hall.copy(0, 8);
        hall.copy(2, 9);
        hall.lend(0, 1);
        hall.await(1, 0);
        hall.lay(0, 1);
        Facts.ofCopy(hall, 0, 1, Facts.LOST, 0, NONE, 0, 0, 5);
        Facts.ofCopy(hall, 1, 1, Facts.LENT, 0, 86, 0, 0, 6);
        Facts.ofCopy(hall, 2, 1, Facts.ASIDE, 1, 64, 0, 0, 7);
        Facts.ofCopy(hall, 3, 1, Facts.IN, NONE, NONE, 0, 0, 8);
        Facts.ofCopy(hall, 4, 2, Facts.IN, NONE, NONE, 0, 0, 9);
    }

    @Edge(promise = Edge.TERMS, words = "its COPIES are of that one from now on")
    static void aRecordWithoutCopiesMovesNone() {
        BookplateHall hall = Halls.withCopies(2, 1, 1);
        Check.same("lay", 1, hall.lay(1, 0));
        Check.same("the copy of the other", 0, hall.ofCopy(0, 0));
    }

    @Edge(promise = Edge.TERMS, words = "its COPIES are of that one from now on")
    static void aLostOneIsFoundOfTheLiveRecord() {
        BookplateHall hall = Halls.withCopies(2, 1, 1, 0, 0);
        hall.lend(0, 0);
        Halls.pass(hall, 44);
        hall.await(1, 1);
        hall.lay(0, 1);
        hall.find(0);
        Facts.place(hall, 0, Facts.ASIDE, 1, 50);
        Check.same("copies", 1, hall.ofRecord(1, 4));
    }

    @Edge(promise = Edge.TERMS, words = "its COPIES are of that one from now on")
    static void aLentOneKeepsItsDayAndItsRenewals() {
        BookplateHall hall = Halls.withCopies(2, 1, 1, 0);
        hall.lend(0, 0);
        hall.renew(0);
        hall.pass(16);
        hall.lay(0, 1);
        Facts.ofCopy(hall, 0, 1, Facts.LENT, 0, 14, 2, 1, 1);
        Check.same("back", 4, hall.back(0));
    }

    // ---- those who wait

    @Edge(promise = Edge.TERMS,
            words = "those who WAIT for it WAIT for that one, behind those who do so already, in their order")
    static void thoseWhoWaitGoBehind() {
        BookplateHall hall = Halls.withReaders(2, 0, 0, 0, 0, 0);
        hall.await(4, 0);
        hall.await(0, 0);
        hall.await(2, 0);
        hall.await(3, 1);
        hall.await(1, 1);
        hall.lay(0, 1);
        Facts.line(hall, 1, 3, 1, 4, 0, 2);
    }

    @Edge(promise = Edge.TERMS,
            words = "those who WAIT for it WAIT for that one, behind those who do so already, in their order")
    static void nobodyWaitsForOneOrForBoth() {
        BookplateHall hall = Halls.withReaders(4, 0, 0);
        hall.lay(0, 1);
        Facts.line(hall, 1);
        hall.await(1, 1);
        hall.await(0, 1);
        hall.lay(1, 2);
        Facts.line(hall, 2, 1, 0);
        hall.lay(3, 2);
        Facts.line(hall, 2, 1, 0);
    }

    @Edge(promise = Edge.TERMS, words = "but for those who do so already")
    static void whoWaitsForBothWaitsOnce() {
        BookplateHall hall = Halls.withReaders(2, 0, 0, 0);
        hall.await(0, 0);
        hall.await(1, 0);
        hall.await(2, 1);
        hall.await(0, 1);
        Check.same("waits for two", 2, hall.ofReader(0, 3));
        hall.lay(0, 1);
        Facts.line(hall, 1, 2, 0, 1);
        Check.same("waits for one", 1, hall.ofReader(0, 3));
        Check.same("leave", 2, hall.leave(0, 1));
        Check.same("waits for none", 0, hall.ofReader(0, 3));
    }

    @Edge(promise = Edge.TERMS, words = "but for those who do so already")
    static void twoFullLinesAreOneFullLine() {
        BookplateHall hall = Halls.withReaders(3, 0, 0, 0, 0, 1, 1, 1, 1);
        for (int reader = 0; reader < 8; reader++) {
            hall.await(reader, 0);
            hall.await(7 - reader, 1);
        }
        Check.same("lay", 0, hall.lay(0, 1));
        Facts.line(hall, 1, 7, 6, 5, 4, 3, 2, 1, 0);
        Check.same("lay", 0, hall.lay(1, 2));
        Facts.line(hall, 2, 7, 6, 5, 4, 3, 2, 1, 0);
    }

    @Edge(promise = Edge.TERMS, words = "or have a COPY of that one now")
    static void whoHasACopyOfThatOneWaitsNoMore() {
        BookplateHall hall = Halls.withReaders(2, 0, 0);
        hall.copy(1, 1);
        hall.lend(0, 0);
        hall.await(0, 0);
        hall.await(1, 0);
        hall.lay(0, 1);
        Facts.line(hall, 1, 1);
        Check.same("waits for none", 0, hall.ofReader(0, 3));
        hall.back(0);
        Facts.place(hall, 0, Facts.ASIDE, 1, 6);
    }

    @Edge(promise = Edge.TERMS, words = "or have a COPY of that one now")
    static void whoHasACopyThatMovedWaitsNoMore() {
        BookplateHall hall = Halls.withReaders(3, 0);
        hall.copy(0, 1);
        hall.lend(0, 0);
        hall.await(0, 1);
        hall.lay(0, 1);
        Facts.line(hall, 1, 0);
        hall.lay(1, 2);
        Facts.line(hall, 2);
    }

    @Edge(promise = Edge.TERMS, words = "or have a COPY of that one now")
    static void whoLostACopyOfThatOneWaitsOn() {
        BookplateHall hall = Halls.withReaders(2, 0, 0);
        hall.copy(1, 1);
        hall.lend(0, 0);
        Halls.pass(hall, 44);
        hall.await(0, 0);
        hall.lay(0, 1);
        Facts.line(hall, 1, 0);
    }

    @Edge(promise = Edge.TERMS, words = "or have a COPY of that one now")
    static void whoHadACopyOfThatOneOrHasAnotherWaitsOn() {
        BookplateHall hall = Halls.withReaders(3, 0, 0);
        hall.copy(1, 1);
        hall.copy(2, 1);
        hall.lend(0, 0);
        hall.back(0);
        hall.lend(1, 0);
        hall.lend(0, 1);
        hall.await(0, 0);
        hall.lay(0, 1);
        Facts.line(hall, 1, 0);
    }

    @Edge(promise = Edge.TERMS, words = "(those who WAITED for that one already go on to)")
    static void whoWaitedThereGoesOnThoughItHasACopyNow() {
        BookplateHall hall = Halls.withReaders(2, 0, 0);
        hall.copy(0, 1);
        hall.lend(0, 0);
        hall.await(0, 1);
        hall.await(1, 0);
        hall.lay(0, 1);
        Facts.line(hall, 1, 0, 1);
        hall.back(0);
        Facts.place(hall, 0, Facts.ASIDE, 0, 6);
        Check.same("lend", 14, hall.lend(0, 0));
        Facts.line(hall, 1, 1);
    }

    // ---- the live one

    @Edge(promise = Edge.TERMS, words = "it is not LIVE any more")
    static void itIsNotLiveAnyMore() {
        BookplateHall hall = Halls.withRecords(0, 3);
        hall.lay(0, 1);
        Check.same("live ones", 2, hall.many(2));
        Check.same("found", 2, hall.found(1, NONE));
        Check.refuses(Check.STATE, "a copy of it", hall, () -> hall.copy(0, 1));
        Check.same("a copy of the live one", 0, hall.copy(1, 1));
    }

    @Edge(promise = Edge.TERMS,
            words = "and what is asked of it is asked of that one (and of what that goes over into).")
    static void whatIsAskedIsAskedOfTheLiveOne() {
        BookplateHall hall = Halls.withReaders(3, 0, 0, 0);
        hall.lay(0, 1);
        hall.lay(1, 2);
        hall.copy(2, 1);
        hall.lend(0, 0);
        Check.refuses(Check.STATE, "who has a copy of the live one", hall, () -> hall.await(0, 0));
        Check.same("await", NONE, hall.await(1, 0));
        Check.same("await of the next", NONE, hall.await(2, 1));
        Facts.line(hall, 0, 1, 2);
        Facts.line(hall, 1, 1, 2);
        Facts.line(hall, 2, 1, 2);
        Check.same("soon", 14, hall.soon(1, 0));
        Check.same("soon of the next", 28, hall.soon(2, 0));
        Facts.ofRecord(hall, 0, NONE, 1, 0, 2, 1, 2, 1);
        Check.refuses(Check.STATE, "who waits for the live one", hall, () -> hall.await(1, 1));
        Check.same("leave", 1, hall.leave(1, 0));
        Facts.line(hall, 2, 2);
    }

    @Edge(promise = Edge.TERMS,
            words = "and what is asked of it is asked of that one (and of what that goes over into).")
    static void whatIsAskedBehindNineteenSteps() {
        BookplateHall hall = Halls.withReaders(20, 0);
        hall.copy(0, 1);
        hall.await(0, 0);
        for (int record = 0; record < 19; record++) {
            Check.same("lay " + record, 1, hall.lay(record, record + 1));
        }
        Facts.ofRecord(hall, 0, NONE, 1, 0, 19, 1, 1, 0);
        Facts.place(hall, 0, Facts.ASIDE, 0, 6);
        Check.same("the record of the copy", 19, hall.ofCopy(0, 0));
        Check.same("waiter", 0, hall.waiter(0, 0));
        Check.same("soon", 0, hall.soon(0, 0));
        Check.same("leave", 0, hall.leave(0, 0));
        Facts.place(hall, 0, Facts.IN, NONE, NONE);
    }

    // ---- what is aside, and what is in

    @Edge(promise = Edge.TERMS, words = "one that is ASIDE for somebody who does not WAIT for its RECORD")
    static void asideForWhoWaitsNoMoreAndNobodyElse() {
        BookplateHall hall = Halls.withReaders(2, 0);
        hall.copy(1, 1);
        hall.copy(0, 1);
        hall.lend(0, 0);
        hall.await(0, 0);
        Facts.place(hall, 1, Facts.ASIDE, 0, 6);
        hall.lay(0, 1);
        Facts.place(hall, 1, Facts.IN, NONE, NONE);
    }

    @Edge(promise = Edge.TERMS, words = "one that is ASIDE for somebody who does not WAIT for its RECORD")
    static void asideForWhoWaitsNoMoreGoesToTheFirstWithNone() {
        BookplateHall hall = Halls.withReaders(2, 0, 0, 0, 0);
        hall.copy(1, 1);
        hall.copy(0, 1);
        hall.copy(0, 1);
        hall.lend(0, 0);
        hall.await(0, 0);
        hall.await(1, 0);
        hall.await(3, 0);
        hall.await(2, 0);
        hall.pass(4);
        hall.lay(0, 1);
        Facts.line(hall, 1, 1, 3, 2);
        Facts.place(hall, 1, Facts.ASIDE, 3, 10);
        Facts.place(hall, 2, Facts.ASIDE, 1, 6);
    }

    @Edge(promise = Edge.TERMS, words = "one that is ASIDE for somebody who does not WAIT for its RECORD")
    static void asideForWhoWaitsForAnotherRecordAloneIsFree() {
        BookplateHall hall = Halls.withReaders(3, 0);
        hall.copy(1, 1);
        hall.copy(0, 1);
        hall.copy(2, 1);
        hall.lend(0, 0);
        hall.await(0, 0);
        hall.await(0, 2);
        hall.lay(0, 1);
        Facts.place(hall, 1, Facts.IN, NONE, NONE);
        Facts.place(hall, 2, Facts.ASIDE, 0, 6);
        Check.same("waits for the other record yet", 1, hall.ofReader(0, 3));
    }

    @Edge(promise = Edge.TERMS, words = "or who has a smaller one ASIDE for it, is FREE")
    static void theGreaterOfTwoAsideIsFree() {
        BookplateHall hall = Halls.withReaders(2, 0, 0);
        hall.copy(0, 1);
        hall.copy(1, 1);
        hall.await(0, 0);
        hall.pass(1);
        hall.await(0, 1);
        hall.lay(0, 1);
        Facts.place(hall, 0, Facts.ASIDE, 0, 6);
        Facts.place(hall, 1, Facts.IN, NONE, NONE);
    }

    @Edge(promise = Edge.TERMS, words = "or who has a smaller one ASIDE for it, is FREE")
    static void theGreaterOfTwoAsideIsFreeWhicheverMoves() {
        BookplateHall hall = Halls.withReaders(2, 0, 0);
        hall.copy(0, 1);
        hall.copy(1, 1);
        hall.await(0, 0);
        hall.pass(1);
        hall.await(0, 1);
        hall.await(1, 0);
        hall.lay(1, 0);
        Facts.place(hall, 0, Facts.ASIDE, 0, 6);
        Facts.place(hall, 1, Facts.ASIDE, 1, 7);
    }

    @Edge(promise = Edge.TERMS, words = "or who has a smaller one ASIDE for it, is FREE")
    static void oneAsideOfEachRecordForAnotherReaderStays() {
        BookplateHall hall = Halls.withReaders(2, 0, 0);
        hall.copy(0, 1);
        hall.copy(1, 1);
        hall.await(0, 0);
        hall.await(1, 1);
        hall.pass(2);
        hall.lay(0, 1);
        Facts.place(hall, 0, Facts.ASIDE, 0, 6);
        Facts.place(hall, 1, Facts.ASIDE, 1, 6);
        Facts.line(hall, 1, 1, 0);
    }

    @Edge(promise = Edge.TERMS, words = "or who has a smaller one ASIDE for it, is FREE")
    static void twoAsideOfTwoOtherRecordsStay() {
        BookplateHall hall = Halls.withReaders(4, 0);
        hall.copy(2, 1);
        hall.copy(3, 1);
        hall.await(0, 2);
        hall.await(0, 3);
        hall.lay(0, 1);
        Facts.place(hall, 0, Facts.ASIDE, 0, 6);
        Facts.place(hall, 1, Facts.ASIDE, 0, 6);
    }

    @Edge(promise = Edge.TERMS,
            words = "one that is IN, as long as somebody WAITS for it who has none ASIDE, is ASIDE for the first of these")
    static void thoseInGoToThoseWhoWaitWithNone() {
        BookplateHall hall = Halls.withReaders(2, 0, 0, 0);
        hall.copy(1, 1);
        hall.copy(1, 1);
        hall.copy(1, 1);
        hall.await(2, 0);
        hall.await(0, 0);
        hall.pass(2);
        hall.lay(0, 1);
        Facts.place(hall, 0, Facts.ASIDE, 2, 8);
        Facts.place(hall, 1, Facts.ASIDE, 0, 8);
        Facts.place(hall, 2, Facts.IN, NONE, NONE);
    }

    @Edge(promise = Edge.TERMS,
            words = "one that is IN, as long as somebody WAITS for it who has none ASIDE, is ASIDE for the first of these")
    static void thoseInThatMoveGoToThoseWhoWait() {
        BookplateHall hall = Halls.withReaders(2, 0, 0, 0);
        hall.copy(0, 1);
        hall.copy(0, 1);
        hall.await(1, 1);
        hall.await(0, 1);
        hall.await(2, 1);
        hall.lay(0, 1);
        Facts.place(hall, 0, Facts.ASIDE, 1, 6);
        Facts.place(hall, 1, Facts.ASIDE, 0, 6);
        Facts.line(hall, 1, 1, 0, 2);
    }

    @Edge(promise = Edge.TERMS,
            words = "one that is IN, as long as somebody WAITS for it who has none ASIDE, is ASIDE for the first of these")
    static void whoHasOneAsideGetsNoOther() {
        BookplateHall hall = Halls.withReaders(2, 0, 0);
        hall.copy(0, 1);
        hall.copy(1, 1);
        hall.await(0, 0);
        hall.lay(0, 1);
        Facts.place(hall, 0, Facts.ASIDE, 0, 6);
        Facts.place(hall, 1, Facts.IN, NONE, NONE);
    }

    @Edge(promise = Edge.TERMS,
            words = "one that is IN, as long as somebody WAITS for it who has none ASIDE, is ASIDE for the first of these")
    static void withNobodyWaitingAllStayIn() {
        BookplateHall hall = Halls.withCopies(2, 2, 1, 0);
        hall.copy(1, 1);
        Check.same("lay", 3, hall.lay(0, 1));
        Check.same("in", 3, hall.many(5));
    }

    @Edge(promise = Edge.TERMS, words = "and then, COPY by COPY, one that is IN")
    static void thoseWronglyAsideComeAheadOfThoseIn() {
        BookplateHall hall = Halls.withReaders(2, 0, 0, 0);
        hall.copy(1, 1);
        hall.copy(1, 1);
        hall.copy(0, 1);
        hall.lend(0, 0);
        hall.await(0, 0);
        hall.await(2, 0);
        hall.await(1, 0);
        Facts.place(hall, 1, Facts.IN, NONE, NONE);
        Facts.place(hall, 2, Facts.ASIDE, 0, 6);
        hall.lay(0, 1);
        Facts.place(hall, 2, Facts.ASIDE, 2, 6);
        Facts.place(hall, 1, Facts.ASIDE, 1, 6);
    }

    @Edge(promise = Edge.TERMS, words = "Then, COPY by COPY, one that is ASIDE")
    static void twoWronglyAsideGoInTheirOrder() {
        BookplateHall hall = Halls.withReaders(2, 1, 1, 0, 0, 0);
        hall.copy(1, 1);
        hall.copy(1, 1);
        hall.copy(0, 1);
        hall.copy(0, 1);
        hall.lend(0, 0);
        hall.lend(1, 1);
        hall.await(1, 0);
        hall.await(0, 0);
        hall.await(4, 1);
        hall.await(3, 1);
        hall.await(2, 0);
        hall.pass(3);
        hall.lay(0, 1);
        Facts.line(hall, 1, 4, 3, 2);
        Facts.place(hall, 2, Facts.ASIDE, 4, 9);
        Facts.place(hall, 3, Facts.ASIDE, 3, 9);
    }
}
