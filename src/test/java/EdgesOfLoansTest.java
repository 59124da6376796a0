/** Promises 16 to 20, and what the terms say of loans: each edge by itself. */
public final class EdgesOfLoansTest {

    private static final int NONE = -1;
    private static final int LEAST = Integer.MIN_VALUE;
    private static final int GREATEST = Integer.MAX_VALUE;

    private EdgesOfLoansTest() {
    }

    public static void main(String[] args) {
        Edges.run(EdgesOfLoansTest.class);
    }

    // ---- reasons

    @Edge(promise = Edge.TERMS, words = "1 the COPY is IN, or ASIDE for that READER")
    static void reason1() {
        BookplateHall hall = Halls.withCopies(1, 1, 1, 0, 0);
        Check.same("in", 0, hall.reason(0, 0));
        hall.await(1, 0);
        Check.same("aside for another", 1, hall.reason(0, 0));
        Check.same("aside for that reader", 0, hall.reason(1, 0));
        hall.lend(1, 0);
        Check.same("lent to another", 1, hall.reason(0, 0));
        Check.same("lent to that reader", 1, hall.reason(1, 0));
        Halls.pass(hall, 44);
        hall.pay(1, 41);
        Check.same("lost by another", 1, hall.reason(0, 0));
        Check.same("lost by that reader", 1, hall.reason(1, 0));
        hall.find(0);
        Check.same("in again", 0, hall.reason(0, 0));
    }

    @Edge(promise = Edge.TERMS, words = "2 the READER has fewer COPIES than it may have")
    static void reason2OfKind0() {
        BookplateHall hall = Halls.withCopies(1, 4, 1, 0, 0);
        Check.same("with none", 0, hall.reason(0, 3));
        hall.lend(0, 0);
        Check.same("with one", 0, hall.reason(0, 3));
        hall.lend(0, 1);
        Check.same("with two", 2, hall.reason(0, 3));
        Check.same("another reader", 0, hall.reason(1, 3));
        hall.back(0);
        Check.same("with one again", 0, hall.reason(0, 3));
    }

    @Edge(promise = Edge.TERMS, words = "2 the READER has fewer COPIES than it may have")
    static void reason2OfKind1() {
        BookplateHall hall = Halls.withCopies(1, 5, 1, 1);
        hall.lend(0, 0);
        hall.lend(0, 1);
        Check.same("with two", 0, hall.reason(0, 4));
        hall.lend(0, 2);
        Check.same("with three", 0, hall.reason(0, 4));
        hall.lend(0, 3);
        Check.same("with four", 2, hall.reason(0, 4));
        hall.back(3);
        Check.same("with three again", 0, hall.reason(0, 4));
    }

    @Edge(promise = Edge.TERMS, words = "2 the READER has fewer COPIES than it may have")
    static void thoseAsideAndThoseLostAreNotHad() {
        BookplateHall hall = Halls.withReaders(4, 0);
        for (int record = 0; record < 4; record++) {
            hall.copy(record, 1);
        }
        hall.lend(0, 0);
        hall.lend(0, 1);
        Halls.pass(hall, 44);
        hall.pay(0, 82);
        Check.same("with two lost", 0, hall.reason(0, 3));
        hall.await(0, 2);
        hall.await(0, 3);
        Check.same("with two lost and two aside", 0, hall.reason(0, 3));
        Check.same("the other one aside", 0, hall.reason(0, 2));
    }

    @Edge(promise = Edge.TERMS, words = "3 the READER OWES no more than 50")
    static void reason3() {
        BookplateHall hall = Halls.owing(52, 1);
        Check.same("52", 3, hall.reason(0, 1));
        hall.pay(0, 1);
        Check.same("51", 3, hall.reason(0, 1));
        Check.refuses(Check.STATE, "lend, owing 51", hall, () -> hall.lend(0, 1));
        hall.pay(0, 1);
        Check.same("50", 0, hall.reason(0, 1));
        hall.pay(0, 1);
        Check.same("49", 0, hall.reason(0, 1));
        hall.pay(0, 49);
        Check.same("0", 0, hall.reason(0, 1));
    }

    @Edge(promise = Edge.TERMS, words = "4 none of the COPIES that it has is LATE.")
    static void reason4() {
        BookplateHall hall = Halls.withCopies(1, 3, 1, 0, 0);
        hall.lend(0, 0);
        hall.pass(14);
        Check.same("on the day on which one is due", 0, hall.reason(0, 2));
        hall.pass(1);
        Check.same("a day behind it", 4, hall.reason(0, 2));
        Check.same("another reader", 0, hall.reason(1, 2));
        hall.back(0);
        Check.same("as it is back", 0, hall.reason(0, 2));
    }

    @Edge(promise = Edge.TERMS, words = "4 none of the COPIES that it has is LATE.")
    static void theLastOfFourCopiesIsLate() {
        BookplateHall hall = Halls.withCopies(1, 4, 1, 1);
        hall.lend(0, 2);
        hall.pass(1);
        hall.lend(0, 0);
        hall.lend(0, 1);
        hall.pass(28);
        Check.same("one of three is late", 4, hall.reason(0, 3));
        Check.refuses(Check.STATE, "lend", hall, () -> hall.lend(0, 3));
        hall.back(2);
        Check.same("none is late", 0, hall.reason(0, 3));
    }

    @Edge(promise = Edge.TERMS,
            words = "if these are all so; the number of the first that is not is the REASON (0 if it may)")
    static void reason1IsAheadOfAll() {
        BookplateHall hall = Halls.owing(51, 3);
        Check.same("3", 3, hall.reason(0, 1));
        Check.same("1 and 3", 1, hall.reason(0, 0));
        hall.pay(0, 1);
        hall.lend(0, 1);
        hall.pass(15);
        Check.same("4", 4, hall.reason(0, 2));
        Check.same("1 and 4", 1, hall.reason(0, 1));
        hall.back(1);
        hall.pay(0, 2);
        hall.lend(0, 1);
        hall.lend(0, 2);
        Check.same("2", 2, hall.reason(0, 3));
        Check.same("1 and 2", 1, hall.reason(0, 2));
    }

    // That 2 is ahead of 3 cannot be seen: who comes to owe more has a copy less.
    @Edge(promise = Edge.TERMS,
            words = "if these are all so; the number of the first that is not is the REASON (0 if it may)")
    static void reason2IsAheadOf4() {
        BookplateHall hall = Halls.withCopies(1, 4, 1, 0);
        hall.lend(0, 0);
        hall.lend(0, 1);
        hall.pass(14);
        Check.same("2", 2, hall.reason(0, 3));
        hall.pass(1);
        Check.same("2 and 4", 2, hall.reason(0, 3));
        hall.back(0);
        Check.same("4", 4, hall.reason(0, 3));
    }

    @Edge(promise = Edge.TERMS,
            words = "if these are all so; the number of the first that is not is the REASON (0 if it may)")
    static void reason3IsAheadOf4() {
        BookplateHall hall = Halls.withCopies(1, 3, 11, 0);
        hall.lend(0, 0);
        hall.pass(10);
        hall.lend(0, 1);
        hall.pass(34);
        Check.same("owes", 51, hall.ofReader(0, 2));
        Check.same("late", 1, hall.ofReader(0, 5));
        Check.same("3 and 4", 3, hall.reason(0, 2));
        hall.pay(0, 1);
        Check.same("4", 4, hall.reason(0, 2));
        hall.back(1);
        Check.same("3", 3, hall.reason(0, 2));
    }

    @Edge(promise = 16, words = "Returns the REASON for which it may not BORROW it; 0 if it may.")
    static void theReasonIsThatOfLend() {
        BookplateHall hall = Halls.withCopies(1, 3, 1, 0, 0);
        hall.lend(0, 0);
        hall.lend(0, 1);
        Check.same("1", 1, hall.reason(1, 0));
        Check.refuses(Check.STATE, "lend, of reason 1", hall, () -> hall.lend(1, 0));
        Check.same("2", 2, hall.reason(0, 2));
        Check.refuses(Check.STATE, "lend, of reason 2", hall, () -> hall.lend(0, 2));
        Check.same("0", 0, hall.reason(1, 2));
        Check.same("lend, of reason 0", 14, hall.lend(1, 2));
    }

    @Edge(promise = 16, words = "Throws `IndexOutOfBoundsException` if there is no such READER, or COPY")
    static void noSuchReaderOrCopyToReason() {
        BookplateHall hall = Halls.withCopies(1, 3, 1, 0, 0);
        Check.refuses(Check.INDEX, "reason(-1, 0)", hall, () -> hall.reason(-1, 0));
        Check.refuses(Check.INDEX, "reason(2, 0)", hall, () -> hall.reason(2, 0));
        Check.refuses(Check.INDEX, "reason(8, 0)", hall, () -> hall.reason(8, 0));
        Check.refuses(Check.INDEX, "reason(greatest, 0)", hall, () -> hall.reason(GREATEST, 0));
        Check.refuses(Check.INDEX, "reason(0, -1)", hall, () -> hall.reason(0, -1));
        Check.refuses(Check.INDEX, "reason(0, 3)", hall, () -> hall.reason(0, 3));
        Check.refuses(Check.INDEX, "reason(0, 30)", hall, () -> hall.reason(0, 30));
        Check.refuses(Check.INDEX, "reason(0, least)", hall, () -> hall.reason(0, LEAST));
        Check.refuses(Check.INDEX, "reason(2, 3)", hall, () -> hall.reason(2, 3));
        Check.same("reason(1, 2)", 0, hall.reason(1, 2));
    }

    // ---- lending

    @Edge(promise = 17, words = "Returns the DAY on which it is DUE.")
    static void lendReturnsTheDay() {
        BookplateHall hall = Halls.withCopies(1, 4, 1, 0, 1);
        Check.same("kind 0, on day 0", 14, hall.lend(0, 0));
        Check.same("kind 1, on day 0", 28, hall.lend(1, 1));
        hall.pass(1);
        Check.same("kind 0, on day 1", 15, hall.lend(0, 2));
        Check.same("kind 1, on day 1", 29, hall.lend(1, 3));
        Facts.place(hall, 0, Facts.LENT, 0, 14);
        Facts.place(hall, 3, Facts.LENT, 1, 29);
    }

    @Edge(promise = Edge.TERMS, words = "It is LENT then, DUE with TODAY and so many DAYS, not RENEWED")
    static void lentAnewNotRenewed() {
        BookplateHall hall = Halls.withCopies(1, 1, 1, 0, 1);
        hall.lend(0, 0);
        hall.renew(0);
        hall.renew(0);
        hall.back(0);
        hall.pass(5);
        Check.same("lend", 19, hall.lend(0, 0));
        Facts.ofCopy(hall, 0, 0, Facts.LENT, 0, 19, 0, 0, 1);
        Check.same("renewed once", 19, hall.renew(0));
        Check.same("renewed twice", 19, hall.renew(0));
    }

    @Edge(promise = Edge.TERMS, words = "the READER does not WAIT for its RECORD any more.")
    static void lendOfTheOneAsideEndsTheWait() {
        BookplateHall hall = Halls.withCopies(2, 1, 1, 0, 0);
        hall.await(0, 0);
        hall.await(0, 1);
        hall.await(1, 0);
        hall.lend(0, 0);
        Facts.line(hall, 0, 1);
        Facts.line(hall, 1, 0);
        Facts.place(hall, 0, Facts.LENT, 0, 14);
    }

    @Edge(promise = Edge.TERMS, words = "the READER does not WAIT for its RECORD any more.")
    static void lendOfAnotherOneFreesTheOneAside() {
        BookplateHall hall = Halls.withCopies(1, 2, 1, 0);
        hall.await(0, 0);
        Check.same("lend", 14, hall.lend(0, 1));
        Facts.line(hall, 0);
        Facts.place(hall, 0, Facts.IN, NONE, NONE);
        Facts.place(hall, 1, Facts.LENT, 0, 14);
    }

    @Edge(promise = Edge.TERMS, words = "the READER does not WAIT for its RECORD any more.")
    static void lendToWhoDoesNotWait() {
        BookplateHall hall = Halls.withCopies(1, 2, 1, 0, 0);
        hall.await(1, 0);
        hall.lend(0, 1);
        Facts.line(hall, 0, 1);
        Facts.place(hall, 0, Facts.ASIDE, 1, 6);
    }

    @Edge(promise = 17, words = "Throws `IndexOutOfBoundsException` if there is no such READER, or COPY")
    static void noSuchReaderOrCopyToLend() {
        BookplateHall hall = Halls.withCopies(1, 3, 1, 0, 0);
        Check.refuses(Check.INDEX, "lend(-1, 0)", hall, () -> hall.lend(-1, 0));
        Check.refuses(Check.INDEX, "lend(2, 0)", hall, () -> hall.lend(2, 0));
        Check.refuses(Check.INDEX, "lend(8, 0)", hall, () -> hall.lend(8, 0));
        Check.refuses(Check.INDEX, "lend(least, 0)", hall, () -> hall.lend(LEAST, 0));
        Check.refuses(Check.INDEX, "lend(0, -1)", hall, () -> hall.lend(0, -1));
        Check.refuses(Check.INDEX, "lend(0, 3)", hall, () -> hall.lend(0, 3));
        Check.refuses(Check.INDEX, "lend(0, 30)", hall, () -> hall.lend(0, 30));
        Check.refuses(Check.INDEX, "lend(0, greatest)", hall, () -> hall.lend(0, GREATEST));
        hall.lend(0, 0);
        Check.refuses(Check.INDEX, "lend(2, 0) of one lent", hall, () -> hall.lend(2, 0));
        Check.same("lend(1, 2)", 14, hall.lend(1, 2));
    }

    @Edge(promise = 17, words = "Throws `IllegalStateException` if the READER may not BORROW it")
    static void lendRefusesForEachReason() {
        BookplateHall hall = Halls.owing(51, 4);
        hall.reader(0);
        Check.refuses(Check.STATE, "a lost one", hall, () -> hall.lend(1, 0));
        Check.refuses(Check.STATE, "owing 51", hall, () -> hall.lend(0, 1));
        hall.lend(1, 1);
        Check.refuses(Check.STATE, "one lent to the reader", hall, () -> hall.lend(1, 1));
        hall.pay(0, 51);
        Check.refuses(Check.STATE, "one lent to another", hall, () -> hall.lend(0, 1));
        hall.await(0, 0);
        Check.refuses(Check.STATE, "one aside for another", hall, () -> hall.lend(1, 2));
        hall.lend(1, 3);
        Check.refuses(Check.STATE, "a third", hall, () -> hall.lend(1, 4));
        hall.back(1);
        hall.pass(15);
        Check.refuses(Check.STATE, "with a late one", hall, () -> hall.lend(1, 4));
        Check.same("times lent", 3, hall.ofRecord(0, 6));
    }

    // ---- late

    @Edge(promise = Edge.TERMS, words = "A COPY is LATE, if it is LENT, and TODAY is behind the DAY on which it is DUE.")
    static void lateBehindTheDay() {
        BookplateHall hall = Halls.withCopies(1, 2, 1, 0, 1);
        hall.lend(0, 0);
        hall.lend(1, 1);
        hall.pass(14);
        Check.same("kind 0, on the day", 0, hall.ofReader(0, 5));
        hall.pass(1);
        Check.same("kind 0, a day behind", 1, hall.ofReader(0, 5));
        hall.pass(13);
        Check.same("kind 1, on the day", 0, hall.ofReader(1, 5));
        hall.pass(1);
        Check.same("kind 1, a day behind", 1, hall.ofReader(1, 5));
    }

    // ---- renewing

    @Edge(promise = Edge.TERMS, words = "It is DUE then with TODAY and as many DAYS as its READER has.")
    static void renewCountsTheDaysOfItsReader() {
        BookplateHall hall = Halls.withCopies(1, 2, 1, 1, 0);
        hall.lend(0, 0);
        hall.lend(1, 1);
        hall.pass(14);
        Check.same("kind 1", 42, hall.renew(0));
        Check.same("kind 0", 28, hall.renew(1));
        Check.same("kind 1 again", 42, hall.renew(0));
    }

    @Edge(promise = 18, words = "Returns the DAY on which it is DUE then.")
    static void renewCountsFromToday() {
        BookplateHall hall = Halls.withCopies(1, 2, 1, 0, 1);
        hall.lend(0, 0);
        hall.lend(1, 1);
        Check.same("kind 0, on the same day", 14, hall.renew(0));
        hall.pass(3);
        Check.same("kind 0, three days later", 17, hall.renew(0));
        Check.same("kind 1, three days later", 31, hall.renew(1));
        Check.same("the day of copy 0", 17, hall.ofCopy(0, 3));
        Check.same("the day of copy 1", 31, hall.ofCopy(1, 3));
    }

    @Edge(promise = Edge.TERMS, words = "To RENEW it: it is LENT")
    static void onlyALentOneIsRenewed() {
        BookplateHall hall = Halls.withCopies(1, 1, 1, 0);
        Check.refuses(Check.STATE, "one that is in", hall, () -> hall.renew(0));
        hall.await(0, 0);
        Check.refuses(Check.STATE, "one that is aside", hall, () -> hall.renew(0));
        hall.lend(0, 0);
        Check.same("one that is lent", 14, hall.renew(0));
        Halls.pass(hall, 44);
        Check.refuses(Check.STATE, "one that is lost", hall, () -> hall.renew(0));
        hall.find(0);
        Check.refuses(Check.STATE, "one that was found", hall, () -> hall.renew(0));
    }

    @Edge(promise = Edge.TERMS, words = "it is not LATE")
    static void noLateOneIsRenewed() {
        BookplateHall hall = Halls.withCopies(1, 2, 1, 0);
        hall.lend(0, 0);
        hall.lend(0, 1);
        hall.pass(14);
        Check.same("on the day on which it is due", 28, hall.renew(0));
        hall.pass(1);
        Check.refuses(Check.STATE, "a day behind it", hall, () -> hall.renew(1));
        Check.same("though the other is late", 29, hall.renew(0));
    }

    @Edge(promise = Edge.TERMS, words = "it was RENEWED fewer than 2 times")
    static void noThirdRenewal() {
        BookplateHall hall = Halls.withCopies(1, 1, 1, 0);
        hall.lend(0, 0);
        Check.same("once", 14, hall.renew(0));
        Check.same("twice", 14, hall.renew(0));
        Check.refuses(Check.STATE, "a third time", hall, () -> hall.renew(0));
        hall.pass(1);
        Check.refuses(Check.STATE, "a third time, a day later", hall, () -> hall.renew(0));
        Check.same("renewed", 2, hall.ofCopy(0, 5));
    }

    @Edge(promise = Edge.TERMS, words = "and nobody WAITS for its RECORD who has none ASIDE for it.")
    static void noRenewalWhileSomebodyWaitsWithNone() {
        BookplateHall hall = Halls.withCopies(2, 2, 1, 0, 0, 0);
        hall.lend(0, 0);
        hall.await(1, 1);
        Check.same("who waits for another record", 14, hall.renew(0));
        hall.await(1, 0);
        Check.same("who waits with one aside", 14, hall.renew(0));
        hall.back(0);
        hall.lend(0, 0);
        hall.await(2, 0);
        Check.refuses(Check.STATE, "who waits behind with none", hall, () -> hall.renew(0));
        hall.leave(2, 0);
        Check.same("as nobody waits with none", 14, hall.renew(0));
    }

    @Edge(promise = Edge.TERMS, words = "and nobody WAITS for its RECORD who has none ASIDE for it.")
    static void oneAsideForAnotherRecordIsNone() {
        BookplateHall hall = Halls.withCopies(2, 1, 1, 0, 0);
        hall.copy(1, 1);
        hall.lend(0, 0);
        hall.await(1, 1);
        hall.await(1, 0);
        Check.same("aside", 1, hall.ofReader(1, 4));
        Check.refuses(Check.STATE, "who has one aside of another record", hall, () -> hall.renew(0));
    }

    @Edge(promise = Edge.TERMS, words = "and nobody WAITS for its RECORD who has none ASIDE for it.")
    static void whoHasACopyAndWaitsBarsItsOwnRenewal() {
        BookplateHall hall = Halls.withCopies(2, 1, 1, 0);
        hall.lend(0, 0);
        hall.await(0, 1);
        hall.lay(0, 1);
        Check.refuses(Check.STATE, "the reader itself waits with none", hall, () -> hall.renew(0));
    }

    @Edge(promise = 18, words = "Throws `IndexOutOfBoundsException` if there is no such COPY")
    static void noSuchCopyToRenew() {
        BookplateHall hall = Halls.withCopies(1, 2, 1, 0);
        hall.lend(0, 1);
        Check.refuses(Check.INDEX, "renew(-1)", hall, () -> hall.renew(-1));
        Check.refuses(Check.INDEX, "renew(2)", hall, () -> hall.renew(2));
        Check.refuses(Check.INDEX, "renew(30)", hall, () -> hall.renew(30));
        Check.refuses(Check.INDEX, "renew(least)", hall, () -> hall.renew(LEAST));
        Check.refuses(Check.INDEX, "renew(greatest)", hall, () -> hall.renew(GREATEST));
        Check.same("renew(1)", 14, hall.renew(1));
    }

    @Edge(promise = 18, words = "Throws `IllegalStateException` if it cannot be RENEWED")
    static void aRefusedRenewalLeavesTheDay() {
        BookplateHall hall = Halls.withCopies(1, 1, 1, 0, 0);
        hall.lend(0, 0);
        hall.await(1, 0);
        hall.pass(5);
        Check.refuses(Check.STATE, "renew", hall, () -> hall.renew(0));
        Facts.ofCopy(hall, 0, 0, Facts.LENT, 0, 14, 0, 0, 1);
    }

    // ---- bringing back

    @Edge(promise = Edge.TERMS,
            words = "the READER OWES 2 more for each DAY for which it is LATE, 40 at most, and is without it.")
    static void finesOfNothingTo40() {
        int[] days = {0, 13, 14, 15, 16, 33, 34, 35, 43};
        int[] due = {0, 0, 0, 2, 4, 38, 40, 40, 40};
        for (int k = 0; k < days.length; k++) {
            BookplateHall hall = Halls.withCopies(1, 1, 200, 0);
            hall.lend(0, 0);
            if (days[k] > 0) {
                Halls.pass(hall, days[k]);
            }
            Check.same("back, behind " + days[k] + " days", due[k], hall.back(0));
            Facts.ofReader(hall, 0, 0, 0, due[k], 0, 0, 0, 0);
        }
    }

    @Edge(promise = 19, words = "Returns what its READER OWES more by that.")
    static void backReturnsWhatIsOwedMore() {
        BookplateHall hall = Halls.withCopies(1, 4, 1, 1);
        for (int copy = 0; copy < 4; copy++) {
            hall.lend(0, copy);
        }
        hall.pass(40);
        Check.same("the first", 24, hall.back(0));
        Check.same("the second", 24, hall.back(1));
        Check.same("owes", 48, hall.ofReader(0, 2));
        hall.pass(10);
        Check.same("the third", 40, hall.back(2));
        Check.same("the fourth", 40, hall.back(3));
        Check.same("owes", 128, hall.ofReader(0, 2));
    }

    @Edge(promise = Edge.TERMS, words = "otherwise it is IN.")
    static void backWithNobodyWaiting() {
        BookplateHall hall = Halls.withCopies(2, 1, 1, 0, 0);
        hall.await(1, 1);
        hall.lend(0, 0);
        hall.back(0);
        Facts.place(hall, 0, Facts.IN, NONE, NONE);
        Check.same("copies", 0, hall.ofReader(0, 1));
    }

    @Edge(promise = Edge.TERMS, words = "it is ASIDE for the first of these, till the DAY TODAY + 6")
    static void backForTheFirstWithNone() {
        BookplateHall hall = Halls.withCopies(1, 3, 1, 1, 0, 0, 0);
        hall.lend(0, 0);
        hall.lend(0, 1);
        hall.lend(0, 2);
        hall.await(3, 0);
        hall.await(1, 0);
        hall.pass(2);
        hall.back(2);
        Facts.place(hall, 2, Facts.ASIDE, 3, 8);
        hall.pass(1);
        hall.back(0);
        Facts.place(hall, 0, Facts.ASIDE, 1, 9);
        hall.back(1);
        Facts.place(hall, 1, Facts.IN, NONE, NONE);
        Facts.line(hall, 0, 3, 1);
    }

    @Edge(promise = Edge.TERMS, words = "if somebody WAITS for its RECORD who has none ASIDE for it")
    static void backForWhoHasOneAsideOfAnotherRecord() {
        BookplateHall hall = Halls.withCopies(2, 1, 1, 0, 0);
        hall.copy(1, 1);
        hall.lend(0, 0);
        hall.await(1, 1);
        hall.await(1, 0);
        hall.back(0);
        Facts.place(hall, 0, Facts.ASIDE, 1, 6);
        Facts.place(hall, 1, Facts.ASIDE, 1, 6);
    }

    @Edge(promise = 19, words = "Throws `IndexOutOfBoundsException` if there is no such COPY")
    static void noSuchCopyToBringBack() {
        BookplateHall hall = Halls.withCopies(1, 2, 1, 0);
        hall.lend(0, 1);
        Check.refuses(Check.INDEX, "back(-1)", hall, () -> hall.back(-1));
        Check.refuses(Check.INDEX, "back(2)", hall, () -> hall.back(2));
        Check.refuses(Check.INDEX, "back(30)", hall, () -> hall.back(30));
        Check.refuses(Check.INDEX, "back(least)", hall, () -> hall.back(LEAST));
        Check.refuses(Check.INDEX, "back(greatest)", hall, () -> hall.back(GREATEST));
        Check.same("back(1)", 0, hall.back(1));
    }

    @Edge(promise = 19, words = "Throws `IllegalStateException` if it is not LENT")
    static void onlyALentOneIsBroughtBack() {
        BookplateHall hall = Halls.withCopies(1, 1, 1, 0);
        Check.refuses(Check.STATE, "one that is in", hall, () -> hall.back(0));
        hall.await(0, 0);
        Check.refuses(Check.STATE, "one that is aside", hall, () -> hall.back(0));
        hall.lend(0, 0);
        hall.back(0);
        Check.refuses(Check.STATE, "one that is back", hall, () -> hall.back(0));
        hall.lend(0, 0);
        Halls.pass(hall, 44);
        Check.refuses(Check.STATE, "one that is lost", hall, () -> hall.back(0));
    }

    // ---- found ones

    @Edge(promise = Edge.TERMS, words = "and the one who had it as it was LOST OWES its PRICE less (0 at the least).")
    static void aFoundOneCostsItsPriceLess() {
        int[] paid = {0, 39, 40, 41, 139, 140};
        int[] due = {40, 1, 0, 0, 0, 0};
        for (int k = 0; k < paid.length; k++) {
            BookplateHall hall = Halls.owing(140, 0);
            if (paid[k] > 0) {
                hall.pay(0, paid[k]);
            }
            Check.same("find, of 100, having paid " + paid[k], due[k], hall.find(0));
            Check.same("owes", due[k], hall.ofReader(0, 2));
        }
    }

    @Edge(promise = 20, words = "Returns what the READER who had it OWES then.")
    static void findReturnsAllThatIsOwed() {
        BookplateHall hall = Halls.withCopies(1, 2, 30, 0, 0);
        hall.lend(0, 0);
        hall.lend(0, 1);
        Halls.pass(hall, 44);
        Check.same("the first", 110, hall.find(1));
        Check.same("the second", 80, hall.find(0));
        Check.same("the other reader", 0, hall.ofReader(1, 2));
    }

    @Edge(promise = Edge.TERMS, words = "A LOST one can be FOUND: it is FREE then")
    static void aFoundOneWithAndWithoutSomebodyWaiting() {
        BookplateHall hall = Halls.withCopies(1, 2, 1, 0, 0);
        hall.lend(0, 0);
        hall.lend(0, 1);
        Halls.pass(hall, 44);
        hall.find(0);
        Facts.ofCopy(hall, 0, 0, Facts.IN, NONE, NONE, 0, 0, 1);
        hall.lend(1, 0);
        hall.await(0, 0);
        hall.pass(2);
        hall.find(1);
        Facts.ofCopy(hall, 1, 0, Facts.ASIDE, 0, 52, 0, 0, 1);
    }

    @Edge(promise = 20, words = "Throws `IndexOutOfBoundsException` if there is no such COPY")
    static void noSuchCopyToFind() {
        BookplateHall hall = Halls.owing(50, 1);
        Check.refuses(Check.INDEX, "find(-1)", hall, () -> hall.find(-1));
        Check.refuses(Check.INDEX, "find(2)", hall, () -> hall.find(2));
        Check.refuses(Check.INDEX, "find(30)", hall, () -> hall.find(30));
        Check.refuses(Check.INDEX, "find(least)", hall, () -> hall.find(LEAST));
        Check.refuses(Check.INDEX, "find(greatest)", hall, () -> hall.find(GREATEST));
        Check.same("find(0)", 40, hall.find(0));
    }

    @Edge(promise = 20, words = "Throws `IllegalStateException` if it is not LOST")
    static void onlyALostOneIsFound() {
        BookplateHall hall = Halls.withCopies(1, 1, 1, 0);
        Check.refuses(Check.STATE, "one that is in", hall, () -> hall.find(0));
        hall.await(0, 0);
        Check.refuses(Check.STATE, "one that is aside", hall, () -> hall.find(0));
        hall.lend(0, 0);
        Check.refuses(Check.STATE, "one that is lent", hall, () -> hall.find(0));
        Halls.pass(hall, 43);
        Check.refuses(Check.STATE, "one that is late for 29 days", hall, () -> hall.find(0));
        hall.pass(1);
        Check.same("one that is lost", 40, hall.find(0));
        Check.refuses(Check.STATE, "one that was found", hall, () -> hall.find(0));
    }
}
