/** Promises 21 to 26: waiting and days. */
public final class WaitingAndDaysTest {

    private static final int NONE = -1;

    private WaitingAndDaysTest() {
    }

    public static void main(String[] args) {
        promise21Await();
        promise21AwaitWhatWasLaid();
        promise21AwaitRefuses();
        promise22Leave();
        promise22LeaveWhatWasLaid();
        promise22LeaveRefuses();
        promise23Waiter();
        promise24PassEndsWaits();
        promise24PassCopyByCopy();
        promise24PassLoses();
        promise24PassRefuses();
        promise25Many();
        promise26MeanWaits();
        Check.end("WaitingAndDaysTest");
    }

    private static void promise21Await() {
        BookplateHall hall = Halls.withReaders(2, 0, 0, 0, 0);
        hall.copy(1, 10);
        hall.copy(0, 10);
        hall.copy(0, 10);
        hall.pass(2);
        Check.same("the smallest of the record that is in", 1, hall.await(2, 0));
        Check.same("till", 8, hall.ofCopy(1, 3));
        Check.same("the next", 2, hall.await(0, 0));
        Check.same("none is in", NONE, hall.await(1, 0));
        Check.same("the line", 2, hall.waiter(0, 0));
        Check.same("the line", 0, hall.waiter(0, 1));
        Check.same("the line", 1, hall.waiter(0, 2));
        Check.same("of another record", 0, hall.await(1, 1));
        Check.same("waits for two", 2, hall.ofReader(1, 3));
        for (int reader = 4; reader < 8; reader++) {
            hall.reader(0);
            Check.same("await", NONE, hall.await(reader, 0));
        }
        Check.same("await of the eighth", NONE, hall.await(3, 0));
        Check.same("all wait", 8, hall.ofRecord(0, 5));
        Check.same("the last", 3, hall.waiter(0, 7));
    }

    private static void promise21AwaitWhatWasLaid() {
        BookplateHall hall = Halls.withReaders(3, 0, 0, 0);
        hall.copy(0, 10);
        hall.lend(0, 0);
        hall.lay(0, 1);
        hall.lay(1, 2);
        Check.refuses(Check.STATE, "who has a copy of the live one", hall, () -> hall.await(0, 0));
        Check.refuses(Check.STATE, "who has a copy of it", hall, () -> hall.await(0, 2));
        Check.same("who has none", NONE, hall.await(1, 0));
        Check.refuses(Check.STATE, "who waits for the live one", hall, () -> hall.await(1, 1));
        Check.same("waits for one", 1, hall.ofReader(1, 3));
        hall.back(0);
        Check.same("the line of the live one", 1, hall.ofCopy(0, 2));
        hall.lend(1, 0);
        hall.back(0);
        Check.same("a copy of the live one", 0, hall.await(2, 0));
    }

    private static void promise21AwaitRefuses() {
        BookplateHall hall = Halls.withReaders(1, 0, 0);
        hall.copy(0, 10);
        Check.refuses(Check.INDEX, "await(2, 0)", hall, () -> hall.await(2, 0));
        Check.refuses(Check.INDEX, "await(-1, 0)", hall, () -> hall.await(-1, 0));
        Check.refuses(Check.INDEX, "await(0, 1)", hall, () -> hall.await(0, 1));
        Check.refuses(Check.INDEX, "await(0, -1)", hall, () -> hall.await(0, -1));
        hall.await(0, 0);
        Check.refuses(Check.STATE, "who waits already, with one aside", hall, () -> hall.await(0, 0));
        hall.await(1, 0);
        Check.refuses(Check.STATE, "who waits already", hall, () -> hall.await(1, 0));
        hall.lend(0, 0);
        Check.refuses(Check.STATE, "who has a copy", hall, () -> hall.await(0, 0));
        hall.back(0);
        Check.same("who had a copy", NONE, hall.await(0, 0));
    }

    private static void promise22Leave() {
        BookplateHall hall = Halls.withReaders(2, 0, 0, 0, 0);
        hall.copy(0, 10);
        hall.copy(0, 10);
        hall.await(0, 0);
        hall.await(1, 0);
        hall.await(2, 0);
        hall.await(3, 0);
        hall.await(0, 1);
        hall.pass(4);
        Check.same("leave of one without any", 3, hall.leave(2, 0));
        Check.same("the line", 3, hall.waiter(0, 2));
        Check.same("leave of the first", 2, hall.leave(0, 0));
        Check.same("its copy for the next without", 3, hall.ofCopy(0, 2));
        Check.same("till", 10, hall.ofCopy(0, 3));
        Check.same("what is aside for another stays", 6, hall.ofCopy(1, 3));
        Check.same("it waits for another record yet", 1, hall.ofReader(0, 3));
        Check.same("leave", 1, hall.leave(3, 0));
        Check.same("in", 0, hall.ofCopy(0, 1));
        Check.same("leave of the last", 0, hall.leave(1, 0));
        Check.same("both in", 2, hall.many(5));
    }

    private static void promise22LeaveWhatWasLaid() {
        BookplateHall hall = Halls.withReaders(2, 0, 0);
        hall.await(0, 0);
        hall.await(1, 0);
        hall.lay(0, 1);
        Check.same("leave of the one laid", 1, hall.leave(0, 0));
        Check.same("leave of the live one", 0, hall.leave(1, 1));
    }

    private static void promise22LeaveRefuses() {
        BookplateHall hall = Halls.withReaders(2, 0, 0);
        hall.await(0, 0);
        Check.refuses(Check.INDEX, "leave(2, 0)", hall, () -> hall.leave(2, 0));
        Check.refuses(Check.INDEX, "leave(-1, 0)", hall, () -> hall.leave(-1, 0));
        Check.refuses(Check.INDEX, "leave(0, 2)", hall, () -> hall.leave(0, 2));
        Check.refuses(Check.INDEX, "leave(0, -1)", hall, () -> hall.leave(0, -1));
        Check.refuses(Check.STATE, "who does not wait", hall, () -> hall.leave(1, 0));
        Check.refuses(Check.STATE, "who waits for another", hall, () -> hall.leave(0, 1));
        hall.leave(0, 0);
        Check.refuses(Check.STATE, "who has left", hall, () -> hall.leave(0, 0));
    }

    private static void promise23Waiter() {
        BookplateHall hall = Halls.withReaders(2, 0, 0);
        hall.await(1, 0);
        hall.await(0, 0);
        Check.same("waiter(0, 0)", 1, hall.waiter(0, 0));
        Check.same("waiter(0, 1)", 0, hall.waiter(0, 1));
        Check.refuses(Check.INDEX, "waiter(0, 2)", hall, () -> hall.waiter(0, 2));
        Check.refuses(Check.INDEX, "waiter(0, -1)", hall, () -> hall.waiter(0, -1));
        Check.refuses(Check.INDEX, "waiter(0, 8)", hall, () -> hall.waiter(0, 8));
        Check.refuses(Check.INDEX, "waiter(0, greatest)", hall, () -> hall.waiter(0, Integer.MAX_VALUE));
        Check.refuses(Check.INDEX, "waiter(1, 0)", hall, () -> hall.waiter(1, 0));
        Check.refuses(Check.INDEX, "waiter(2, 0)", hall, () -> hall.waiter(2, 0));
        Check.refuses(Check.INDEX, "waiter(-1, 0)", hall, () -> hall.waiter(-1, 0));
        hall.lay(0, 1);
        Check.same("waiter(0, 1) of the live one", 0, hall.waiter(0, 1));
    }

    private static void promise24PassEndsWaits() {
        BookplateHall hall = Halls.withReaders(1, 0, 0, 0);
        hall.copy(0, 10);
        hall.await(0, 0);
        hall.await(1, 0);
        hall.await(2, 0);
        Check.same("pass", 0, hall.pass(6));
        Check.same("on the day till which it is aside", 0, hall.ofCopy(0, 2));
        Check.same("pass", 0, hall.pass(1));
        Check.same("on the day behind it", 1, hall.ofCopy(0, 2));
        Check.same("till", 13, hall.ofCopy(0, 3));
        Check.same("two wait", 2, hall.ofRecord(0, 5));
        hall.pass(14);
        Check.same("nobody waits", 0, hall.ofRecord(0, 5));
        Check.same("in", 0, hall.ofCopy(0, 1));
        Check.same("today", 21, hall.many(0));
    }

    private static void promise24PassCopyByCopy() {
        BookplateHall hall = Halls.withReaders(1, 0, 0, 0, 0);
        hall.copy(0, 10);
        hall.copy(0, 10);
        hall.await(0, 0);
        hall.await(1, 0);
        hall.await(2, 0);
        hall.await(3, 0);
        hall.pass(7);
        Check.same("the smaller for the first", 2, hall.ofCopy(0, 2));
        Check.same("the greater for the next", 3, hall.ofCopy(1, 2));
        Check.same("two wait", 2, hall.ofRecord(0, 5));
    }

    private static void promise24PassLoses() {
        BookplateHall hall = Halls.withReaders(1, 0, 1);
        hall.copy(0, 1);
        hall.copy(0, 200);
        hall.copy(0, 30);
        hall.lend(0, 0);
        hall.lend(0, 1);
        hall.lend(1, 2);
        Check.same("pass", 0, hall.pass(40));
        Check.same("29 days late", 0, hall.pass(3));
        Check.same("lent yet", 3, hall.many(6));
        Check.same("30 days late", 2, hall.pass(1));
        Check.same("owes both and 40 for each", 201 + 80, hall.ofReader(0, 2));
        Check.same("is without them", 0, hall.ofReader(0, 1));
        Check.same("who had it", 0, hall.ofCopy(1, 2));
        Check.same("lost once", 0, hall.pass(13));
        Check.same("a later one", 1, hall.pass(40));
        Check.same("owes", 70, hall.ofReader(1, 2));
        Check.same("lost", 3, hall.many(8));
        Check.same("today", 97, hall.many(0));
    }

    private static void promise24PassRefuses() {
        BookplateHall hall = Halls.withReaders(1, 0);
        Check.refuses(Check.ARGUMENT, "pass(0)", hall, () -> hall.pass(0));
        Check.refuses(Check.ARGUMENT, "pass(-1)", hall, () -> hall.pass(-1));
        Check.refuses(Check.ARGUMENT, "pass(41)", hall, () -> hall.pass(41));
        Check.same("pass(1)", 0, hall.pass(1));
        Check.same("pass(40)", 0, hall.pass(40));
        Check.same("today", 41, hall.many(0));
    }

    private static void promise25Many() {
        BookplateHall hall = Halls.withReaders(3, 0, 0, 0);
        hall.name();
        hall.name();
        hall.lay(2, 0);
        for (int copy = 0; copy < 10; copy++) {
            hall.copy(copy < 7 ? 0 : 1, 10 + copy);
        }
        hall.lend(0, 0);
        hall.lend(0, 1);
        Facts.totals(hall, 0, 2, 2, 10, 3, 8, 2, 0, 0, 0);
        hall.pass(40);
        hall.pass(4);
        Facts.totals(hall, 44, 2, 2, 10, 3, 8, 0, 0, 2, 101);
        hall.lend(1, 2);
        hall.await(1, 1);
        hall.await(2, 1);
        hall.await(2, 0);
        Facts.totals(hall, 44, 2, 2, 10, 3, 4, 1, 3, 2, 101);
        hall.pass(15);
        hall.back(2);
        Facts.totals(hall, 59, 2, 2, 10, 3, 8, 0, 0, 2, 103);
        Check.refuses(Check.ARGUMENT, "many(10)", hall, () -> hall.many(10));
        Check.refuses(Check.ARGUMENT, "many(-1)", hall, () -> hall.many(-1));
    }

    private static void promise26MeanWaits() {
        BookplateHall hall = Halls.withReaders(3);
        Check.same("without any reader", 0.0, hall.meanWaits());
        hall.reader(0);
        Check.same("of one who does not wait", 0.0, hall.meanWaits());
        hall.await(0, 0);
        Check.same("of one who waits", 1.0, hall.meanWaits());
        hall.reader(0);
        hall.reader(1);
        Check.same("of one of three", 1.0 / 3, hall.meanWaits());
        hall.await(0, 1);
        hall.await(1, 1);
        hall.await(1, 2);
        Check.same("of four of three", 4.0 / 3, hall.meanWaits());
        hall.lay(1, 2);
        Check.same("of three of three", 1.0, hall.meanWaits());
    }
}
