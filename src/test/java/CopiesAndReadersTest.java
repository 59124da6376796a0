/** Promises 11 to 15: copies and readers. */
public final class CopiesAndReadersTest {

    private static final int NONE = -1;

    private CopiesAndReadersTest() {
    }

    public static void main(String[] args) {
        promise11Copy();
        promise11CopyIsFreeAtOnce();
        promise11CopyRefuses();
        promise12OfCopy();
        promise12OfCopyRefuses();
        promise13Reader();
        promise14OfReader();
        promise14OfReaderFines();
        promise14OfReaderRefuses();
        promise15Pay();
        Check.end("CopiesAndReadersTest");
    }

    private static void promise11Copy() {
        BookplateHall hall = new BookplateHall();
        hall.record(NONE, 1, 0);
        hall.record(NONE, 1, 0);
        Check.same("a copy of the least price", 0, hall.copy(0, 1));
        Check.same("a copy of the greatest price", 1, hall.copy(1, 200));
        for (int number = 2; number < 30; number++) {
            Check.same("copy", number, hall.copy(1, number));
        }
        Check.refuses(Check.STATE, "the 31st copy", hall, () -> hall.copy(0, 1));
        Check.refuses(Check.ARGUMENT, "the 31st copy of no price", hall, () -> hall.copy(0, 0));
        Check.refuses(Check.INDEX, "the 31st copy of no record", hall, () -> hall.copy(2, 1));
        Check.same("copies", 30, hall.many(3));
        Check.same("copies of record 1", 29, hall.ofRecord(1, 4));
    }

    private static void promise11CopyIsFreeAtOnce() {
        BookplateHall hall = new BookplateHall();
        hall.record(NONE, 1, 0);
        hall.reader(0);
        hall.reader(0);
        hall.await(1, 0);
        hall.await(0, 0);
        hall.pass(5);
        hall.copy(0, 10);
        Facts.ofCopy(hall, 0, 0, 2, 1, 11, 0, 0, 10);
        hall.copy(0, 20);
        Facts.ofCopy(hall, 1, 0, 2, 0, 11, 0, 0, 20);
        hall.copy(0, 30);
        Facts.ofCopy(hall, 2, 0, 0, NONE, NONE, 0, 0, 30);
    }

    private static void promise11CopyRefuses() {
        BookplateHall hall = new BookplateHall();
        hall.record(NONE, 1, 0);
        hall.record(NONE, 1, 0);
        hall.lay(0, 1);
        Check.refuses(Check.INDEX, "copy(2, 1)", hall, () -> hall.copy(2, 1));
        Check.refuses(Check.INDEX, "copy(-1, 0)", hall, () -> hall.copy(-1, 0));
        Check.refuses(Check.ARGUMENT, "copy(1, 0)", hall, () -> hall.copy(1, 0));
        Check.refuses(Check.ARGUMENT, "copy(1, 201)", hall, () -> hall.copy(1, 201));
        Check.refuses(Check.ARGUMENT, "copy(0, 201) of one not live", hall, () -> hall.copy(0, 201));
        Check.refuses(Check.STATE, "copy(0, 1) of one not live", hall, () -> hall.copy(0, 1));
        Check.same("copies", 0, hall.many(3));
    }

    private static void promise12OfCopy() {
        BookplateHall hall = new BookplateHall();
        hall.record(NONE, 1, 0);
        hall.reader(0);
        hall.reader(1);
        hall.copy(0, 77);
        Facts.ofCopy(hall, 0, 0, 0, NONE, NONE, 0, 0, 77);
        hall.lend(1, 0);
        Facts.ofCopy(hall, 0, 0, 1, 1, 28, 0, 0, 77);
        hall.renew(0);
        Facts.ofCopy(hall, 0, 0, 1, 1, 28, 0, 1, 77);
        hall.pass(28);
        Facts.ofCopy(hall, 0, 0, 1, 1, 28, 0, 1, 77);
        hall.pass(1);
        Facts.ofCopy(hall, 0, 0, 1, 1, 28, 1, 1, 77);
        hall.pass(28);
        Facts.ofCopy(hall, 0, 0, 1, 1, 28, 29, 1, 77);
        hall.pass(1);
        Facts.ofCopy(hall, 0, 0, 3, 1, NONE, 0, 0, 77);
        hall.find(0);
        Facts.ofCopy(hall, 0, 0, 0, NONE, NONE, 0, 0, 77);
        hall.await(0, 0);
        Facts.ofCopy(hall, 0, 0, 2, 0, 64, 0, 0, 77);
        hall.pass(6);
        Facts.ofCopy(hall, 0, 0, 2, 0, 64, 0, 0, 77);
        hall.pass(1);
        Facts.ofCopy(hall, 0, 0, 0, NONE, NONE, 0, 0, 77);
        hall.lend(0, 0);
        hall.renew(0);
        hall.back(0);
        Facts.ofCopy(hall, 0, 0, 0, NONE, NONE, 0, 0, 77);
        hall.lend(0, 0);
        Facts.ofCopy(hall, 0, 0, 1, 0, 79, 0, 0, 77);
    }

    private static void promise12OfCopyRefuses() {
        BookplateHall hall = new BookplateHall();
        hall.record(NONE, 1, 0);
        hall.copy(0, 77);
        Check.refuses(Check.INDEX, "ofCopy(1, 0)", hall, () -> hall.ofCopy(1, 0));
        Check.refuses(Check.INDEX, "ofCopy(-1, 0)", hall, () -> hall.ofCopy(-1, 0));
        Check.refuses(Check.INDEX, "ofCopy(30, 7)", hall, () -> hall.ofCopy(30, 7));
        Check.refuses(Check.ARGUMENT, "ofCopy(0, 7)", hall, () -> hall.ofCopy(0, 7));
        Check.refuses(Check.ARGUMENT, "ofCopy(0, -1)", hall, () -> hall.ofCopy(0, -1));
    }

    private static void promise13Reader() {
        BookplateHall hall = new BookplateHall();
        Check.refuses(Check.ARGUMENT, "reader(-1)", hall, () -> hall.reader(-1));
        Check.refuses(Check.ARGUMENT, "reader(2)", hall, () -> hall.reader(2));
        for (int number = 0; number < 8; number++) {
            Check.same("reader", number, hall.reader(number % 2));
            Check.same("its kind", number % 2, hall.ofReader(number, 0));
        }
        Check.refuses(Check.STATE, "the ninth reader", hall, () -> hall.reader(0));
        Check.refuses(Check.ARGUMENT, "the ninth reader of no kind", hall, () -> hall.reader(2));
        Check.same("readers", 8, hall.many(4));
    }

    private static void promise14OfReader() {
        BookplateHall hall = new BookplateHall();
        for (int record = 0; record < 4; record++) {
            hall.record(NONE, 1, 0);
            hall.copy(record, 50);
        }
        hall.reader(1);
        hall.reader(0);
        Facts.ofReader(hall, 0, 1, 0, 0, 0, 0, 0, 0);
        Facts.ofReader(hall, 1, 0, 0, 0, 0, 0, 0, 0);
        hall.lend(1, 0);
        hall.lend(0, 1);
        hall.await(1, 2);
        hall.await(1, 1);
        Facts.ofReader(hall, 0, 1, 1, 0, 0, 0, 0, 0);
        Facts.ofReader(hall, 1, 0, 1, 0, 2, 1, 0, 0);
        hall.lend(1, 2);
        Facts.ofReader(hall, 1, 0, 2, 0, 1, 0, 0, 0);
        hall.lay(0, 1);
        Facts.ofReader(hall, 1, 0, 2, 0, 1, 0, 0, 0);
        hall.leave(1, 0);
        Facts.ofReader(hall, 1, 0, 2, 0, 0, 0, 0, 0);
    }

    private static void promise14OfReaderFines() {
        BookplateHall hall = new BookplateHall();
        hall.record(NONE, 1, 0);
        hall.copy(0, 50);
        hall.copy(0, 60);
        hall.reader(0);
        hall.lend(0, 0);
        hall.pass(3);
        hall.lend(0, 1);
        hall.pass(11);
        Facts.ofReader(hall, 0, 0, 2, 0, 0, 0, 0, 0);
        hall.pass(1);
        Facts.ofReader(hall, 0, 0, 2, 0, 0, 0, 1, 2);
        hall.pass(3);
        Facts.ofReader(hall, 0, 0, 2, 0, 0, 0, 2, 10);
        hall.pass(16);
        Facts.ofReader(hall, 0, 0, 2, 0, 0, 0, 2, 40 + 34);
        hall.pass(9);
        Facts.ofReader(hall, 0, 0, 2, 0, 0, 0, 2, 80);
        hall.pass(1);
        Facts.ofReader(hall, 0, 0, 1, 90, 0, 0, 1, 40);
        Check.same("back", 40, hall.back(1));
        Facts.ofReader(hall, 0, 0, 0, 130, 0, 0, 0, 0);
    }

    private static void promise14OfReaderRefuses() {
        BookplateHall hall = new BookplateHall();
        hall.reader(0);
        Check.refuses(Check.INDEX, "ofReader(1, 0)", hall, () -> hall.ofReader(1, 0));
        Check.refuses(Check.INDEX, "ofReader(-1, 0)", hall, () -> hall.ofReader(-1, 0));
        Check.refuses(Check.INDEX, "ofReader(8, 7)", hall, () -> hall.ofReader(8, 7));
        Check.refuses(Check.ARGUMENT, "ofReader(0, 7)", hall, () -> hall.ofReader(0, 7));
        Check.refuses(Check.ARGUMENT, "ofReader(0, -1)", hall, () -> hall.ofReader(0, -1));
    }

    private static void promise15Pay() {
        BookplateHall hall = new BookplateHall();
        hall.record(NONE, 1, 0);
        hall.copy(0, 50);
        hall.reader(0);
        hall.reader(0);
        Check.refuses(Check.ARGUMENT, "pay(0, 1) of one who owes nothing", hall, () -> hall.pay(0, 1));
        Check.refuses(Check.ARGUMENT, "pay(0, 0) of one who owes nothing", hall, () -> hall.pay(0, 0));
        hall.lend(0, 0);
        hall.pass(24);
        hall.back(0);
        Check.same("owes", 20, hall.ofReader(0, 2));
        Check.refuses(Check.ARGUMENT, "pay(0, 21)", hall, () -> hall.pay(0, 21));
        Check.refuses(Check.ARGUMENT, "pay(0, 0)", hall, () -> hall.pay(0, 0));
        Check.refuses(Check.ARGUMENT, "pay(0, -1)", hall, () -> hall.pay(0, -1));
        Check.refuses(Check.INDEX, "pay(2, 1)", hall, () -> hall.pay(2, 1));
        Check.refuses(Check.INDEX, "pay(-1, 0)", hall, () -> hall.pay(-1, 0));
        Check.same("pay(0, 1)", 19, hall.pay(0, 1));
        Check.same("pay(0, 19)", 0, hall.pay(0, 19));
        Check.same("the other owes nothing", 0, hall.ofReader(1, 2));
    }
}
