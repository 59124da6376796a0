/** Promises 27 to 31: what would be. */
public final class WhatWouldBeTest {

    private static final int NONE = -1;

    private WhatWouldBeTest() {
    }

    public static void main(String[] args) {
        promise27FineIn();
        promise27FineInRefuses();
        promise28SoonOfLentOnes();
        promise28SoonOfOnesAside();
        promise28SoonInTurns();
        promise28SoonWithoutCopies();
        promise28SoonRefuses();
        promise29MayBorrow();
        promise30LostIn();
        promise31DigestOfANewObject();
        promise31DigestOfAll();
        promise31DigestOfThirtyDays();
        nothingIsChanged();
        Check.end("WhatWouldBeTest");
    }

    private static void promise27FineIn() {
        BookplateHall hall = Halls.withCopies(1, 1, 77, 0);
        hall.lend(0, 0);
        Check.same("now", 0, hall.fineIn(0, 0));
        Check.same("on the day on which it is due", 0, hall.fineIn(0, 14));
        Check.same("on the day behind it", 2, hall.fineIn(0, 15));
        Check.same("20 days late", 40, hall.fineIn(0, 34));
        Check.same("21 days late", 40, hall.fineIn(0, 35));
        Check.same("29 days late", 40, hall.fineIn(0, 43));
        Check.same("30 days late", 117, hall.fineIn(0, 44));
        Check.same("in 60 days", 117, hall.fineIn(0, 60));
        hall.pass(20);
        Check.same("now, late", 12, hall.fineIn(0, 0));
        Check.same("a day later", 14, hall.fineIn(0, 1));
        Check.same("as late as can be", 40, hall.fineIn(0, 23));
        Check.same("lost", 117, hall.fineIn(0, 24));
        Check.same("owes nothing by asking", 0, hall.ofReader(0, 2));
    }

    private static void promise27FineInRefuses() {
        BookplateHall hall = Halls.withCopies(1, 2, 77, 0);
        Check.refuses(Check.INDEX, "fineIn(2, 0)", hall, () -> hall.fineIn(2, 0));
        Check.refuses(Check.INDEX, "fineIn(-1, 61)", hall, () -> hall.fineIn(-1, 61));
        Check.refuses(Check.ARGUMENT, "fineIn(0, 61)", hall, () -> hall.fineIn(0, 61));
        Check.refuses(Check.ARGUMENT, "fineIn(0, -1)", hall, () -> hall.fineIn(0, -1));
        Check.refuses(Check.STATE, "one that is in", hall, () -> hall.fineIn(0, 0));
        hall.await(0, 0);
        Check.refuses(Check.STATE, "one that is aside", hall, () -> hall.fineIn(0, 0));
        hall.lend(0, 0);
        Check.refuses(Check.ARGUMENT, "fineIn(0, 61) of one lent", hall, () -> hall.fineIn(0, 61));
        hall.pass(40);
        hall.pass(4);
        Check.refuses(Check.STATE, "one that is lost", hall, () -> hall.fineIn(0, 0));
    }

    private static void promise28SoonOfLentOnes() {
        BookplateHall hall = Halls.withCopies(1, 2, 50, 0, 1, 0, 0);
        hall.lend(1, 0);
        hall.pass(3);
        hall.lend(0, 1);
        hall.await(2, 0);
        hall.await(3, 0);
        Check.same("the one that is there first", 14, hall.soon(2, 0));
        Check.same("the other one", 25, hall.soon(3, 0));
        hall.pass(20);
        Check.same("one that is late", 0, hall.soon(2, 0));
        Check.same("the other one", 5, hall.soon(3, 0));
        hall.pass(5);
        Check.same("one that is due today", 0, hall.soon(3, 0));
    }

    private static void promise28SoonOfOnesAside() {
        BookplateHall hall = Halls.withCopies(1, 1, 50, 1, 0, 0);
        hall.await(0, 0);
        hall.await(1, 0);
        hall.await(2, 0);
        Check.same("one is aside for it", 0, hall.soon(0, 0));
        Check.same("as long as who has it aside may have it", 28, hall.soon(1, 0));
        Check.same("and as long as who is ahead may have it", 42, hall.soon(2, 0));
        hall.pass(5);
        Check.same("no less on a later day", 28, hall.soon(1, 0));
    }

    private static void promise28SoonInTurns() {
        BookplateHall hall = Halls.withCopies(2, 2, 50, 0, 1, 1, 0, 0, 1, 0);
        hall.copy(1, 50);
        hall.lend(0, 1);
        hall.pass(1);
        hall.lend(1, 0);
        hall.await(2, 0);
        hall.await(3, 0);
        hall.await(4, 0);
        hall.await(5, 0);
        hall.await(6, 0);
        Check.same("first", 13, hall.soon(2, 0));
        Check.same("second", 28, hall.soon(3, 0));
        Check.same("third", 41, hall.soon(4, 0));
        Check.same("fourth", 42, hall.soon(5, 0));
        Check.same("fifth", 55, hall.soon(6, 0));
        Check.same("asked again", 41, hall.soon(4, 0));

        BookplateHall tie = Halls.withCopies(1, 2, 50, 1, 1, 0, 0);
        tie.lend(0, 0);
        tie.lend(0, 1);
        tie.await(1, 0);
        tie.await(2, 0);
        tie.await(3, 0);
        Check.same("the smaller of two at once", 28, tie.soon(1, 0));
        Check.same("the other of two at once", 28, tie.soon(2, 0));
        Check.same("the one that is there again first", 42, tie.soon(3, 0));
    }

    private static void promise28SoonWithoutCopies() {
        BookplateHall hall = Halls.withCopies(3, 0, 50, 0, 0);
        hall.await(0, 0);
        Check.same("no copy", NONE, hall.soon(0, 0));
        hall.copy(1, 50);
        hall.lend(1, 0);
        Check.same("a copy of another record", NONE, hall.soon(0, 0));
        hall.lay(0, 1);
        Check.same("of the live one", 14, hall.soon(0, 0));
        Check.same("of the live one itself", 14, hall.soon(0, 1));
        hall.pass(40);
        Check.same("late", 0, hall.soon(0, 0));
        hall.pass(4);
        Check.same("lost", NONE, hall.soon(0, 0));
    }

    private static void promise28SoonRefuses() {
        BookplateHall hall = Halls.withCopies(2, 1, 50, 0, 0);
        hall.await(0, 0);
        Check.refuses(Check.INDEX, "soon(2, 0)", hall, () -> hall.soon(2, 0));
        Check.refuses(Check.INDEX, "soon(-1, 0)", hall, () -> hall.soon(-1, 0));
        Check.refuses(Check.INDEX, "soon(0, 2)", hall, () -> hall.soon(0, 2));
        Check.refuses(Check.INDEX, "soon(0, -1)", hall, () -> hall.soon(0, -1));
        Check.refuses(Check.STATE, "who does not wait", hall, () -> hall.soon(1, 0));
        Check.refuses(Check.STATE, "who waits for another", hall, () -> hall.soon(0, 1));
    }

    private static void promise29MayBorrow() {
        BookplateHall hall = Halls.withCopies(2, 4, 50, 0, 0);
        hall.copy(1, 50);
        Check.same("all", 5, hall.mayBorrow(0));
        hall.await(1, 0);
        Check.same("but one that is aside for another", 4, hall.mayBorrow(0));
        Check.same("and one that is aside for it", 5, hall.mayBorrow(1));
        hall.lend(0, 1);
        Check.same("but one that is lent", 4, hall.mayBorrow(1));
        Check.same("more than as many as it may have", 3, hall.mayBorrow(0));
        hall.lend(0, 2);
        Check.same("none, with as many as it may have", 0, hall.mayBorrow(0));
        hall.pass(15);
        hall.back(1);
        Check.same("none, with a late one", 0, hall.mayBorrow(0));
        hall.back(2);
        Check.same("all that are in", 5, hall.mayBorrow(0));
        Check.refuses(Check.INDEX, "mayBorrow(2)", hall, () -> hall.mayBorrow(2));
        Check.refuses(Check.INDEX, "mayBorrow(-1)", hall, () -> hall.mayBorrow(-1));
        hall.lend(0, 0);
        hall.pass(40);
        hall.pass(4);
        Check.same("none, owing too much", 0, hall.mayBorrow(0));
        Check.same("but one that is lost", 4, hall.mayBorrow(1));
    }

    private static void promise30LostIn() {
        BookplateHall hall = Halls.withCopies(1, 4, 50, 0, 1);
        hall.lend(0, 0);
        hall.lend(1, 1);
        hall.await(0, hall.record(NONE, 1, 0));
        hall.pass(4);
        Check.same("39 days ahead", 0, hall.lostIn(39));
        Check.same("40 days ahead", 1, hall.lostIn(40));
        hall.pass(15);
        Check.same("40 days ahead of both", 2, hall.lostIn(40));
        Check.same("39 days ahead of both", 2, hall.lostIn(39));
        Check.same("38 days ahead of both", 1, hall.lostIn(38));
        hall.pass(24);
        Check.same("29 days late", 1, hall.lostIn(1));
        Check.same("as many as pass then", 1, hall.pass(1));
        Check.same("lost already", 0, hall.lostIn(13));
        Check.same("the other", 1, hall.lostIn(14));
        Check.refuses(Check.ARGUMENT, "lostIn(0)", hall, () -> hall.lostIn(0));
        Check.refuses(Check.ARGUMENT, "lostIn(-1)", hall, () -> hall.lostIn(-1));
        Check.refuses(Check.ARGUMENT, "lostIn(41)", hall, () -> hall.lostIn(41));
    }

    private static void promise31DigestOfANewObject() {
        Check.same("digest of a new object", 6504380238559992426L, new BookplateHall().digest());
    }

    private static void promise31DigestOfAll() {
        BookplateHall hall = Halls.withCopies(3, 3, 50, 0, 1, 0);
        hall.name();
        hall.name();
        hall.variant(0, 1);
        hall.record(0, 9, 8);
        hall.copy(1, 7);
        hall.lend(0, 0);
        hall.lend(1, 3);
        hall.await(2, 0);
        hall.await(1, 0);
        hall.await(0, 1);
        hall.await(2, 1);
        hall.lay(2, 1);
        hall.renew(0);
        Check.same("digest", Checksum.wrapped(hall), hall.digest());
        hall.pass(40);
        Check.same("digest with late ones", Checksum.wrapped(hall), hall.digest());
        hall.pass(20);
        Check.same("digest with lost ones", Checksum.wrapped(hall), hall.digest());
    }

    private static void promise31DigestOfThirtyDays() {
        BookplateHall hall = Halls.withCopies(1, 2, 50, 0, 1);
        hall.lend(0, 0);
        hall.lend(1, 1);
        hall.pass(14);
        Check.same("lost in 30 days", 1, hall.lostIn(30));
        Check.same("digest with one lost in 30 days", Checksum.wrapped(hall), hall.digest());
        hall.pass(13);
        Check.same("the other, not lost in 30 days", 1, hall.lostIn(30));
        Check.same("digest with one lost in 31 days", Checksum.wrapped(hall), hall.digest());
    }

    private static void nothingIsChanged() {
        BookplateHall hall = Halls.withCopies(1, 2, 50, 0, 1, 0);
        hall.lend(0, 0);
        hall.await(1, 0);
        hall.await(2, 0);
        hall.pass(2);
        long before = hall.digest();
        hall.fineIn(0, 60);
        hall.soon(2, 0);
        hall.mayBorrow(2);
        hall.lostIn(40);
        hall.likeness(0, 0);
        hall.twin(0, 0);
        hall.found(0, NONE);
        hall.reason(0, 0);
        hall.meanWaits();
        Check.same("digest behind what is only asked", before, hall.digest());
    }
}
