/** Promises 1 to 10: a new object, names and records. */
public final class NamesAndRecordsTest {

    private static final int NONE = -1;

    private NamesAndRecordsTest() {
    }

    public static void main(String[] args) {
        promise1NewObject();
        promise2Name();
        promise3Variant();
        promise3VariantRefuses();
        promise4Stands();
        promise5Record();
        promise5RecordRefuses();
        promise6OfRecord();
        promise6OfRecordLaid();
        promise6OfRecordRefuses();
        promise7LikenessOfAuthors();
        promise7LikenessOfTitlesAndYears();
        promise7LikenessRefuses();
        promise8Twin();
        promise8TwinOfOneLaid();
        promise9LayCopies();
        promise9LayWaiters();
        promise9LayKeepsThoseWhoWaitedThere();
        promise9LayDropsThoseWithACopy();
        promise9LayFreesTheGreaterOfTwoAside();
        promise9LayPutsAsideWhatIsIn();
        promise9LayOrder();
        promise9LayRefuses();
        promise10Found();
        promise10FoundRefuses();
        Check.end("NamesAndRecordsTest");
    }

    private static void promise1NewObject() {
        BookplateHall hall = new BookplateHall();
        for (int what = 0; what <= 9; what++) {
            Check.same("many(" + what + ") of a new library", 0, hall.many(what));
        }
        BookplateHall other = new BookplateHall();
        other.name();
        Check.same("names of the one beside", 0, hall.many(1));
    }

    private static void promise2Name() {
        BookplateHall hall = new BookplateHall();
        for (int number = 0; number < 16; number++) {
            Check.same("name()", number, hall.name());
        }
        Check.refuses(Check.STATE, "the 17th name()", hall, hall::name);
        Check.same("names", 16, hall.many(1));
    }

    private static void promise3Variant() {
        BookplateHall hall = Halls.withNames(4);
        Check.same("variant(1, 0)", 0, hall.variant(1, 0));
        Check.same("variant(2, 1)", 0, hall.variant(2, 1));
        Check.same("variant(0, 3)", 3, hall.variant(0, 3));
        Check.same("stands(2) by three steps", 3, hall.stands(2));
        Check.same("variant(1, 3) in place of 0", 3, hall.variant(1, 3));
        Check.same("variant(0, 2), which 1 no longer bars", 3, hall.variant(0, 2));
        Check.same("variant(2, 3)", 3, hall.variant(2, 3));
        Check.same("variant(2, 3) again", 3, hall.variant(2, 3));
    }

    private static void promise3VariantRefuses() {
        BookplateHall hall = Halls.withNames(16);
        for (int name = 1; name < 16; name++) {
            hall.variant(name, name - 1);
        }
        Check.same("stands(15) by fifteen steps", 0, hall.stands(15));
        Check.refuses(Check.STATE, "variant(0, 15) by fifteen steps", hall, () -> hall.variant(0, 15));
        Check.refuses(Check.STATE, "variant(3, 3)", hall, () -> hall.variant(3, 3));
        Check.refuses(Check.STATE, "variant(3, 4)", hall, () -> hall.variant(3, 4));
        Check.refuses(Check.INDEX, "variant(-1, 0)", hall, () -> hall.variant(-1, 0));
        Check.refuses(Check.INDEX, "variant(0, -1)", hall, () -> hall.variant(0, -1));
        Check.refuses(Check.INDEX, "variant(16, 0)", hall, () -> hall.variant(16, 0));
        Check.refuses(Check.INDEX, "variant(0, 16)", hall, () -> hall.variant(0, 16));
        Check.refuses(Check.INDEX, "variant(16, 16)", hall, () -> hall.variant(16, 16));
        BookplateHall two = Halls.withNames(2);
        Check.refuses(Check.INDEX, "variant(2, 2) of two names", two, () -> two.variant(2, 2));
    }

    private static void promise4Stands() {
        BookplateHall hall = Halls.withNames(3);
        Check.same("stands(1) for itself", 1, hall.stands(1));
        hall.variant(1, 2);
        Check.same("stands(1) for another", 2, hall.stands(1));
        Check.same("stands(2) for itself", 2, hall.stands(2));
        Check.refuses(Check.INDEX, "stands(3)", hall, () -> hall.stands(3));
        Check.refuses(Check.INDEX, "stands(-1)", hall, () -> hall.stands(-1));
        Check.refuses(Check.INDEX, "stands(16)", hall, () -> hall.stands(16));
        Check.refuses(Check.INDEX, "stands(greatest)", hall, () -> hall.stands(Integer.MAX_VALUE));
        Check.refuses(Check.INDEX, "stands(smallest)", hall, () -> hall.stands(Integer.MIN_VALUE));
    }

    private static void promise5Record() {
        BookplateHall hall = Halls.withNames(1);
        Check.same("record of least", 0, hall.record(NONE, 1, 0));
        Check.same("record of most", 1, hall.record(0, 4095, 99));
        for (int number = 2; number < 20; number++) {
            Check.same("record", number, hall.record(NONE, number, number));
        }
        Check.refuses(Check.STATE, "the 21st record", hall, () -> hall.record(NONE, 1, 0));
        hall.lay(0, 1);
        Check.refuses(Check.STATE, "a record in place of one laid", hall, () -> hall.record(NONE, 1, 0));
        Check.refuses(Check.ARGUMENT, "a full library and a wrong year", hall, () -> hall.record(NONE, 1, 100));
        Check.refuses(Check.INDEX, "a full library and a wrong name", hall, () -> hall.record(1, 1, 0));
    }

    private static void promise5RecordRefuses() {
        BookplateHall hall = Halls.withNames(1);
        Check.refuses(Check.INDEX, "author 1", hall, () -> hall.record(1, 1, 0));
        Check.refuses(Check.INDEX, "author -2", hall, () -> hall.record(-2, 1, 0));
        Check.refuses(Check.INDEX, "author 16", hall, () -> hall.record(16, 1, 0));
        Check.refuses(Check.INDEX, "author ahead of title", hall, () -> hall.record(1, 0, 0));
        Check.refuses(Check.ARGUMENT, "title 0", hall, () -> hall.record(0, 0, 0));
        Check.refuses(Check.ARGUMENT, "title 4096", hall, () -> hall.record(0, 4096, 0));
        Check.refuses(Check.ARGUMENT, "title -1", hall, () -> hall.record(0, -1, 0));
        Check.refuses(Check.ARGUMENT, "year -1", hall, () -> hall.record(0, 1, -1));
        Check.refuses(Check.ARGUMENT, "year 100", hall, () -> hall.record(0, 1, 100));
        Check.same("records", 0, hall.many(2));
    }

    private static void promise6OfRecord() {
        BookplateHall hall = Halls.withNames(2);
        hall.record(1, 9, 42);
        Facts.ofRecord(hall, 0, 1, 9, 42, 0, 0, 0, 0);
        hall.record(NONE, 5, 7);
        Facts.ofRecord(hall, 1, NONE, 5, 7, 1, 0, 0, 0);
        hall.reader(1);
        hall.reader(0);
        hall.copy(0, 10);
        hall.copy(0, 10);
        hall.lend(0, 0);
        Facts.ofRecord(hall, 0, 1, 9, 42, 0, 2, 0, 1);
        hall.await(1, 0);
        Facts.ofRecord(hall, 0, 1, 9, 42, 0, 2, 1, 1);
        hall.pass(40);
        hall.pass(18);
        Check.same("copy 0 is lost", 3, hall.ofCopy(0, 1));
        Facts.ofRecord(hall, 0, 1, 9, 42, 0, 1, 0, 1);
        hall.variant(1, 0);
        Check.same("the author itself, not what it stands for", 1, hall.ofRecord(0, 0));
    }

    private static void promise6OfRecordLaid() {
        BookplateHall hall = Halls.withNames(1);
        hall.record(0, 1, 1);
        hall.record(NONE, 2, 2);
        hall.record(NONE, 3, 3);
        hall.reader(1);
        hall.copy(0, 1);
        hall.copy(1, 1);
        hall.copy(2, 1);
        hall.lend(0, 0);
        hall.back(0);
        hall.lend(0, 0);
        hall.lend(0, 1);
        hall.lay(0, 1);
        Facts.ofRecord(hall, 0, 0, 1, 1, 1, 2, 0, 3);
        hall.lend(0, 2);
        hall.back(1);
        hall.lend(0, 1);
        hall.lay(1, 2);
        Facts.ofRecord(hall, 0, 0, 1, 1, 2, 3, 0, 5);
        Facts.ofRecord(hall, 1, NONE, 2, 2, 2, 3, 0, 5);
        Facts.ofRecord(hall, 2, NONE, 3, 3, 2, 3, 0, 5);
    }

    private static void promise6OfRecordRefuses() {
        BookplateHall hall = Halls.withNames(1);
        hall.record(0, 1, 1);
        Check.refuses(Check.INDEX, "ofRecord(1, 0)", hall, () -> hall.ofRecord(1, 0));
        Check.refuses(Check.INDEX, "ofRecord(-1, 0)", hall, () -> hall.ofRecord(-1, 0));
        Check.refuses(Check.INDEX, "ofRecord(20, 7)", hall, () -> hall.ofRecord(20, 7));
        Check.refuses(Check.ARGUMENT, "ofRecord(0, -1)", hall, () -> hall.ofRecord(0, -1));
        Check.refuses(Check.ARGUMENT, "ofRecord(0, 7)", hall, () -> hall.ofRecord(0, 7));
    }

    private static void promise7LikenessOfAuthors() {
        BookplateHall hall = Halls.withNames(3);
        hall.variant(1, 0);
        hall.record(0, 1, 0);
        hall.record(1, 2, 50);
        hall.record(2, 4, 99);
        hall.record(NONE, 8, 25);
        hall.record(NONE, 16, 75);
        Check.same("authors that stand for the same", 30, hall.likeness(0, 1));
        Check.same("authors that do not", 0, hall.likeness(0, 2));
        Check.same("one without an author", 0, hall.likeness(0, 3));
        Check.same("the other without an author", 0, hall.likeness(3, 0));
        Check.same("both without", 30, hall.likeness(3, 4));
        Check.same("one and itself", 100, hall.likeness(2, 2));
        hall.variant(1, 2);
        Check.same("as the variant changed", 0, hall.likeness(0, 1));
        Check.same("as the variant changed, the other way", 30, hall.likeness(2, 1));
    }

    private static void promise7LikenessOfTitlesAndYears() {
        BookplateHall hall = Halls.withNames(1);
        hall.record(NONE, 7, 50);
        hall.record(0, 3, 50);
        hall.record(0, 7, 46);
        hall.record(0, 7, 45);
        hall.record(0, 7, 99);
        hall.record(0, 4095, 51);
        hall.record(0, 2048, 0);
        Check.same("two words of three, cut", 33 + 20, hall.likeness(0, 1));
        Check.same("four years", 50 + 4, hall.likeness(0, 2));
        Check.same("five years", 50, hall.likeness(0, 3));
        Check.same("49 years", 50, hall.likeness(0, 4));
        Check.same("three words of twelve, a year later", 12 + 16, hall.likeness(0, 5));
        Check.same("a year earlier", 12 + 16, hall.likeness(5, 0));
        Check.same("one word of twelve", 30 + 4, hall.likeness(5, 6));
        Check.same("no word", 0, hall.likeness(0, 6));
        hall.lay(0, 6);
        Check.same("of itself, though laid into another", 50 + 4, hall.likeness(0, 2));
    }

    private static void promise7LikenessRefuses() {
        BookplateHall hall = Halls.withNames(1);
        hall.record(NONE, 7, 50);
        Check.refuses(Check.INDEX, "likeness(0, 1)", hall, () -> hall.likeness(0, 1));
        Check.refuses(Check.INDEX, "likeness(1, 0)", hall, () -> hall.likeness(1, 0));
        Check.refuses(Check.INDEX, "likeness(-1, 0)", hall, () -> hall.likeness(-1, 0));
        Check.refuses(Check.INDEX, "likeness(0, -1)", hall, () -> hall.likeness(0, -1));
        Check.refuses(Check.INDEX, "likeness(0, 20)", hall, () -> hall.likeness(0, 20));
    }

    private static void promise8Twin() {
        BookplateHall hall = Halls.withNames(1);
        hall.record(NONE, 1, 0);
        Check.same("the only one", NONE, hall.twin(0, Integer.MIN_VALUE));
        hall.record(0, 2, 99);
        Check.same("one without any likeness", 1, hall.twin(0, 0));
        Check.same("one without any likeness, of a negative least", 1, hall.twin(0, -5));
        Check.same("one without any likeness, of 1", NONE, hall.twin(0, 1));
        hall.record(NONE, 3, 0);
        hall.record(NONE, 5, 0);
        Check.same("the smaller of two that are as alike", 2, hall.twin(0, 75));
        Check.same("none so much alike", NONE, hall.twin(0, 76));
        hall.record(NONE, 1, 0);
        Check.same("a later one that is more alike", 4, hall.twin(0, 0));
        Check.same("100", 4, hall.twin(0, 100));
        Check.same("the other way", 0, hall.twin(4, 100));
        Check.same("101", NONE, hall.twin(0, 101));
        Check.same("the greatest", NONE, hall.twin(0, Integer.MAX_VALUE));
        Check.refuses(Check.INDEX, "twin(5, 0)", hall, () -> hall.twin(5, 0));
        Check.refuses(Check.INDEX, "twin(-1, 0)", hall, () -> hall.twin(-1, 0));
    }

    private static void promise8TwinOfOneLaid() {
        BookplateHall hall = Halls.withNames(1);
        hall.record(NONE, 1, 0);
        hall.record(NONE, 1, 0);
        hall.record(NONE, 1, 1);
        hall.record(0, 4095, 99);
        hall.lay(0, 1);
        Check.same("neither itself nor the one it went over into", 2, hall.twin(0, 0));
        Check.same("not one that is not live", 2, hall.twin(1, 0));
        hall.lay(1, 3);
        Check.same("of itself, not of the live one", 2, hall.twin(0, 90));
        Check.same("not the live one behind two", NONE, hall.twin(0, 97));
        hall.lay(2, 3);
        Check.same("no other live one", NONE, hall.twin(0, 0));
    }

    private static void promise9LayCopies() {
        BookplateHall hall = Halls.withReaders(2, 1, 0);
        hall.copy(0, 10);
        hall.copy(1, 10);
        hall.copy(1, 10);
        hall.copy(0, 10);
        hall.lend(0, 0);
        hall.pass(40);
        hall.pass(18);
        Check.same("a lost one moves, but does not count", 3, hall.lay(0, 1));
        for (int copy = 0; copy < 4; copy++) {
            Check.same("the record of copy " + copy, 1, hall.ofCopy(copy, 0));
        }
        hall.find(0);
        Check.same("a found one counts", 4, hall.ofRecord(0, 4));
        Check.same("live records", 1, hall.many(2));
    }

    private static void promise9LayWaiters() {
        BookplateHall hall = Halls.withReaders(2, 0, 0, 0, 0);
        hall.await(3, 0);
        hall.await(1, 0);
        hall.await(0, 0);
        hall.await(1, 1);
        hall.await(2, 1);
        Check.same("lay", 0, hall.lay(0, 1));
        Facts.line(hall, 0, 1, 2, 3, 0);
        Facts.line(hall, 1, 1, 2, 3, 0);
        Check.same("reader 1 waits once", 1, hall.ofReader(1, 3));
        Check.same("reader 3 waits once", 1, hall.ofReader(3, 3));
    }

    private static void promise9LayKeepsThoseWhoWaitedThere() {
        BookplateHall hall = Halls.withReaders(2, 0, 1, 0);
        hall.copy(0, 10);
        hall.lend(1, 0);
        hall.await(1, 1);
        hall.await(2, 1);
        Check.same("lay", 1, hall.lay(0, 1));
        Facts.line(hall, 1, 1, 2);
        Check.same("due of one with two waiting", 28, hall.ofCopy(0, 3));
        Check.same("back", 0, hall.back(0));
        Check.same("it is aside for the very reader who brought it", 1, hall.ofCopy(0, 2));
        Check.same("aside", 2, hall.ofCopy(0, 1));
    }

    private static void promise9LayDropsThoseWithACopy() {
        BookplateHall hall = Halls.withReaders(2, 0, 0, 0);
        hall.copy(0, 10);
        hall.copy(1, 10);
        hall.lend(0, 1);
        hall.await(0, 0);
        Check.same("aside for reader 0", 0, hall.ofCopy(0, 2));
        hall.await(1, 1);
        Check.same("lay", 2, hall.lay(0, 1));
        Facts.line(hall, 1, 1);
        Check.same("freed from who has a copy now, for who waits", 1, hall.ofCopy(0, 2));
        Check.same("aside", 2, hall.ofCopy(0, 1));
        hall.leave(1, 1);
        Check.same("in", 0, hall.ofCopy(0, 1));

        BookplateHall moved = Halls.withReaders(3, 0, 0, 0);
        moved.copy(0, 10);
        moved.lend(0, 0);
        moved.await(0, 1);
        moved.lay(0, 1);
        Facts.line(moved, 1, 0);
        moved.lay(1, 2);
        Facts.line(moved, 2);
        Check.same("the copy that moves with the waiter bars it", 0, moved.ofReader(0, 3));
    }

    private static void promise9LayFreesTheGreaterOfTwoAside() {
        BookplateHall hall = Halls.withReaders(2, 0, 0, 0);
        hall.copy(0, 10);
        hall.copy(1, 10);
        hall.await(0, 1);
        hall.await(0, 0);
        Check.same("two aside for reader 0", 2, hall.ofReader(0, 4));
        hall.await(1, 0);
        hall.await(2, 1);
        hall.pass(2);
        Check.same("lay", 2, hall.lay(1, 0));
        Facts.line(hall, 0, 0, 1, 2);
        Check.same("the smaller stays aside", 0, hall.ofCopy(0, 2));
        Check.same("till the same day", 6, hall.ofCopy(0, 3));
        Check.same("the greater goes to the next", 1, hall.ofCopy(1, 2));
        Check.same("till a later day", 8, hall.ofCopy(1, 3));

        BookplateHall alone = Halls.withReaders(2, 0);
        alone.copy(0, 10);
        alone.copy(1, 10);
        alone.await(0, 1);
        alone.await(0, 0);
        alone.lay(0, 1);
        Check.same("the greater is in", 0, alone.ofCopy(1, 1));
        Check.same("for nobody", NONE, alone.ofCopy(1, 2));
        Check.same("till no day", NONE, alone.ofCopy(1, 3));
        Check.same("one aside", 1, alone.ofReader(0, 4));
    }

    private static void promise9LayPutsAsideWhatIsIn() {
        BookplateHall hall = Halls.withReaders(2, 0, 0, 0);
        hall.copy(1, 10);
        hall.copy(1, 10);
        hall.copy(1, 10);
        hall.await(2, 0);
        hall.await(1, 0);
        hall.pass(3);
        Check.same("lay", 3, hall.lay(0, 1));
        Check.same("the smallest for the first", 2, hall.ofCopy(0, 2));
        Check.same("the next for the next", 1, hall.ofCopy(1, 2));
        Check.same("till", 9, hall.ofCopy(1, 3));
        Check.same("the rest in", 0, hall.ofCopy(2, 1));

        BookplateHall back = Halls.withReaders(2, 0, 0);
        back.copy(0, 10);
        back.await(0, 1);
        back.lay(0, 1);
        Check.same("one that moves is aside for who waits there", 0, back.ofCopy(0, 2));
    }

    private static void promise9LayOrder() {
        BookplateHall hall = Halls.withReaders(2, 0, 0, 0, 0);
        hall.copy(0, 10);
        hall.copy(1, 10);
        hall.copy(1, 10);
        hall.lend(0, 1);
        hall.await(1, 0);
        hall.lend(1, 2);
        hall.await(2, 1);
        hall.await(3, 1);
        Check.same("aside for reader 1", 1, hall.ofCopy(0, 2));
        hall.lay(0, 1);
        Facts.line(hall, 1, 2, 3);
        Check.same("freed for the first", 2, hall.ofCopy(0, 2));
        Check.same("lent yet", 1, hall.ofCopy(1, 1));

        BookplateHall both = Halls.withReaders(2, 0, 0, 0);
        both.copy(0, 10);
        both.copy(1, 10);
        both.copy(1, 10);
        both.lend(0, 1);
        both.await(0, 0);
        both.await(1, 0);
        both.await(2, 0);
        both.lay(0, 1);
        Facts.line(both, 1, 1, 2);
        Check.same("the one freed comes ahead of the one that is in", 1, both.ofCopy(0, 2));
        Check.same("the one that is in comes behind it", 2, both.ofCopy(2, 2));
    }

    private static void promise9LayRefuses() {
        BookplateHall hall = Halls.withReaders(3);
        Check.refuses(Check.STATE, "lay(0, 0)", hall, () -> hall.lay(0, 0));
        Check.refuses(Check.INDEX, "lay(0, 3)", hall, () -> hall.lay(0, 3));
        Check.refuses(Check.INDEX, "lay(3, 0)", hall, () -> hall.lay(3, 0));
        Check.refuses(Check.INDEX, "lay(3, 3)", hall, () -> hall.lay(3, 3));
        Check.refuses(Check.INDEX, "lay(-1, 0)", hall, () -> hall.lay(-1, 0));
        Check.refuses(Check.INDEX, "lay(0, -1)", hall, () -> hall.lay(0, -1));
        hall.lay(0, 1);
        Check.refuses(Check.STATE, "lay(0, 2) of one not live", hall, () -> hall.lay(0, 2));
        Check.refuses(Check.STATE, "lay(2, 0) into one not live", hall, () -> hall.lay(2, 0));
        Check.refuses(Check.STATE, "lay(1, 0) back", hall, () -> hall.lay(1, 0));
        Check.refuses(Check.INDEX, "lay(0, 3) of one not live", hall, () -> hall.lay(0, 3));
        BookplateHall full = new BookplateHall();
        for (int number = 0; number < 20; number++) {
            full.record(NONE, 1, 0);
        }
        for (int number = 0; number < 19; number++) {
            full.lay(number, number + 1);
        }
        Check.same("the live one behind nineteen", 19, full.ofRecord(0, 3));
        Check.same("live records", 1, full.many(2));
    }

    private static void promise10Found() {
        BookplateHall hall = Halls.withNames(3);
        hall.variant(1, 0);
        hall.record(0, 1, 0);
        hall.record(1, 3, 0);
        hall.record(2, 7, 0);
        hall.record(NONE, 4095, 0);
        Check.same("all", 4, hall.found(0, NONE));
        Check.same("of one word", 4, hall.found(1, NONE));
        Check.same("of two words", 3, hall.found(3, NONE));
        Check.same("of all words", 1, hall.found(4095, NONE));
        Check.same("of an author", 2, hall.found(0, 0));
        Check.same("of a variant", 2, hall.found(0, 1));
        Check.same("of a variant and two words", 1, hall.found(3, 0));
        Check.same("of another author", 1, hall.found(0, 2));
        Check.same("of another author and a word it has not", 0, hall.found(8, 2));
        hall.lay(0, 2);
        Check.same("live ones alone", 3, hall.found(1, NONE));
        Check.same("live ones alone of an author", 1, hall.found(0, 0));
    }

    private static void promise10FoundRefuses() {
        BookplateHall hall = Halls.withNames(1);
        Check.refuses(Check.INDEX, "found(0, 1)", hall, () -> hall.found(0, 1));
        Check.refuses(Check.INDEX, "found(0, -2)", hall, () -> hall.found(0, -2));
        Check.refuses(Check.INDEX, "found(4096, 1)", hall, () -> hall.found(4096, 1));
        Check.refuses(Check.ARGUMENT, "found(4096, 0)", hall, () -> hall.found(4096, 0));
        Check.refuses(Check.ARGUMENT, "found(-1, -1)", hall, () -> hall.found(-1, NONE));
    }
}
