import java.util.ArrayList;
import java.util.List;

/** What the terms say of methods that throw: which exception it is, and that nothing is changed. */
public final class EdgesOfRefusedCallsTest {

    private static final int NONE = -1;
    private static final int LEAST = Integer.MIN_VALUE;
    private static final int GREATEST = Integer.MAX_VALUE;

    private EdgesOfRefusedCallsTest() {
    }

    public static void main(String[] args) {
        Edges.run(EdgesOfRefusedCallsTest.class);
    }

    private interface Call {
        long on(BookplateHall hall);
    }

    private interface Library {
        BookplateHall make();
    }

    /** A call that is refused, and the exception that is due. */
    private record Refused(String told, Class<? extends RuntimeException> due, Call call) {
    }

    private static final class Rows {

        private final List<Refused> all = new ArrayList<>();

        void index(String told, Call call) {
            all.add(new Refused(told, Check.INDEX, call));
        }

        void argument(String told, Call call) {
            all.add(new Refused(told, Check.ARGUMENT, call));
        }

        void state(String told, Call call) {
            all.add(new Refused(told, Check.STATE, call));
        }
    }

    // ---- the tests

    @Edge(promise = Edge.TERMS, words = {"A method that throws an exception changes nothing.",
        "If several exceptions apply, the one that is named first is thrown."})
    static void onAnEmptyLibrary() {
        Rows rows = new Rows();
        addThoseOfNothing(rows);
        refusesAll(BookplateHall::new, rows.all);
    }

    @Edge(promise = Edge.TERMS, words = {"A method that throws an exception changes nothing.",
        "If several exceptions apply, the one that is named first is thrown."})
    static void ofNamesAndRecords() {
        Rows rows = new Rows();
        addThoseOfNames(rows);
        addThoseOfRecords(rows);
        addThoseOfLaying(rows);
        refusesAll(EdgesOfRefusedCallsTest::busy, rows.all);
    }

    @Edge(promise = Edge.TERMS, words = {"A method that throws an exception changes nothing.",
        "If several exceptions apply, the one that is named first is thrown."})
    static void ofCopiesAndReaders() {
        Rows rows = new Rows();
        addThoseOfCopies(rows);
        addThoseOfReaders(rows);
        refusesAll(EdgesOfRefusedCallsTest::busy, rows.all);
    }

    @Edge(promise = Edge.TERMS, words = {"A method that throws an exception changes nothing.",
        "If several exceptions apply, the one that is named first is thrown."})
    static void ofLoans() {
        Rows rows = new Rows();
        addThoseOfLending(rows);
        addThoseOfBringingBack(rows);
        refusesAll(EdgesOfRefusedCallsTest::busy, rows.all);
    }

    @Edge(promise = Edge.TERMS, words = {"A method that throws an exception changes nothing.",
        "If several exceptions apply, the one that is named first is thrown."})
    static void ofWaitingAndDays() {
        Rows rows = new Rows();
        addThoseOfWaiting(rows);
        addThoseOfDays(rows);
        refusesAll(EdgesOfRefusedCallsTest::busy, rows.all);
    }

    @Edge(promise = Edge.TERMS, words = {"A method that throws an exception changes nothing.",
        "If several exceptions apply, the one that is named first is thrown."})
    static void ofWhatWouldBe() {
        Rows rows = new Rows();
        addThoseOfWhatWouldBe(rows);
        refusesAll(EdgesOfRefusedCallsTest::busy, rows.all);
    }

    @Edge(promise = Edge.TERMS, words = "A method that throws an exception changes nothing.")
    static void theBusyLibraryIsAsTold() {
        BookplateHall hall = busy();
        Facts.totals(hall, 59, 16, 18, 30, 8, 21, 5, 2, 2, 101);
        Facts.ofReader(hall, 0, 0, 0, 51, 0, 0, 0, 0);
        Facts.ofReader(hall, 1, 0, 0, 50, 0, 0, 0, 0);
        Facts.ofReader(hall, 2, 0, 2, 0, 0, 0, 2, 4);
        Facts.ofReader(hall, 3, 0, 1, 0, 0, 0, 1, 2);
        Check.same("copy 4 was renewed", 2, hall.ofCopy(4, 5));
        Facts.place(hall, 6, Facts.LENT, 5, 87);
        Facts.place(hall, 8, Facts.ASIDE, 7, 65);
        Facts.place(hall, 26, Facts.ASIDE, 6, 65);
        Facts.line(hall, 6, 6, 7);
        Check.same("record 19 went over", 17, hall.ofRecord(19, 3));
        Check.same("name 2 stands for", 0, hall.stands(2));
    }

    /** Each call alone, and then all of them, between the same calls on two libraries that are the same. */
    private static void refusesAll(Library library, List<Refused> rows) {
        List<Object> due = afterwards(library.make());
        BookplateHall refusing = library.make();
        for (Refused row : rows) {
            BookplateHall hall = library.make();
            refuses(hall, row);
            Check.same("what comes behind " + row.told, due, afterwards(hall));
            refuses(refusing, row);
        }
        Check.same("what comes behind all of them", due, afterwards(refusing));
    }

    private static void refuses(BookplateHall hall, Refused row) {
        try {
            long answer = row.call.on(hall);
            Check.holds(row.told + ", which answered " + answer + ", is refused", false);
        } catch (RuntimeException thrown) {
            Check.same(row.told, row.due.getName(), thrown.getClass().getName());
        }
    }

    // ---- the library, and what shows what is in it

    /**
     * A full one, on day 59: reader 0 owes 51, and 1 owes 50, of the lost copies 1 and 0; reader 2 has as many as
     * it may, both late; 3 has a late one; 4 has copy 4, renewed twice; 5 has copy 6, for which 7 waits; 6 has copy
     * 26 aside, and 7 has copy 8; records 19 and 18 went over into 17; name 2 is a variant of 1, and that of 0.
     */
    private static BookplateHall busy() {
        BookplateHall hall = Halls.full();
        hall.variant(1, 0);
        hall.variant(2, 1);
        hall.lend(0, 1);
        hall.lend(1, 0);
        Halls.pass(hall, 44);
        hall.lend(2, 2);
        hall.lend(2, 3);
        hall.lend(3, 5);
        hall.lend(4, 4);
        hall.renew(4);
        hall.renew(4);
        hall.pass(15);
        hall.lend(5, 6);
        hall.await(6, 6);
        hall.await(7, 6);
        hall.await(7, 8);
        hall.lay(19, 18);
        hall.lay(18, 17);
        return hall;
    }

    /** The answers of calls that would come out otherwise, if something had been changed before. */
    private static List<Object> afterwards(BookplateHall hall) {
        List<Object> answers = new ArrayList<>();
        Call[] calls = {
            BookplateHall::digest, x -> x.variant(0, 3), x -> x.variant(1, 4), BookplateHall::digest,
            x -> x.found(0, 3), x -> x.found(0, NONE), x -> x.twin(0, 0), x -> x.soon(7, 6), x -> x.back(6),
            x -> x.renew(4), x -> x.lend(7, 8), x -> x.leave(6, 6), BookplateHall::digest,
            x -> x.lay(17, 6), x -> x.lay(5, 17), BookplateHall::digest, x -> x.pass(7), BookplateHall::digest,
            x -> x.find(0), x -> x.find(1), x -> x.pay(0, 3), x -> x.lend(0, 29), x -> x.await(1, 9),
            x -> x.pass(40), BookplateHall::digest, x -> x.name(), x -> x.reader(1), x -> x.record(NONE, 1, 1),
            x -> x.copy(0, 1), x -> x.await(0, 0), BookplateHall::digest,
        };
        for (Call call : calls) {
            answers.add(answer(hall, call));
        }
        answers.add(hall.meanWaits());
        return answers;
    }

    private static Object answer(BookplateHall hall, Call call) {
        try {
            return call.on(hall);
        } catch (RuntimeException thrown) {
            return thrown.getClass().getName();
        }
    }

    // ---- the refused calls

    private static void addThoseOfNothing(Rows rows) {
        rows.index("variant(0, 0)", x -> x.variant(0, 0));
        rows.index("stands(0)", x -> x.stands(0));
        rows.index("record(0, 1, 0)", x -> x.record(0, 1, 0));
        rows.index("record(0, 0, 100)", x -> x.record(0, 0, 100));
        rows.argument("record(NONE, 0, 0)", x -> x.record(NONE, 0, 0));
        rows.index("ofRecord(0, 7)", x -> x.ofRecord(0, 7));
        rows.index("likeness(0, 0)", x -> x.likeness(0, 0));
        rows.index("twin(0, 0)", x -> x.twin(0, 0));
        rows.index("lay(0, 0)", x -> x.lay(0, 0));
        rows.index("found(4096, 0)", x -> x.found(4096, 0));
        rows.argument("found(4096, NONE)", x -> x.found(4096, NONE));
        rows.index("copy(0, 0)", x -> x.copy(0, 0));
        rows.index("ofCopy(0, 7)", x -> x.ofCopy(0, 7));
        rows.argument("reader(2)", x -> x.reader(2));
        rows.index("ofReader(0, 7)", x -> x.ofReader(0, 7));
        rows.index("pay(0, 0)", x -> x.pay(0, 0));
        rows.index("reason(0, 0)", x -> x.reason(0, 0));
        rows.index("lend(0, 0)", x -> x.lend(0, 0));
        rows.index("renew(0)", x -> x.renew(0));
        rows.index("back(0)", x -> x.back(0));
        rows.index("find(0)", x -> x.find(0));
        rows.index("await(0, 0)", x -> x.await(0, 0));
        rows.index("leave(0, 0)", x -> x.leave(0, 0));
        rows.index("waiter(0, 0)", x -> x.waiter(0, 0));
        rows.argument("pass(0)", x -> x.pass(0));
        rows.argument("many(10)", x -> x.many(10));
        rows.index("fineIn(0, 61)", x -> x.fineIn(0, 61));
        rows.index("soon(0, 0)", x -> x.soon(0, 0));
        rows.index("mayBorrow(0)", x -> x.mayBorrow(0));
        rows.argument("lostIn(0)", x -> x.lostIn(0));
    }

    private static void addThoseOfNames(Rows rows) {
        rows.state("name() of a full library", BookplateHall::name);
        rows.index("variant(-1, 0)", x -> x.variant(-1, 0));
        rows.index("variant(0, -1)", x -> x.variant(0, -1));
        rows.index("variant(16, 0)", x -> x.variant(16, 0));
        rows.index("variant(0, 16)", x -> x.variant(0, 16));
        rows.index("variant(16, 16), the same", x -> x.variant(16, 16));
        rows.index("variant(least, least), the same", x -> x.variant(LEAST, LEAST));
        rows.state("variant(0, 0)", x -> x.variant(0, 0));
        rows.state("variant(0, 1) of its variant", x -> x.variant(0, 1));
        rows.state("variant(0, 2) of a variant of its variant", x -> x.variant(0, 2));
        rows.index("stands(-1)", x -> x.stands(-1));
        rows.index("stands(16)", x -> x.stands(16));
    }

    private static void addThoseOfRecords(Rows rows) {
        rows.index("record(-2, 0, 100), wrong in all", x -> x.record(-2, 0, 100));
        rows.index("record(16, 4096, -1), wrong in all", x -> x.record(16, 4096, -1));
        rows.index("record(16, 1, 0) of a full library", x -> x.record(16, 1, 0));
        rows.argument("record(0, 0, 0) of a full library", x -> x.record(0, 0, 0));
        rows.argument("record(NONE, 4096, 0) of a full library", x -> x.record(NONE, 4096, 0));
        rows.argument("record(0, 1, -1) of a full library", x -> x.record(0, 1, -1));
        rows.argument("record(0, 1, 100) of a full library", x -> x.record(0, 1, 100));
        rows.state("record(0, 1, 0) of a full library", x -> x.record(0, 1, 0));
        rows.state("record(NONE, 4095, 99) of a full library", x -> x.record(NONE, 4095, 99));
        rows.index("ofRecord(-1, -1)", x -> x.ofRecord(-1, -1));
        rows.index("ofRecord(20, 7)", x -> x.ofRecord(20, 7));
        rows.index("ofRecord(20, 0)", x -> x.ofRecord(20, 0));
        rows.argument("ofRecord(19, -1)", x -> x.ofRecord(19, -1));
        rows.argument("ofRecord(19, 7)", x -> x.ofRecord(19, 7));
        rows.index("likeness(20, 0)", x -> x.likeness(20, 0));
        rows.index("likeness(0, -1)", x -> x.likeness(0, -1));
        rows.index("twin(20, greatest)", x -> x.twin(20, GREATEST));
        rows.index("found(4096, 16)", x -> x.found(4096, 16));
        rows.index("found(-1, -2)", x -> x.found(-1, -2));
        rows.index("found(0, 16)", x -> x.found(0, 16));
        rows.argument("found(4096, NONE)", x -> x.found(4096, NONE));
        rows.argument("found(-1, 0)", x -> x.found(-1, 0));
    }

    private static void addThoseOfLaying(Rows rows) {
        rows.index("lay(20, 20), the same", x -> x.lay(20, 20));
        rows.index("lay(-1, -1), the same", x -> x.lay(-1, -1));
        rows.index("lay(19, 20), of which one is not live", x -> x.lay(19, 20));
        rows.index("lay(20, 19), of which one is not live", x -> x.lay(20, 19));
        rows.index("lay(0, greatest)", x -> x.lay(0, GREATEST));
        rows.index("lay(least, 0)", x -> x.lay(LEAST, 0));
        rows.state("lay(6, 6)", x -> x.lay(6, 6));
        rows.state("lay(19, 19), not live", x -> x.lay(19, 19));
        rows.state("lay(19, 6), not live", x -> x.lay(19, 6));
        rows.state("lay(6, 19), not live", x -> x.lay(6, 19));
        rows.state("lay(17, 18), not live", x -> x.lay(17, 18));
        rows.state("lay(19, 18), both not live", x -> x.lay(19, 18));
    }

    private static void addThoseOfCopies(Rows rows) {
        rows.index("copy(20, 0), wrong in all", x -> x.copy(20, 0));
        rows.index("copy(-1, 201), wrong in all", x -> x.copy(-1, 201));
        rows.index("copy(20, 1) of a full library", x -> x.copy(20, 1));
        rows.argument("copy(19, 0) of one not live", x -> x.copy(19, 0));
        rows.argument("copy(19, 201) of one not live", x -> x.copy(19, 201));
        rows.argument("copy(6, 0) of a full library", x -> x.copy(6, 0));
        rows.argument("copy(6, -1) of a full library", x -> x.copy(6, -1));
        rows.state("copy(6, 1) of a full library", x -> x.copy(6, 1));
        rows.state("copy(6, 200) of a full library", x -> x.copy(6, 200));
        rows.state("copy(19, 1) of one not live", x -> x.copy(19, 1));
        rows.index("ofCopy(-1, -1)", x -> x.ofCopy(-1, -1));
        rows.index("ofCopy(30, 7)", x -> x.ofCopy(30, 7));
        rows.argument("ofCopy(29, 7)", x -> x.ofCopy(29, 7));
        rows.argument("ofCopy(0, -1)", x -> x.ofCopy(0, -1));
    }

    private static void addThoseOfReaders(Rows rows) {
        rows.argument("reader(2) of a full library", x -> x.reader(2));
        rows.argument("reader(-1) of a full library", x -> x.reader(-1));
        rows.state("reader(0) of a full library", x -> x.reader(0));
        rows.state("reader(1) of a full library", x -> x.reader(1));
        rows.index("ofReader(-1, -1)", x -> x.ofReader(-1, -1));
        rows.index("ofReader(8, 7)", x -> x.ofReader(8, 7));
        rows.argument("ofReader(7, 7)", x -> x.ofReader(7, 7));
        rows.argument("ofReader(0, -1)", x -> x.ofReader(0, -1));
        rows.index("pay(8, 0)", x -> x.pay(8, 0));
        rows.index("pay(-1, greatest)", x -> x.pay(-1, GREATEST));
        rows.argument("pay(0, 52), owing 51", x -> x.pay(0, 52));
        rows.argument("pay(0, 0), owing 51", x -> x.pay(0, 0));
        rows.argument("pay(0, -1), owing 51", x -> x.pay(0, -1));
        rows.argument("pay(2, 1), owing nothing", x -> x.pay(2, 1));
        rows.argument("pay(2, 0), owing nothing", x -> x.pay(2, 0));
    }

    private static void addThoseOfLending(Rows rows) {
        rows.index("reason(8, 30)", x -> x.reason(8, 30));
        rows.index("reason(-1, 0)", x -> x.reason(-1, 0));
        rows.index("reason(0, 30)", x -> x.reason(0, 30));
        rows.index("lend(8, 30)", x -> x.lend(8, 30));
        rows.index("lend(8, 0) of a lost one", x -> x.lend(8, 0));
        rows.index("lend(0, 30), owing 51", x -> x.lend(0, 30));
        rows.index("lend(2, -1), with two", x -> x.lend(2, -1));
        rows.state("lend(7, 0) of a lost one", x -> x.lend(7, 0));
        rows.state("lend(7, 6) of a lent one", x -> x.lend(7, 6));
        rows.state("lend(5, 6) of one lent to that reader", x -> x.lend(5, 6));
        rows.state("lend(7, 26) of one aside for another", x -> x.lend(7, 26));
        rows.state("lend(2, 10), with two", x -> x.lend(2, 10));
        rows.state("lend(0, 10), owing 51", x -> x.lend(0, 10));
        rows.state("lend(3, 10), with a late one", x -> x.lend(3, 10));
    }

    private static void addThoseOfBringingBack(Rows rows) {
        rows.index("renew(-1)", x -> x.renew(-1));
        rows.index("renew(30)", x -> x.renew(30));
        rows.state("renew(10) of one that is in", x -> x.renew(10));
        rows.state("renew(26) of one aside", x -> x.renew(26));
        rows.state("renew(0) of a lost one", x -> x.renew(0));
        rows.state("renew(5) of a late one", x -> x.renew(5));
        rows.state("renew(4) a third time", x -> x.renew(4));
        rows.state("renew(6) as one waits with none", x -> x.renew(6));
        rows.index("back(-1)", x -> x.back(-1));
        rows.index("back(30)", x -> x.back(30));
        rows.state("back(10) of one that is in", x -> x.back(10));
        rows.state("back(26) of one aside", x -> x.back(26));
        rows.state("back(0) of a lost one", x -> x.back(0));
        rows.index("find(-1)", x -> x.find(-1));
        rows.index("find(30)", x -> x.find(30));
        rows.state("find(10) of one that is in", x -> x.find(10));
        rows.state("find(6) of a lent one", x -> x.find(6));
        rows.state("find(26) of one aside", x -> x.find(26));
    }

    private static void addThoseOfWaiting(Rows rows) {
        rows.index("await(8, 20)", x -> x.await(8, 20));
        rows.index("await(8, 6)", x -> x.await(8, 6));
        rows.index("await(7, 20)", x -> x.await(7, 20));
        rows.index("await(-1, 0)", x -> x.await(-1, 0));
        rows.index("await(0, -1)", x -> x.await(0, -1));
        rows.state("await(5, 6), who has a copy", x -> x.await(5, 6));
        rows.state("await(6, 6), who waits with one aside", x -> x.await(6, 6));
        rows.state("await(7, 6), who waits with none", x -> x.await(7, 6));
        rows.index("leave(8, 20)", x -> x.leave(8, 20));
        rows.index("leave(-1, 6)", x -> x.leave(-1, 6));
        rows.index("leave(6, 20)", x -> x.leave(6, 20));
        rows.state("leave(5, 6), who has a copy", x -> x.leave(5, 6));
        rows.state("leave(6, 8), who waits for another", x -> x.leave(6, 8));
        rows.state("leave(6, 19) of one not live", x -> x.leave(6, 19));
        rows.index("waiter(20, 0)", x -> x.waiter(20, 0));
        rows.index("waiter(-1, 0)", x -> x.waiter(-1, 0));
        rows.index("waiter(6, 2)", x -> x.waiter(6, 2));
        rows.index("waiter(6, -1)", x -> x.waiter(6, -1));
        rows.index("waiter(0, 0) of nobody", x -> x.waiter(0, 0));
        rows.index("waiter(19, 0) of nobody", x -> x.waiter(19, 0));
    }

    private static void addThoseOfDays(Rows rows) {
        rows.argument("pass(0)", x -> x.pass(0));
        rows.argument("pass(-1)", x -> x.pass(-1));
        rows.argument("pass(41)", x -> x.pass(41));
        rows.argument("pass(greatest)", x -> x.pass(GREATEST));
        rows.argument("many(-1)", x -> x.many(-1));
        rows.argument("many(10)", x -> x.many(10));
    }

    private static void addThoseOfWhatWouldBe(Rows rows) {
        rows.index("fineIn(30, 61)", x -> x.fineIn(30, 61));
        rows.index("fineIn(-1, 0)", x -> x.fineIn(-1, 0));
        rows.argument("fineIn(10, 61) of one that is in", x -> x.fineIn(10, 61));
        rows.argument("fineIn(0, -1) of a lost one", x -> x.fineIn(0, -1));
        rows.argument("fineIn(6, 61) of a lent one", x -> x.fineIn(6, 61));
        rows.state("fineIn(10, 0) of one that is in", x -> x.fineIn(10, 0));
        rows.state("fineIn(26, 60) of one aside", x -> x.fineIn(26, 60));
        rows.state("fineIn(0, 60) of a lost one", x -> x.fineIn(0, 60));
        rows.index("soon(8, 20)", x -> x.soon(8, 20));
        rows.index("soon(8, 6)", x -> x.soon(8, 6));
        rows.index("soon(6, 20)", x -> x.soon(6, 20));
        rows.state("soon(5, 6), who has a copy", x -> x.soon(5, 6));
        rows.state("soon(6, 8), who waits for another", x -> x.soon(6, 8));
        rows.state("soon(6, 19) of one not live", x -> x.soon(6, 19));
        rows.index("mayBorrow(-1)", x -> x.mayBorrow(-1));
        rows.index("mayBorrow(8)", x -> x.mayBorrow(8));
        rows.argument("lostIn(0)", x -> x.lostIn(0));
        rows.argument("lostIn(-1)", x -> x.lostIn(-1));
        rows.argument("lostIn(41)", x -> x.lostIn(41));
    }
}
