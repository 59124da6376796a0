/** Promises 16 to 20: loans. */
public final class LoansTest {

    private static final int NONE = -1;

    private LoansTest() {
    }

    public static void main(String[] args) {
        promise16ReasonOfThePlace();
        promise16ReasonOfHowMany();
        promise16ReasonOfWhatIsOwed();
        promise16ReasonOfLateOnes();
        promise16ReasonOrder();
        promise16ReasonRefuses();
        promise17Lend();
        promise17LendEndsTheWait();
        promise17LendRefuses();
        promise18Renew();
        promise18RenewAndWaiters();
        promise18RenewRefuses();
        promise19Back();
        promise19BackForWaiters();
        promise19BackRefuses();
        promise20Find();
        promise20FindForWaiters();
        promise20FindRefuses();
        Check.end("LoansTest");
    }

    private static void promise16ReasonOfThePlace() {
        BookplateHall hall = Halls.withCopies(2, 3, 50, 0, 0);
        Check.same("in", 0, hall.reason(0, 0));
        hall.await(1, 0);
        Check.same("aside for another", 1, hall.reason(0, 0));
        Check.same("aside for that reader", 0, hall.reason(1, 0));
        hall.lend(1, 0);
        Check.same("lent to another", 1, hall.reason(0, 0));
        Check.same("lent to that reader", 1, hall.reason(1, 0));
        hall.pass(40);
        hall.pass(4);
        Check.same("lost", 3, hall.ofCopy(0, 1));
        Check.same("lost by another", 1, hall.reason(0, 0));
        Check.same("lost by that reader", 1, hall.reason(1, 0));
    }

    private static void promise16ReasonOfHowMany() {
        BookplateHall hall = Halls.withCopies(1, 6, 50, 0, 1);
        hall.lend(0, 0);
        Check.same("kind 0 with one", 0, hall.reason(0, 5));
        hall.lend(0, 1);
        Check.same("kind 0 with two", 2, hall.reason(0, 5));
        hall.lend(1, 2);
        hall.lend(1, 3);
        hall.lend(1, 4);
        Check.same("kind 1 with three", 0, hall.reason(1, 5));
        hall.back(1);
        hall.lend(1, 1);
        Check.same("kind 1 with four", 2, hall.reason(1, 5));
        Check.same("kind 0 with one again", 0, hall.reason(0, 5));
    }

    private static void promise16ReasonOfWhatIsOwed() {
        BookplateHall hall = Halls.withCopies(1, 3, 50, 0);
        hall.lend(0, 0);
        hall.pass(40);
        hall.back(0);
        hall.lend(0, 0);
        hall.pass(20);
        hall.back(0);
        Check.same("owes", 52, hall.ofReader(0, 2));
        Check.same("owes 52", 3, hall.reason(0, 0));
        hall.pay(0, 1);
        Check.same("owes 51", 3, hall.reason(0, 0));
        hall.pay(0, 1);
        Check.same("owes 50", 0, hall.reason(0, 0));
    }

    private static void promise16ReasonOfLateOnes() {
        BookplateHall hall = Halls.withCopies(1, 3, 50, 1, 1);
        hall.lend(0, 0);
        hall.pass(28);
        Check.same("on the day on which it is due", 0, hall.reason(0, 1));
        hall.pass(1);
        Check.same("on the day behind it", 4, hall.reason(0, 1));
        Check.same("of another reader", 0, hall.reason(1, 1));
        hall.back(0);
        Check.same("as it is back", 0, hall.reason(0, 1));
    }

    private static void promise16ReasonOrder() {
        BookplateHall hall = Halls.withCopies(1, 4, 50, 0, 1);
        hall.lend(0, 0);
        hall.pass(44 - 14);
        hall.back(0);
        hall.lend(0, 0);
        hall.lend(0, 1);
        hall.lend(1, 2);
        hall.pass(15);
        Check.same("a lent one, too many, late", 1, hall.reason(0, 2));
        Check.same("too many, late", 2, hall.reason(0, 3));
        hall.pass(9);
        hall.back(0);
        Check.same("owes", 32 + 20, hall.ofReader(0, 2));
        Check.same("owes too much, late", 3, hall.reason(0, 3));
        hall.pay(0, 2);
        Check.same("late", 4, hall.reason(0, 3));
    }

    private static void promise16ReasonRefuses() {
        BookplateHall hall = Halls.withCopies(1, 1, 50, 0);
        Check.refuses(Check.INDEX, "reason(1, 0)", hall, () -> hall.reason(1, 0));
        Check.refuses(Check.INDEX, "reason(-1, 0)", hall, () -> hall.reason(-1, 0));
        Check.refuses(Check.INDEX, "reason(0, 1)", hall, () -> hall.reason(0, 1));
        Check.refuses(Check.INDEX, "reason(0, -1)", hall, () -> hall.reason(0, -1));
        Check.refuses(Check.INDEX, "reason(8, 30)", hall, () -> hall.reason(8, 30));
    }

    private static void promise17Lend() {
        BookplateHall hall = Halls.withCopies(1, 3, 50, 0, 1);
        hall.pass(5);
        Check.same("due of kind 0", 19, hall.lend(0, 1));
        Check.same("due of kind 1", 33, hall.lend(1, 0));
        Check.same("lent", 1, hall.ofCopy(1, 1));
        Check.same("to", 0, hall.ofCopy(1, 2));
        Check.same("day", 19, hall.ofCopy(1, 3));
        Check.same("times lent", 2, hall.ofRecord(0, 6));
        Check.same("another of the same record", 19, hall.lend(0, 2));
        Check.same("copies", 2, hall.ofReader(0, 1));
    }

    private static void promise17LendEndsTheWait() {
        BookplateHall hall = Halls.withCopies(1, 3, 50, 0, 0, 0, 0);
        hall.lend(3, 2);
        hall.await(0, 0);
        Check.same("aside for reader 0", 0, hall.ofCopy(0, 2));
        Check.same("the other, that is in", 14, hall.lend(0, 1));
        Check.same("waits", 0, hall.ofReader(0, 3));
        Check.same("in, as nobody waits", 0, hall.ofCopy(0, 1));
        Check.same("for nobody", NONE, hall.ofCopy(0, 2));

        hall.await(1, 0);
        hall.await(2, 0);
        Check.same("aside for reader 1", 1, hall.ofCopy(0, 2));
        Check.same("the one aside", 14, hall.lend(1, 0));
        Check.same("reader 2 waits alone", 1, hall.ofRecord(0, 5));
        Check.same("reader 2 is first", 2, hall.waiter(0, 0));

        BookplateHall chain = Halls.withCopies(1, 2, 50, 0, 0, 0);
        chain.await(0, 0);
        chain.await(1, 0);
        chain.await(2, 0);
        Check.same("lend one aside", 14, chain.lend(0, 0));
        Check.same("what is aside for another stays", 1, chain.ofCopy(1, 2));
        Check.same("two wait", 2, chain.ofRecord(0, 5));
    }

    private static void promise17LendRefuses() {
        BookplateHall hall = Halls.withCopies(1, 4, 50, 0, 0);
        Check.refuses(Check.INDEX, "lend(2, 0)", hall, () -> hall.lend(2, 0));
        Check.refuses(Check.INDEX, "lend(-1, 0)", hall, () -> hall.lend(-1, 0));
        Check.refuses(Check.INDEX, "lend(0, 4)", hall, () -> hall.lend(0, 4));
        Check.refuses(Check.INDEX, "lend(0, -1)", hall, () -> hall.lend(0, -1));
        hall.lend(0, 0);
        Check.refuses(Check.STATE, "one lent", hall, () -> hall.lend(1, 0));
        Check.refuses(Check.STATE, "one lent to the reader", hall, () -> hall.lend(0, 0));
        hall.lend(0, 1);
        Check.refuses(Check.STATE, "a third of kind 0", hall, () -> hall.lend(0, 2));
        hall.pass(40);
        hall.back(0);
        Check.refuses(Check.STATE, "with a late one", hall, () -> hall.lend(0, 2));
        hall.back(1);
        Check.same("owes", 80, hall.ofReader(0, 2));
        Check.refuses(Check.STATE, "owing 80", hall, () -> hall.lend(0, 2));
        hall.pay(0, 30);
        Check.same("owing 50", 54, hall.lend(0, 2));
    }

    private static void promise18Renew() {
        BookplateHall hall = Halls.withCopies(1, 3, 50, 0, 1);
        hall.lend(0, 0);
        hall.lend(1, 1);
        hall.pass(3);
        Check.same("renew of kind 0", 17, hall.renew(0));
        Check.same("renew of kind 1", 31, hall.renew(1));
        Check.same("renewed once", 1, hall.ofCopy(0, 5));
        hall.pass(14);
        Check.same("on the day on which it is due", 31, hall.renew(0));
        Check.same("renewed twice", 2, hall.ofCopy(0, 5));
        Check.refuses(Check.STATE, "a third time", hall, () -> hall.renew(0));
        hall.back(0);
        hall.lend(0, 0);
        Check.same("not renewed", 0, hall.ofCopy(0, 5));
        Check.same("renewed anew", 31, hall.renew(0));
        hall.pass(15);
        Check.refuses(Check.STATE, "on the day behind", hall, () -> hall.renew(0));
        Check.refuses(Check.STATE, "one of kind 1 on the day behind", hall, () -> hall.renew(1));
    }

    private static void promise18RenewAndWaiters() {
        BookplateHall hall = Halls.withCopies(2, 2, 50, 0, 0, 0);
        hall.lend(0, 0);
        hall.await(1, 0);
        Check.same("who waits has one aside", 14, hall.renew(0));
        hall.await(2, 0);
        Check.refuses(Check.STATE, "one waits and has none aside", hall, () -> hall.renew(0));
        hall.lend(1, 1);
        Check.refuses(Check.STATE, "the other is lent too", hall, () -> hall.renew(1));
        hall.leave(2, 0);
        Check.same("nobody waits", 14, hall.renew(0));
        hall.await(2, 1);
        Check.same("one waits for another record", 14, hall.renew(1));
    }

    private static void promise18RenewRefuses() {
        BookplateHall hall = Halls.withCopies(1, 2, 50, 0);
        Check.refuses(Check.INDEX, "renew(2)", hall, () -> hall.renew(2));
        Check.refuses(Check.INDEX, "renew(-1)", hall, () -> hall.renew(-1));
        Check.refuses(Check.STATE, "one that is in", hall, () -> hall.renew(0));
        hall.await(0, 0);
        Check.refuses(Check.STATE, "one that is aside", hall, () -> hall.renew(0));
        hall.lend(0, 0);
        hall.pass(40);
        hall.pass(4);
        Check.same("lost", 3, hall.ofCopy(0, 1));
        Check.refuses(Check.STATE, "one that is lost", hall, () -> hall.renew(0));
    }

    private static void promise19Back() {
        BookplateHall hall = Halls.withCopies(1, 3, 200, 1);
        hall.lend(0, 0);
        hall.lend(0, 1);
        hall.lend(0, 2);
        hall.pass(28);
        Check.same("on the day on which it is due", 0, hall.back(0));
        Check.same("in", 0, hall.ofCopy(0, 1));
        Check.same("two copies", 2, hall.ofReader(0, 1));
        hall.pass(19);
        Check.same("19 days late", 38, hall.back(1));
        Check.same("owes", 38, hall.ofReader(0, 2));
        hall.pass(10);
        Check.same("29 days late", 40, hall.back(2));
        Check.same("owes more", 78, hall.ofReader(0, 2));
        Check.same("copies", 0, hall.ofReader(0, 1));

        BookplateHall most = Halls.withCopies(1, 2, 200, 0);
        most.lend(0, 0);
        most.lend(0, 1);
        most.pass(34);
        Check.same("20 days late", 40, most.back(0));
        most.pass(1);
        Check.same("21 days late", 40, most.back(1));
    }

    private static void promise19BackForWaiters() {
        BookplateHall hall = Halls.withCopies(1, 2, 50, 0, 0, 0, 0);
        hall.lend(0, 0);
        hall.lend(0, 1);
        hall.await(2, 0);
        hall.await(1, 0);
        hall.await(3, 0);
        hall.pass(4);
        hall.back(1);
        Check.same("for the first", 2, hall.ofCopy(1, 2));
        Check.same("aside", 2, hall.ofCopy(1, 1));
        Check.same("till", 10, hall.ofCopy(1, 3));
        hall.back(0);
        Check.same("for the next, who has none", 1, hall.ofCopy(0, 2));
        Check.same("all wait yet", 3, hall.ofRecord(0, 5));
    }

    private static void promise19BackRefuses() {
        BookplateHall hall = Halls.withCopies(1, 1, 50, 0);
        Check.refuses(Check.INDEX, "back(1)", hall, () -> hall.back(1));
        Check.refuses(Check.INDEX, "back(-1)", hall, () -> hall.back(-1));
        Check.refuses(Check.STATE, "one that is in", hall, () -> hall.back(0));
        hall.await(0, 0);
        Check.refuses(Check.STATE, "one that is aside", hall, () -> hall.back(0));
        hall.lend(0, 0);
        hall.pass(40);
        hall.pass(4);
        Check.refuses(Check.STATE, "one that is lost", hall, () -> hall.back(0));
    }

    private static void promise20Find() {
        BookplateHall hall = Halls.withCopies(1, 2, 200, 0);
        hall.lend(0, 0);
        hall.pass(40);
        hall.pass(4);
        Check.same("owes", 240, hall.ofReader(0, 2));
        Check.same("find", 40, hall.find(0));
        Check.same("in", 0, hall.ofCopy(0, 1));
        hall.pay(0, 40);
        hall.lend(0, 0);
        hall.pass(40);
        hall.pass(4);
        hall.pay(0, 41);
        Check.same("less than its price is owed", 0, hall.find(0));
        Check.same("owes nothing", 0, hall.ofReader(0, 2));
        hall.lend(0, 0);
        hall.pass(40);
        hall.pass(4);
        hall.pay(0, 40);
        Check.same("just its price is owed", 0, hall.find(0));
    }

    private static void promise20FindForWaiters() {
        BookplateHall hall = Halls.withCopies(1, 1, 5, 0, 0);
        hall.lend(0, 0);
        hall.await(1, 0);
        hall.pass(40);
        hall.pass(4);
        Check.same("of the one who had it", 40, hall.find(0));
        Check.same("aside for who waits", 1, hall.ofCopy(0, 2));
        Check.same("aside", 2, hall.ofCopy(0, 1));
        Check.same("till", 50, hall.ofCopy(0, 3));
        Check.same("the other owes nothing", 0, hall.ofReader(1, 2));

        BookplateHall own = Halls.withCopies(1, 1, 5, 0, 0);
        own.lend(0, 0);
        own.pass(40);
        own.pass(4);
        Check.same("who lost it may wait for its record", NONE, own.await(0, 0));
        own.find(0);
        Check.same("it is aside for who lost it", 0, own.ofCopy(0, 2));
    }

    private static void promise20FindRefuses() {
        BookplateHall hall = Halls.withCopies(1, 1, 50, 0);
        Check.refuses(Check.INDEX, "find(1)", hall, () -> hall.find(1));
        Check.refuses(Check.INDEX, "find(-1)", hall, () -> hall.find(-1));
        Check.refuses(Check.STATE, "one that is in", hall, () -> hall.find(0));
        hall.await(0, 0);
        Check.refuses(Check.STATE, "one that is aside", hall, () -> hall.find(0));
        hall.lend(0, 0);
        Check.refuses(Check.STATE, "one that is lent", hall, () -> hall.find(0));
        hall.pass(40);
        hall.pass(4);
        hall.find(0);
        Check.refuses(Check.STATE, "one that was found", hall, () -> hall.find(0));
    }
}
