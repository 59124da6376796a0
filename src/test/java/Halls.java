/** Small libraries for a test to begin with. */
final class Halls {

    private static final int NONE = -1;

    private Halls() {
    }

    static BookplateHall withNames(int count) {
        BookplateHall hall = new BookplateHall();
        for (int number = 0; number < count; number++) {
            hall.name();
        }
        return hall;
    }

    /** Records without an author, and a reader of each of these kinds. */
    static BookplateHall withReaders(int records, int... kinds) {
        return withCopies(records, 0, 1, kinds);
    }

    /** As withReaders, with copies of record 0. */
    static BookplateHall withCopies(int records, int copies, int price, int... kinds) {
        BookplateHall hall = new BookplateHall();
        for (int number = 0; number < records; number++) {
            hall.record(NONE, 1, 0);
        }
        for (int number = 0; number < copies; number++) {
            hall.copy(0, price);
        }
        for (int kind : kinds) {
            hall.reader(kind);
        }
        return hall;
    }

    /** Names, and records without an author. */
    static BookplateHall withRecords(int names, int records) {
        BookplateHall hall = withNames(names);
        for (int number = 0; number < records; number++) {
            hall.record(NONE, 1, 0);
        }
        return hall;
    }

    /** One record; reader 0, of kind 0, lost copy 0 and owes 41 to 240 for it; the other copies are in; it is day 44. */
    static BookplateHall owing(int amount, int otherCopies) {
        BookplateHall hall = withCopies(1, 1, amount - 40, 0);
        for (int number = 0; number < otherCopies; number++) {
            hall.copy(0, 1);
        }
        hall.lend(0, 0);
        pass(hall, 44);
        return hall;
    }

    /** All that a library may hold: readers 0 to 3 are of kind 0, 4 to 7 of kind 1; copy k is of record k % 20. */
    static BookplateHall full() {
        BookplateHall hall = withRecords(16, 20);
        for (int number = 0; number < 30; number++) {
            hall.copy(number % 20, 10 + number);
        }
        for (int number = 0; number < 8; number++) {
            hall.reader(number / 4);
        }
        return hall;
    }

    /** More days than one call lets pass. */
    static void pass(BookplateHall hall, int days) {
        for (int left = days; left > 0; left -= 40) {
            hall.pass(Math.min(left, 40));
        }
    }
}
