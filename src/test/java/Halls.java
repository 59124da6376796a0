/** Small libraries for a test to begin with. */
final class Halls {

    private static final int NONE = -1;

    private Halls() {
    }

    static BookplateHall withNames(int count) {
        BookplateHall hall = new BookplateHall();
        for (int number = 0; number < count; number++) {
            hall.name();
        }
        return hall;
    }

    /** Records without an author, and a reader of each of these kinds. */
    static BookplateHall withReaders(int records, int... kinds) {
        return withCopies(records, 0, 1, kinds);
    }

    /** As withReaders, with copies of record 0. */
    static BookplateHall withCopies(int records, int copies, int price, int... kinds) {
        BookplateHall hall = new BookplateHall();
        for (int number = 0; number < records; number++) {
            hall.record(NONE, 1, 0);
        }
        for (int number = 0; number < copies; number++) {
            hall.copy(0, price);
        }
        for (int kind : kinds) {
            hall.reader(kind);
        }
        return hall;
    }
}
