/** Lays what a library tells of one thing beside what is due, number by number. */
final class Facts {

    static final int IN = 0;
    static final int LENT = 1;
    static final int ASIDE = 2;
    static final int LOST = 3;

    private Facts() {
    }

    static void ofRecord(BookplateHall hall, int record, int... due) {
        for (int what = 0; what < due.length; what++) {
            Check.same("ofRecord(" + record + ", " + what + ")", due[what], hall.ofRecord(record, what));
        }
    }

    static void ofCopy(BookplateHall hall, int copy, int... due) {
        for (int what = 0; what < due.length; what++) {
            Check.same("ofCopy(" + copy + ", " + what + ")", due[what], hall.ofCopy(copy, what));
        }
    }

    static void ofReader(BookplateHall hall, int reader, int... due) {
        for (int what = 0; what < due.length; what++) {
            Check.same("ofReader(" + reader + ", " + what + ")", due[what], hall.ofReader(reader, what));
        }
    }

    static void totals(BookplateHall hall, int... due) {
        for (int what = 0; what < due.length; what++) {
            Check.same("many(" + what + ")", due[what], hall.many(what));
        }
    }

    /** Where a copy is, the reader of it, and its day. */
    static void place(BookplateHall hall, int copy, int place, int reader, int day) {
        Check.same("the place of copy " + copy, place, hall.ofCopy(copy, 1));
        Check.same("the reader of copy " + copy, reader, hall.ofCopy(copy, 2));
        Check.same("the day of copy " + copy, day, hall.ofCopy(copy, 3));
    }

    /** All who wait for a record, in their order, and nobody behind them. */
    static void line(BookplateHall hall, int record, int... due) {
        Check.same("how many wait for " + record, due.length, hall.ofRecord(record, 5));
        for (int k = 0; k < due.length; k++) {
            Check.same("waiter(" + record + ", " + k + ")", due[k], hall.waiter(record, k));
        }
        Check.refuses(Check.INDEX, "the place behind the line", hall, () -> hall.waiter(record, due.length));
    }
}
