import java.math.BigInteger;
import java.util.ArrayList;
import java.util.List;

/** The checksum as the document tells it, of what the other calls answer. */
final class Checksum {

    private Checksum() {
    }

    static long wrapped(BookplateHall hall) {
        return whole(values(hall, hall)).longValue();
    }

    static BigInteger whole(List<Integer> values) {
        BigInteger whole = BigInteger.valueOf(982);
        for (int value : values) {
            whole = whole.multiply(BigInteger.valueOf(31)).add(BigInteger.valueOf(value));
        }
        return whole;
    }

    /** What the document names for the digest, in its order; two libraries of the same calls share the 512 calls. */
    static List<Integer> values(BookplateHall hall, BookplateHall same) {
        List<Integer> values = new ArrayList<>();
        for (int what = 0; what <= 9; what++) {
            values.add(hall.many(what));
        }
        for (int name = 0; name < values.get(1); name++) {
            values.add(hall.stands(name));
        }
        addRecords(values, hall);
        for (int copy = 0; copy < values.get(3); copy++) {
            for (int what = 0; what <= 6; what++) {
                values.add(same.ofCopy(copy, what));
            }
        }
        for (int reader = 0; reader < values.get(4); reader++) {
            for (int what = 0; what <= 6; what++) {
                values.add(same.ofReader(reader, what));
            }
            values.add(same.mayBorrow(reader));
        }
        values.add(same.lostIn(30));
        return values;
    }

    private static void addRecords(List<Integer> values, BookplateHall hall) {
        try {
            for (int record = 0; record < 20; record++) {
                for (int what = 0; what <= 6; what++) {
                    values.add(hall.ofRecord(record, what));
                }
                int waiters = values.get(values.size() - 2);
                for (int k = 0; k < waiters; k++) {
                    values.add(hall.waiter(record, k));
                }
            }
        } catch (IndexOutOfBoundsException none) {
            // No call tells how many records there are, live or not.
        }
    }
}
