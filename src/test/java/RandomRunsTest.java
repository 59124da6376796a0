import java.util.ArrayList;
import java.util.List;
import java.util.Random;

/** Long runs of calls, the same ones each time, with each answer laid beside that of PlainLibrary. */
public final class RandomRunsTest {

    private static final int RUNS = 600;
    // With those that open a library and the digests between, no library is asked more than 512 times.
    private static final int CALLS = 360;
    private static final int CALLS_BETWEEN_DIGESTS = 3;
    private static final int KINDS_OF_CALLS = 30;

    private final Random random;
    private final BookplateHall hall = new BookplateHall();
    private final PlainLibrary plain = new PlainLibrary();
    private final int busyRecords;
    private final int longestPass;

    private RandomRunsTest(long seed) {
        random = new Random(seed);
        busyRecords = 1 + random.nextInt(6);
        longestPass = random.nextBoolean() ? 8 : 40;
    }

    public static void main(String[] args) {
        int[] answered = new int[KINDS_OF_CALLS];
        int[] refused = new int[KINDS_OF_CALLS];
        for (long seed = 1; seed <= RUNS; seed++) {
            String fault = new RandomRunsTest(seed).run(answered, refused);
            if (fault != null) {
                Check.holds("run " + seed + ": " + fault, false);
                break;
            }
        }
        for (int kind = 0; kind < KINDS_OF_CALLS; kind++) {
            boolean neverThrows = kind == 10 || kind == 25;
            Check.holds("call " + kind + " is answered often", answered[kind] > 100);
            Check.holds("call " + kind + " is refused too", neverThrows || refused[kind] > 5);
        }
        Check.end("RandomRunsTest");
    }

    private String run(int[] answered, int[] refused) {
        List<String> told = new ArrayList<>();
        open();
        for (int call = 0; call < CALLS; call++) {
            int kind = kindOfCall();
            int a = argument(kind, 0);
            int b = argument(kind, 1);
            int c = argument(kind, 2);
            String due = told(() -> onPlain(kind, a, b, c));
            String got = told(() -> onHall(kind, a, b, c));
            told.add(kind + "(" + a + ", " + b + ", " + c + ") " + due);
            if (due.startsWith("throws")) {
                refused[kind]++;
            } else {
                answered[kind]++;
            }
            if (!due.equals(got)) {
                return told + " got " + got;
            }
            if (call % CALLS_BETWEEN_DIGESTS == 0 && hall.digest() != plain.digest()) {
                return told + " differs in its digest";
            }
        }
        return null;
    }

    /** A library that has something to lend, so that few calls are lost on an empty one. */
    private void open() {
        for (int number = 0; number < busyRecords; number++) {
            int title = 1 + random.nextInt(4095);
            hall.record(-1, title, number);
            plain.record(-1, title, number);
        }
        for (int number = random.nextInt(8); number >= 0; number--) {
            int kind = random.nextInt(2);
            hall.reader(kind);
            plain.reader(kind);
        }
        for (int number = random.nextInt(10); number >= 0; number--) {
            int record = random.nextInt(busyRecords);
            hall.copy(record, 1 + number);
            plain.copy(record, 1 + number);
        }
    }

    private int kindOfCall() {
        int[] busy = {16, 16, 16, 16, 17, 18, 18, 19, 20, 20, 20, 20, 21, 23, 23, 14, 27};
        int[] rare = {0, 1, 3, 7, 9, 11};
        int draw = random.nextInt(10);
        if (draw < 6) {
            return busy[random.nextInt(busy.length)];
        }
        if (draw == 6) {
            return rare[random.nextInt(rare.length)];
        }
        int kind = random.nextInt(KINDS_OF_CALLS);
        boolean laysTooOften = kind == 7 && random.nextInt(4) > 0;
        return laysTooOften ? 22 : kind;
    }

    /** Mostly a number that is allowed; now and then one at an edge, or beyond. */
    private int argument(int kind, int place) {
        int draw = random.nextInt(60);
        if (draw == 0) {
            int[] edges = {-2, -1, 7, 8, 10, 16, 20, 30, 41, 61, 100, 201, 4096,
                Integer.MIN_VALUE, Integer.MAX_VALUE};
            return edges[random.nextInt(edges.length)];
        }
        switch (kind * 10 + place) {
            case 10: case 11: case 20:
                return random.nextInt(Math.max(1, plain.many(1)));
            case 30: case 81: case 91:
                return kind == 9 ? 1 + random.nextInt(200) : random.nextInt(plain.many(1) + 1) - 1;
            case 31:
                return 1 + random.nextInt(random.nextBoolean() ? 7 : 4095);
            case 32:
                return random.nextInt(random.nextBoolean() ? 6 : 100);
            case 41: case 111: case 131:
                return random.nextInt(7);
            case 61:
                return random.nextInt(101);
            case 80:
                return random.nextInt(16);
            case 120:
                return random.nextInt(2);
            case 141:
                return 1 + random.nextInt(30);
            case 221:
                return random.nextInt(4);
            case 230: case 290:
                return 1 + random.nextInt(kind == 29 ? 40 : longestPass);
            case 240:
                return random.nextInt(10);
            case 261:
                return random.nextInt(61);
            default:
                return thing(kind, place);
        }
    }

    private int thing(int kind, int place) {
        boolean record = kind == 3 || kind >= 4 && kind <= 7 || kind == 9 || kind == 22
                || (kind == 20 || kind == 21 || kind == 27) && place == 1;
        boolean copy = kind == 11 || kind >= 17 && kind <= 19 || kind == 26
                || (kind == 15 || kind == 16) && place == 1;
        if (record) {
            return random.nextBoolean() ? random.nextInt(busyRecords) : random.nextInt(20);
        }
        return random.nextInt(Math.max(1, copy ? plain.many(3) : plain.many(4)));
    }

    private interface Call {
        Object answer();
    }

    private static String told(Call call) {
        try {
            return String.valueOf(call.answer());
        } catch (RuntimeException thrown) {
            return "throws " + thrown.getClass().getName();
        }
    }

    private Object onHall(int kind, int a, int b, int c) {
        switch (kind) {
            case 0: return hall.name();
            case 1: return hall.variant(a, b);
            case 2: return hall.stands(a);
            case 3: return hall.record(a, b, c);
            case 4: return hall.ofRecord(a, b);
            case 5: return hall.likeness(a, b);
            case 6: return hall.twin(a, b);
            case 7: return hall.lay(a, b);
            case 8: return hall.found(a, b);
            case 9: return hall.copy(a, b);
            case 10: return hall.digest();
            case 11: return hall.ofCopy(a, b);
            case 12: return hall.reader(a);
            case 13: return hall.ofReader(a, b);
            case 14: return hall.pay(a, b);
            case 15: return hall.reason(a, b);
            case 16: return hall.lend(a, b);
            case 17: return hall.renew(a);
            case 18: return hall.back(a);
            case 19: return hall.find(a);
            case 20: return hall.await(a, b);
            case 21: return hall.leave(a, b);
            case 22: return hall.waiter(a, b);
            case 23: return hall.pass(a);
            case 24: return hall.many(a);
            case 25: return hall.meanWaits();
            case 26: return hall.fineIn(a, b);
            case 27: return hall.soon(a, b);
            case 28: return hall.mayBorrow(a);
            default: return hall.lostIn(a);
        }
    }

    private Object onPlain(int kind, int a, int b, int c) {
        switch (kind) {
            case 0: return plain.name();
            case 1: return plain.variant(a, b);
            case 2: return plain.stands(a);
            case 3: return plain.record(a, b, c);
            case 4: return plain.ofRecord(a, b);
            case 5: return plain.likeness(a, b);
            case 6: return plain.twin(a, b);
            case 7: return plain.lay(a, b);
            case 8: return plain.found(a, b);
            case 9: return plain.copy(a, b);
            case 10: return plain.digest();
            case 11: return plain.ofCopy(a, b);
            case 12: return plain.reader(a);
            case 13: return plain.ofReader(a, b);
            case 14: return plain.pay(a, b);
            case 15: return plain.reason(a, b);
            case 16: return plain.lend(a, b);
            case 17: return plain.renew(a);
            case 18: return plain.back(a);
            case 19: return plain.find(a);
            case 20: return plain.await(a, b);
            case 21: return plain.leave(a, b);
            case 22: return plain.waiter(a, b);
            case 23: return plain.pass(a);
            case 24: return plain.many(a);
            case 25: return plain.meanWaits();
            case 26: return plain.fineIn(a, b);
            case 27: return plain.soon(a, b);
            case 28: return plain.mayBorrow(a);
            default: return plain.lostIn(a);
        }
    }
}
