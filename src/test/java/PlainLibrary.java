import java.util.ArrayList;
import java.util.Collections;
import java.util.LinkedHashSet;
import java.util.List;
import java.util.Set;

/**
 * The document written a second time, as plainly as the Java library allows, for RandomRunsTest to lay beside
 * BookplateHall. It shares no code with it, so that a slip in one of both shows.
 */
final class PlainLibrary {

    private static final int[] MAY_HAVE = {2, 4};
    private static final int[] DAYS = {14, 28};

    private enum Place { IN, LENT, ASIDE, LOST }

    private static final class Book {
        int author;
        int title;
        int year;
        int wentInto = -1;
        int lentItself;
        List<Integer> line = new ArrayList<>();
    }

    private static final class Item {
        int book;
        int price;
        Place place = Place.IN;
        int who = -1;
        int day = -1;
        int renewed;
    }

    private static final class Person {
        int kind;
        int owes;
    }

    private final List<Integer> variantOf = new ArrayList<>();
    private final List<Book> books = new ArrayList<>();
    private final List<Item> items = new ArrayList<>();
    private final List<Person> persons = new ArrayList<>();
    private int today;

    // ---- names and records

    int name() {
        state(variantOf.size() == 16);
        variantOf.add(-1);
        return variantOf.size() - 1;
    }

    int variant(int name, int of) {
        index(name, variantOf);
        index(of, variantOf);
        for (int step = of; step != -1; step = variantOf.get(step)) {
            state(step == name);
        }
        variantOf.set(name, of);
        return stands(name);
    }

    int stands(int name) {
        index(name, variantOf);
        return variantOf.get(name) == -1 ? name : stands(variantOf.get(name));
    }

    int record(int author, int title, int year) {
        if (author != -1) {
            index(author, variantOf);
        }
        argument(title < 1 || title > 4095 || year < 0 || year > 99);
        state(books.size() == 20);
        Book book = new Book();
        book.author = author;
        book.title = title;
        book.year = year;
        books.add(book);
        return books.size() - 1;
    }

    int ofRecord(int record, int what) {
        index(record, books);
        argument(what < 0 || what > 6);
        int live = live(record);
        return switch (what) {
            case 0 -> books.get(record).author;
            case 1 -> books.get(record).title;
            case 2 -> books.get(record).year;
            case 3 -> live;
            case 4 -> here(live);
            case 5 -> books.get(live).line.size();
            default -> lentEver(live);
        };
    }

    private int lentEver(int live) {
        int times = 0;
        for (int book = 0; book < books.size(); book++) {
            if (live(book) == live) {
                times += books.get(book).lentItself;
            }
        }
        return times;
    }

    int likeness(int one, int other) {
        index(one, books);
        index(other, books);
        Book a = books.get(one);
        Book b = books.get(other);
        int sum = 0;
        if (a.author == -1 && b.author == -1) {
            sum += 30;
        } else if (a.author != -1 && b.author != -1 && stands(a.author) == stands(b.author)) {
            sum += 30;
        }
        int both = 0;
        int either = 0;
        for (int word = 0; word < 12; word++) {
            boolean inA = (a.title >> word & 1) == 1;
            boolean inB = (b.title >> word & 1) == 1;
            both += inA && inB ? 1 : 0;
            either += inA || inB ? 1 : 0;
        }
        sum += 50 * both / either;
        int years = a.year > b.year ? a.year - b.year : b.year - a.year;
        return sum + (years >= 5 ? 0 : 20 - 4 * years);
    }

    int twin(int record, int least) {
        index(record, books);
        for (int likeness = 100; likeness >= 0 && likeness >= least; likeness--) {
            for (int other = 0; other < books.size(); other++) {
                if (live(other) == other && other != live(record) && likeness(record, other) == likeness) {
                    return other;
                }
            }
        }
        return -1;
    }

    int lay(int record, int into) {
        index(record, books);
        index(into, books);
        state(live(record) != record || live(into) != into || record == into);
        for (Item item : items) {
            if (item.book == record) {
                item.book = into;
            }
        }
        Set<Integer> line = new LinkedHashSet<>(books.get(into).line);
        for (int who : books.get(record).line) {
            if (!has(who, into)) {
                line.add(who);
            }
        }
        books.get(into).line = new ArrayList<>(line);
        books.get(record).line = new ArrayList<>();
        books.get(record).wentInto = into;
        for (int number = 0; number < items.size(); number++) {
            Item item = items.get(number);
            if (item.place == Place.ASIDE) {
                boolean waits = books.get(item.book).line.contains(item.who);
                boolean smaller = aside(item.who, item.book).get(0) < number;
                if (!waits || smaller) {
                    free(item);
                }
            }
        }
        for (Item item : items) {
            if (item.place == Place.IN) {
                free(item);
            }
        }
        return here(into);
    }

    int found(int words, int author) {
        if (author != -1) {
            index(author, variantOf);
        }
        argument(words < 0 || words > 4095);
        int count = 0;
        for (int number = 0; number < books.size(); number++) {
            Book book = books.get(number);
            boolean fits = author == -1 || book.author != -1 && stands(book.author) == stands(author);
            if (live(number) == number && (words & ~book.title) == 0 && fits) {
                count++;
            }
        }
        return count;
    }

    // ---- copies and readers

    int copy(int record, int price) {
        index(record, books);
        argument(price < 1 || price > 200);
        state(live(record) != record || items.size() == 30);
        Item item = new Item();
        item.book = record;
        item.price = price;
        items.add(item);
        free(item);
        return items.size() - 1;
    }

    int ofCopy(int copy, int what) {
        index(copy, items);
        argument(what < 0 || what > 6);
        Item item = items.get(copy);
        return switch (what) {
            case 0 -> item.book;
            case 1 -> item.place.ordinal();
            case 2 -> item.who;
            case 3 -> item.day;
            case 4 -> late(item, today);
            case 5 -> item.renewed;
            default -> item.price;
        };
    }

    int reader(int kind) {
        argument(kind != 0 && kind != 1);
        state(persons.size() == 8);
        Person person = new Person();
        person.kind = kind;
        persons.add(person);
        return persons.size() - 1;
    }

    int ofReader(int reader, int what) {
        index(reader, persons);
        argument(what < 0 || what > 6);
        int had = 0;
        int aside = 0;
        int late = 0;
        int fines = 0;
        for (Item item : items) {
            if (item.who == reader && item.place == Place.LENT) {
                had++;
                late += late(item, today) > 0 ? 1 : 0;
                fines += fine(item, today);
            }
            if (item.who == reader && item.place == Place.ASIDE) {
                aside++;
            }
        }
        int waits = 0;
        for (Book book : books) {
            waits += Collections.frequency(book.line, reader);
        }
        int[] facts = {persons.get(reader).kind, had, persons.get(reader).owes, waits, aside, late, fines};
        return facts[what];
    }

    int pay(int reader, int amount) {
        index(reader, persons);
        argument(amount < 1 || amount > persons.get(reader).owes);
        persons.get(reader).owes -= amount;
        return persons.get(reader).owes;
    }

    // ---- loans

    int reason(int reader, int copy) {
        index(reader, persons);
        index(copy, items);
        Item item = items.get(copy);
        boolean there = item.place == Place.IN || item.place == Place.ASIDE && item.who == reader;
        boolean[] so = {
            there,
            ofReader(reader, 1) < MAY_HAVE[persons.get(reader).kind],
            persons.get(reader).owes <= 50,
            ofReader(reader, 5) == 0,
        };
        for (int k = 0; k < so.length; k++) {
            if (!so[k]) {
                return k + 1;
            }
        }
        return 0;
    }

    int lend(int reader, int copy) {
        state(reason(reader, copy) != 0);
        Item item = items.get(copy);
        item.place = Place.LENT;
        item.who = reader;
        item.day = today + DAYS[persons.get(reader).kind];
        item.renewed = 0;
        books.get(item.book).lentItself++;
        stopWaiting(reader, item.book);
        return item.day;
    }

    int renew(int copy) {
        index(copy, items);
        Item item = items.get(copy);
        state(item.place != Place.LENT || late(item, today) > 0 || item.renewed == 2);
        state(!unserved(item.book).isEmpty());
        item.renewed++;
        item.day = today + DAYS[persons.get(item.who).kind];
        return item.day;
    }

    int back(int copy) {
        index(copy, items);
        Item item = items.get(copy);
        state(item.place != Place.LENT);
        int fine = fine(item, today);
        persons.get(item.who).owes += fine;
        free(item);
        return fine;
    }

    int find(int copy) {
        index(copy, items);
        Item item = items.get(copy);
        state(item.place != Place.LOST);
        Person person = persons.get(item.who);
        person.owes = person.owes < item.price ? 0 : person.owes - item.price;
        free(item);
        return person.owes;
    }

    // ---- waiting and days

    int await(int reader, int record) {
        index(reader, persons);
        index(record, books);
        int live = live(record);
        state(has(reader, live) || books.get(live).line.contains(reader));
        books.get(live).line.add(reader);
        for (Item item : items) {
            if (item.book == live && item.place == Place.IN) {
                putAside(item, reader);
                return items.indexOf(item);
            }
        }
        return -1;
    }

    int leave(int reader, int record) {
        index(reader, persons);
        index(record, books);
        int live = live(record);
        state(!books.get(live).line.contains(reader));
        stopWaiting(reader, live);
        return books.get(live).line.size();
    }

    int waiter(int record, int k) {
        index(record, books);
        List<Integer> line = books.get(live(record)).line;
        index(k, line);
        return line.get(k);
    }

    int pass(int days) {
        argument(days < 1 || days > 40);
        int before = many(8);
        for (int day = 1; day <= days; day++) {
            today++;
            for (Item item : items) {
                if (item.place == Place.ASIDE && item.day == today - 1) {
                    stopWaiting(item.who, item.book);
                }
                if (late(item, today) == 30) {
                    persons.get(item.who).owes += item.price + 40;
                    item.place = Place.LOST;
                    item.day = -1;
                    item.renewed = 0;
                }
            }
        }
        return many(8) - before;
    }

    int many(int what) {
        argument(what < 0 || what > 9);
        if (what >= 5 && what <= 8) {
            int count = 0;
            for (Item item : items) {
                count += item.place == Place.values()[what - 5] ? 1 : 0;
            }
            return count;
        }
        int live = 0;
        for (Book book : books) {
            live += book.wentInto == -1 ? 1 : 0;
        }
        int owed = 0;
        for (Person person : persons) {
            owed += person.owes;
        }
        int[] totals = {today, variantOf.size(), live, items.size(), persons.size(), 0, 0, 0, 0, owed};
        return totals[what];
    }

    double meanWaits() {
        double sum = 0;
        for (int reader = 0; reader < persons.size(); reader++) {
            sum += ofReader(reader, 3);
        }
        return persons.isEmpty() ? 0 : sum / persons.size();
    }

    // ---- what would be

    int fineIn(int copy, int days) {
        index(copy, items);
        argument(days < 0 || days > 60);
        Item item = items.get(copy);
        state(item.place != Place.LENT);
        return late(item, today + days) >= 30 ? item.price + 40 : fine(item, today + days);
    }

    int soon(int reader, int record) {
        index(reader, persons);
        index(record, books);
        int live = live(record);
        state(!books.get(live).line.contains(reader));
        if (!aside(reader, live).isEmpty()) {
            return 0;
        }
        // Each is {in how many days it is there, its number}.
        List<int[]> there = new ArrayList<>();
        for (int number = 0; number < items.size(); number++) {
            Item item = items.get(number);
            if (item.book == live && item.place == Place.LENT) {
                there.add(new int[] {late(item, today) > 0 ? 0 : item.day - today, number});
            } else if (item.book == live && item.place == Place.ASIDE) {
                there.add(new int[] {DAYS[persons.get(item.who).kind], number});
            }
        }
        for (int waiter : unserved(live)) {
            if (there.isEmpty()) {
                return -1;
            }
            there.sort((a, b) -> a[0] != b[0] ? Integer.compare(a[0], b[0]) : Integer.compare(a[1], b[1]));
            if (waiter == reader) {
                return there.get(0)[0];
            }
            there.get(0)[0] += DAYS[persons.get(waiter).kind];
        }
        throw new AssertionError("one who waits is served or not");
    }

    int mayBorrow(int reader) {
        index(reader, persons);
        int count = 0;
        for (int copy = 0; copy < items.size(); copy++) {
            count += reason(reader, copy) == 0 ? 1 : 0;
        }
        return count;
    }

    int lostIn(int days) {
        argument(days < 1 || days > 40);
        int count = 0;
        for (Item item : items) {
            count += late(item, today + days) >= 30 ? 1 : 0;
        }
        return count;
    }

    long digest() {
        List<Integer> values = new ArrayList<>();
        for (int what = 0; what < 10; what++) {
            values.add(many(what));
        }
        for (int name = 0; name < variantOf.size(); name++) {
            values.add(stands(name));
        }
        for (int record = 0; record < books.size(); record++) {
            for (int what = 0; what < 7; what++) {
                values.add(ofRecord(record, what));
            }
            values.addAll(books.get(live(record)).line);
        }
        for (int copy = 0; copy < items.size(); copy++) {
            for (int what = 0; what < 7; what++) {
                values.add(ofCopy(copy, what));
            }
        }
        for (int reader = 0; reader < persons.size(); reader++) {
            for (int what = 0; what < 7; what++) {
                values.add(ofReader(reader, what));
            }
            values.add(mayBorrow(reader));
        }
        values.add(lostIn(30));
        long sum = 982;
        for (int value : values) {
            sum = sum * 31 + value;
        }
        return sum;
    }

    // ---- what the calls share

    private int live(int record) {
        int into = books.get(record).wentInto;
        return into == -1 ? record : live(into);
    }

    private int here(int live) {
        int count = 0;
        for (Item item : items) {
            count += item.book == live && item.place != Place.LOST ? 1 : 0;
        }
        return count;
    }

    private boolean has(int who, int book) {
        for (Item item : items) {
            if (item.place == Place.LENT && item.who == who && item.book == book) {
                return true;
            }
        }
        return false;
    }

    private List<Integer> aside(int who, int book) {
        List<Integer> numbers = new ArrayList<>();
        for (int number = 0; number < items.size(); number++) {
            Item item = items.get(number);
            if (item.place == Place.ASIDE && item.who == who && item.book == book) {
                numbers.add(number);
            }
        }
        return numbers;
    }

    private List<Integer> unserved(int book) {
        List<Integer> some = new ArrayList<>();
        for (int who : books.get(book).line) {
            if (aside(who, book).isEmpty()) {
                some.add(who);
            }
        }
        return some;
    }

    private void free(Item item) {
        item.place = Place.IN;
        item.who = -1;
        item.day = -1;
        item.renewed = 0;
        List<Integer> some = unserved(item.book);
        if (!some.isEmpty()) {
            putAside(item, some.get(0));
        }
    }

    private void putAside(Item item, int who) {
        item.place = Place.ASIDE;
        item.who = who;
        item.day = today + 6;
    }

    private void stopWaiting(int who, int book) {
        books.get(book).line.remove(Integer.valueOf(who));
        for (int number : aside(who, book)) {
            free(items.get(number));
        }
    }

    private int late(Item item, int day) {
        return item.place == Place.LENT && day > item.day ? day - item.day : 0;
    }

    private int fine(Item item, int day) {
        int late = late(item, day);
        return late >= 20 ? 40 : 2 * late;
    }

    private static void index(int number, List<?> list) {
        if (number < 0 || number >= list.size()) {
            throw new IndexOutOfBoundsException();
        }
    }

    private static void argument(boolean wrong) {
        if (wrong) {
            throw new IllegalArgumentException();
        }
    }

    private static void state(boolean wrong) {
        if (wrong) {
            throw new IllegalStateException();
        }
    }
}
