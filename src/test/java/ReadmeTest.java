import java.io.IOException;
import java.lang.reflect.Method;
import java.lang.reflect.Modifier;
import java.nio.file.Files;
import java.nio.file.Path;
import java.util.ArrayList;
import java.util.LinkedHashMap;
import java.util.List;
import java.util.Map;
import java.util.Set;
import java.util.TreeSet;
import java.util.regex.Matcher;
import java.util.regex.Pattern;

/** What README.md shows is what the class does. */
public final class ReadmeTest {

    private static final Path README = Path.of("README.md");
    private static final Path THIS = Path.of("src/test/java/ReadmeTest.java");

    private static final Pattern LINE_WITH_ANSWER = Pattern.compile("int (\\w+) = .*; +// (-?\\d+).*");
    private static final Pattern CALL = Pattern.compile("`(\\w+)`");

    private static final Set<String> CHANGING = Set.of("name", "variant", "record", "lay", "copy", "reader", "pay",
            "lend", "renew", "back", "find", "await", "leave", "pass");

    private ReadmeTest() {
    }

    public static void main(String[] args) throws IOException {
        List<String> shown = between(Files.readAllLines(README), "```java", "```");
        List<String> run = between(Files.readAllLines(THIS), "// the example begins", "// the example ends");
        Check.same("the example that README.md shows", run, shown);
        theExampleAnswersWhatItSays(shown);
        theTableNamesEachCall();
        Check.end("ReadmeTest");
    }

    private static void theExampleAnswersWhatItSays(List<String> shown) {
        Map<String, Integer> got = answersOfTheExample();
        int answers = 0;
        for (String line : shown) {
            Matcher matcher = LINE_WITH_ANSWER.matcher(line);
            if (matcher.matches()) {
                Check.same("the example's " + matcher.group(1), Integer.valueOf(matcher.group(2)),
                        got.get(matcher.group(1)));
                answers++;
            }
        }
        Check.same("lines of the example that tell an answer", got.size(), answers);
    }

    private static Map<String, Integer> answersOfTheExample() {
        // the example begins
        BookplateHall hall = new BookplateHall();
        int author = hall.name();                     // 0
        int record = hall.record(author, 0b101, 62);  // 0: words 0 and 2, year 62
        int copy = hall.copy(record, 50);             // 0: its price is 50
        int ann = hall.reader(0);                     // 0: two copies, 14 days each
        int bob = hall.reader(1);                     // 1: four copies, 28 days each
        int due = hall.lend(ann, copy);               // 14
        int aside = hall.await(bob, record);          // -1: no copy is on the shelf
        int soon = hall.soon(bob, record);            // 14
        int lost = hall.pass(15);                     // 0
        int fine = hall.back(copy);                   // 2: it was late for a day
        int place = hall.ofCopy(copy, 1);             // 2: aside, as bob waits for it
        int reason = hall.reason(ann, copy);          // 1: it is aside for somebody else
        int dueOfBob = hall.lend(bob, copy);          // 43
        int left = hall.pay(ann, 2);                  // 0
        // the example ends
        Map<String, Integer> answers = new LinkedHashMap<>();
        answers.put("author", author);
        answers.put("record", record);
        answers.put("copy", copy);
        answers.put("ann", ann);
        answers.put("bob", bob);
        answers.put("due", due);
        answers.put("aside", aside);
        answers.put("soon", soon);
        answers.put("lost", lost);
        answers.put("fine", fine);
        answers.put("place", place);
        answers.put("reason", reason);
        answers.put("dueOfBob", dueOfBob);
        answers.put("left", left);
        return answers;
    }

    /** Its second column has the calls that change something, its third those that only tell. */
    private static void theTableNamesEachCall() throws IOException {
        Set<String> changing = new TreeSet<>();
        Set<String> telling = new TreeSet<>();
        for (String line : Files.readAllLines(README)) {
            String[] cells = line.split("\\|");
            if (line.startsWith("|") && cells.length == 4) {
                gatherCalls(cells[2], changing);
                gatherCalls(cells[3], telling);
            }
        }
        Set<String> others = callsOfTheFace();
        others.removeAll(CHANGING);
        Check.same("the calls that change something", new TreeSet<>(CHANGING), changing);
        Check.same("the calls that only tell", others, telling);
    }

    private static void gatherCalls(String cell, Set<String> calls) {
        Matcher matcher = CALL.matcher(cell);
        while (matcher.find()) {
            calls.add(matcher.group(1));
        }
    }

    private static Set<String> callsOfTheFace() {
        Set<String> calls = new TreeSet<>();
        for (Method method : BookplateHall.class.getDeclaredMethods()) {
            if (Modifier.isPublic(method.getModifiers())) {
                calls.add(method.getName());
            }
        }
        return calls;
    }

    /** The lines behind one and ahead of the other, without the space around them. */
    private static List<String> between(List<String> lines, String begin, String end) {
        List<String> found = new ArrayList<>();
        boolean inside = false;
        for (String line : lines) {
            String text = line.strip();
            if (text.equals(end)) {
                inside = false;
            }
            if (inside) {
                found.add(text);
            }
            if (text.equals(begin)) {
                inside = true;
            }
        }
        return found;
    }
}
