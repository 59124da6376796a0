import java.io.IOException;
import java.lang.reflect.Constructor;
import java.lang.reflect.Field;
import java.lang.reflect.Method;
import java.lang.reflect.Modifier;
import java.nio.file.Files;
import java.nio.file.Path;
import java.util.ArrayList;
import java.util.Collections;
import java.util.HashSet;
import java.util.List;
import java.util.Set;

/** The public face, and those rules of the language that a look at the class or at its source can tell. */
public final class FaceTest {

    private static final String INDEX = " IndexOutOfBoundsException";
    private static final String ARGUMENT = " IllegalArgumentException";
    private static final String STATE = " IllegalStateException";

    private static final String[] FACE = {
        "int name()" + STATE,
        "int variant(int,int)" + INDEX + STATE,
        "int stands(int)" + INDEX,
        "int record(int,int,int)" + INDEX + ARGUMENT + STATE,
        "int ofRecord(int,int)" + INDEX + ARGUMENT,
        "int likeness(int,int)" + INDEX,
        "int twin(int,int)" + INDEX,
        "int lay(int,int)" + INDEX + STATE,
        "int found(int,int)" + INDEX + ARGUMENT,
        "int copy(int,int)" + INDEX + ARGUMENT + STATE,
        "int ofCopy(int,int)" + INDEX + ARGUMENT,
        "int reader(int)" + ARGUMENT + STATE,
        "int ofReader(int,int)" + INDEX + ARGUMENT,
        "int pay(int,int)" + INDEX + ARGUMENT,
        "int reason(int,int)" + INDEX,
        "int lend(int,int)" + INDEX + STATE,
        "int renew(int)" + INDEX + STATE,
        "int back(int)" + INDEX + STATE,
        "int find(int)" + INDEX + STATE,
        "int await(int,int)" + INDEX + STATE,
        "int leave(int,int)" + INDEX + STATE,
        "int waiter(int,int)" + INDEX,
        "int pass(int)" + ARGUMENT,
        "int many(int)" + ARGUMENT,
        "double meanWaits()",
        "int fineIn(int,int)" + INDEX + ARGUMENT + STATE,
        "int soon(int,int)" + INDEX + STATE,
        "int mayBorrow(int)" + INDEX,
        "int lostIn(int)" + ARGUMENT,
        "long digest()",
    };

    /** What the language leaves out, as it would stand in the source. */
    private static final String[] LEFT_OUT = {
        "package ", "::", "finally", "synchronized", "assert ", "static {", "getMessage", "printStackTrace",
        "catch (RuntimeException", "catch (Exception", "catch (Throwable", "NullPointerException",
        "ArrayIndexOutOfBoundsException", "ClassCastException", "NegativeArraySizeException", "ArrayStoreException",
        "Exact(", "hashCode", "System.out", "System.err", "System.in", "nanoTime", "currentTimeMillis", "Random",
        "Thread",
    };

    private FaceTest() {
    }

    public static void main(String[] args) throws IOException {
        theClass();
        theMethods();
        noPrivateMethodBearsAPublicName();
        theFields();
        theClassesInside();
        theSource();
        Check.end("FaceTest");
    }

    private static void theClass() {
        int modifiers = BookplateHall.class.getModifiers();
        Check.holds("public final", Modifier.isPublic(modifiers) && Modifier.isFinal(modifiers));
        Constructor<?>[] constructors = BookplateHall.class.getDeclaredConstructors();
        Check.same("constructors", 1, constructors.length);
        Check.holds("a public constructor", Modifier.isPublic(constructors[0].getModifiers()));
        Check.same("its parameters", 0, constructors[0].getParameterCount());
    }

    private static void theMethods() {
        List<String> due = new ArrayList<>(List.of(FACE));
        List<String> got = new ArrayList<>();
        for (Method method : BookplateHall.class.getDeclaredMethods()) {
            if (!Modifier.isPrivate(method.getModifiers())) {
                Check.holds(method + " is public and of the object",
                        Modifier.isPublic(method.getModifiers()) && !Modifier.isStatic(method.getModifiers()));
                got.add(told(method));
            }
        }
        Collections.sort(due);
        Collections.sort(got);
        Check.same("the face", due, got);
    }

    private static String told(Method method) {
        List<String> parameters = new ArrayList<>();
        for (Class<?> parameter : method.getParameterTypes()) {
            parameters.add(parameter.getSimpleName());
        }
        StringBuilder text = new StringBuilder();
        text.append(method.getReturnType().getSimpleName()).append(' ').append(method.getName());
        text.append('(').append(String.join(",", parameters)).append(')');
        for (Class<?> exception : method.getExceptionTypes()) {
            text.append(' ').append(exception.getSimpleName());
        }
        return text.toString();
    }

    private static void noPrivateMethodBearsAPublicName() {
        Set<String> open = new HashSet<>();
        for (Method method : BookplateHall.class.getMethods()) {
            open.add(method.getName());
        }
        for (Method method : BookplateHall.class.getDeclaredMethods()) {
            Check.holds(method + " has a name of its own",
                    !Modifier.isPrivate(method.getModifiers()) || !open.contains(method.getName()));
        }
    }

    private static void theFields() {
        for (Field field : BookplateHall.class.getDeclaredFields()) {
            Check.holds(field + " is private", Modifier.isPrivate(field.getModifiers()));
        }
        checkFields(BookplateHall.class);
        for (Class<?> inside : BookplateHall.class.getDeclaredClasses()) {
            checkFields(inside);
        }
    }

    private static void checkFields(Class<?> owner) {
        int count = 0;
        for (Field field : owner.getDeclaredFields()) {
            if (Modifier.isStatic(field.getModifiers())) {
                Check.holds(field + " is final", Modifier.isFinal(field.getModifiers()));
            } else {
                count++;
            }
        }
        Check.holds(owner + " has twenty fields or fewer", count <= 20);
    }

    private static void theClassesInside() {
        Class<?>[] inside = BookplateHall.class.getDeclaredClasses();
        Check.holds("twelve classes or fewer", inside.length <= 12);
        for (Class<?> one : inside) {
            int modifiers = one.getModifiers();
            Check.holds(one + " is private or package-visible",
                    !Modifier.isPublic(modifiers) && !Modifier.isProtected(modifiers));
        }
    }

    private static void theSource() throws IOException {
        String source = Files.readString(Path.of("src/main/java/BookplateHall.java"));
        for (String text : LEFT_OUT) {
            Check.holds("the source is without " + text, !source.contains(text));
        }
        for (int place = 0; place < source.length(); place++) {
            if (source.charAt(place) > 127) {
                Check.holds("sign " + place + " of the source is plain", false);
            }
        }
    }
}
