import java.io.IOException;
import java.lang.reflect.Constructor;
import java.lang.reflect.Field;
import java.lang.reflect.Method;
import java.lang.reflect.Modifier;
import java.nio.file.Files;
import java.nio.file.Path;
import java.util.Arrays;
import java.util.Set;
import java.util.TreeSet;
import java.util.regex.Matcher;
import java.util.regex.Pattern;

/** The public face, the constants, arguments of every kind, and those rules of the language that a text search can see. */
public final class FaceTest {
    private static final Check CHECK = new Check("FaceTest");
    private static final int[] NUMBERS = {
        Integer.MIN_VALUE, Integer.MIN_VALUE + 1, -1000, -10, -9, -8, -2, -1, 0, 1, 2, 3, 4, 5, 6, 7, 8, 9, 10,
        15, 16, 31, 32, 40, 41, 50, 60, 63, 64, 100, 126, 127, 170, 220, 256, 1 << 16, Integer.MAX_VALUE
    };
    private static final Set<String> FACE = Set.of(
        "int add(int, int)", "int remove(int)", "int set(int, int)", "int test(int)", "int place(int, int)",
        "int placeAll()", "int attendance()", "int hold()", "int undo()", "int write(int)", "int wipe()",
        "int fault(int)", "int told(int)", "int setting(int)", "int singer(int, int)", "int note(int, int)",
        "int overlap(int, int)", "int part(int, int)", "int seat(int, int)", "int solo(int, int)", "float mean()",
        "int standIn(int)", "int passedOver(int)", "int without(int)", "int keep(int)", "int back(int)");

    public static void main(String[] args) throws Exception {
        constants();
        members();
        source();
        anyArguments();
        CHECK.end();
    }

    private static void constants() {
        CHECK.due("BAD", ChoirBook.BAD, -1);
        CHECK.due("STATE", ChoirBook.STATE, -2);
        CHECK.due("FULL", ChoirBook.FULL, -3);
        CHECK.due("NONE", ChoirBook.NONE, -9);
    }

    private static String name(Method method) {
        StringBuilder types = new StringBuilder();
        for (Class<?> type : method.getParameterTypes()) {
            types.append(types.length() == 0 ? "" : ", ").append(type.getName());
        }
        return method.getReturnType().getName() + " " + method.getName() + "(" + types + ")";
    }

    private static void members() {
        Set<String> methods = new TreeSet<>();
        Set<String> names = new TreeSet<>();
        for (Method method : ChoirBook.class.getDeclaredMethods()) {
            if (Modifier.isPublic(method.getModifiers())) {
                methods.add(name(method));
                names.add(method.getName());
            }
        }
        CHECK.dueTrue("the public methods are the document's: " + methods, methods.equals(FACE));
        for (Method method : ChoirBook.class.getDeclaredMethods()) {
            int modifiers = method.getModifiers();
            CHECK.dueTrue(method + " is public or private", Modifier.isPublic(modifiers) || Modifier.isPrivate(modifiers));
            CHECK.dueTrue(method + " has a name of its own", Modifier.isPublic(modifiers) || !names.contains(method.getName()));
        }
        Set<String> constants = new TreeSet<>();
        for (Field field : ChoirBook.class.getDeclaredFields()) {
            if (Modifier.isPublic(field.getModifiers())) {
                constants.add(field.getName());
            } else {
                CHECK.dueTrue(field + " is private", Modifier.isPrivate(field.getModifiers()));
            }
            if (Modifier.isStatic(field.getModifiers())) {
                CHECK.dueTrue(field + " is final", Modifier.isFinal(field.getModifiers()));
            }
        }
        CHECK.dueTrue("the constants are the document's: " + constants, constants.equals(Set.of("BAD", "STATE", "FULL", "NONE")));
        Constructor<?>[] constructors = ChoirBook.class.getDeclaredConstructors();
        CHECK.due("constructors", constructors.length, 1);
        CHECK.dueTrue("a public one", Modifier.isPublic(constructors[0].getModifiers()));
        CHECK.dueTrue("a final class", Modifier.isFinal(ChoirBook.class.getModifiers()));
        for (Class<?> inside : ChoirBook.class.getDeclaredClasses()) {
            CHECK.dueTrue(inside + " is static", Modifier.isStatic(inside.getModifiers()));
            CHECK.dueTrue(inside + " is not public", !Modifier.isPublic(inside.getModifiers()) && !Modifier.isProtected(inside.getModifiers()));
            for (Method method : inside.getDeclaredMethods()) {
                CHECK.dueTrue(method + " has a name of its own", !names.contains(method.getName()));
            }
        }
    }

    private static void source() throws IOException {
        String source = Files.readString(Path.of("src/main/java/ChoirBook.java"));
        CHECK.dueTrue("signs of ASCII alone", source.chars().allMatch(c -> c == '\n' || c >= 32 && c < 127));
        String code = source.replaceAll("(?s)/\\*.*?\\*/", "").replaceAll("//[^\n]*", "");
        String[] never = {
            "import", "package", "try", "catch", "finally", "throw", "throws", "assert", "synchronized", "native",
            "equals", "hashCode", "toString", "double", "instanceof", "volatile", "transient", "System\\.(?!arraycopy)\\w+",
            "->", "::", "Math\\.(?!min|max)\\w+"
        };
        for (String word : never) {
            String pattern = Character.isLetter(word.charAt(0)) ? "\\b" + word + "\\b" : word;
            CHECK.dueTrue("the code has no '" + word + "'", !Pattern.compile(pattern).matcher(code).find());
        }
        objectsAreMadeInConstructorsAlone(code);
    }

    /** What a run makes is counted: so no call but a constructor makes an object. */
    private static void objectsAreMadeInConstructorsAlone(String code) {
        String[] lines = code.split("\n");
        Pattern head = Pattern.compile("^ {4,8}(?:private |public |static |final )*((?:[\\w\\[\\]]+ )?)(\\w+)\\([^;]*\\{$");
        boolean constructor = false;
        for (String line : lines) {
            Matcher matcher = head.matcher(line);
            if (matcher.find() && !Arrays.asList("for", "if", "while", "switch").contains(matcher.group(2))) {
                constructor = matcher.group(1).isEmpty();
            }
            CHECK.dueTrue("made in a constructor: " + line.trim(), constructor || !line.contains("new "));
        }
    }

    /** Nothing reaches the caller, whatever the arguments; each method is called in an empty book and in a full one. */
    private static void anyArguments() throws Exception {
        for (Method method : ChoirBook.class.getDeclaredMethods()) {
            if (!Modifier.isPublic(method.getModifiers())) {
                continue;
            }
            for (int singers = 0; singers <= 10; singers += 5) {
                int parameters = method.getParameterCount();
                for (int a : NUMBERS) {
                    ChoirBook book = busy(singers);
                    if (parameters < 2) {
                        call(book, method, parameters == 0 ? new Object[0] : new Object[] {a});
                        continue;
                    }
                    for (int b : NUMBERS) {
                        call(book, method, new Object[] {a, b});
                    }
                }
            }
        }
    }

    private static ChoirBook busy(int singers) {
        ChoirBook book = new ChoirBook();
        for (int i = 0; i < singers; i++) {
            Check.join(book, 1 + i % 9, 100 + 7 * i, "4-36");
        }
        book.placeAll();
        book.hold();
        book.keep(1);
        Check.text(book, "1 3");
        return book;
    }

    private static void call(ChoirBook book, Method method, Object[] arguments) throws Exception {
        try {
            method.invoke(book, arguments);
        } catch (java.lang.reflect.InvocationTargetException e) {
            CHECK.dueTrue(method.getName() + Arrays.toString(arguments) + " threw " + e.getCause(), false);
        }
    }
}
