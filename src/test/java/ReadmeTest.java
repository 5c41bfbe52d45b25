import java.lang.reflect.Method;
import java.nio.file.Files;
import java.nio.file.Path;
import java.util.regex.Matcher;
import java.util.regex.Pattern;

/** The calls that README.md shows, with the answers that it tells behind "//". */
public final class ReadmeTest {
    private static final String BEGIN = "ChoirBook book = new ChoirBook();\n";
    private static final Pattern TEXT = Pattern.compile("text\\(book, \"(.*)\"\\);");
    private static final Pattern CALL = Pattern.compile("book\\.(\\w+)\\(([\\d, ]*)\\); +// (-?\\d+)(:.*)?");
    private static final Check CHECK = new Check("ReadmeTest");

    public static void main(String[] args) throws Exception {
        String readme = Files.readString(Path.of("README.md"));
        int begin = readme.indexOf(BEGIN);
        CHECK.dueTrue("README.md shows how a book is made", begin >= 0);
        int calls = begin < 0 ? 0 : shown(readme.substring(begin + BEGIN.length(), readme.indexOf("```", begin)));
        CHECK.dueTrue("README.md shows calls", calls > 0);
        CHECK.end();
    }

    private static int shown(String example) throws Exception {
        ChoirBook book = new ChoirBook();
        int calls = 0;
        for (String line : example.split("\n")) {
            Matcher text = TEXT.matcher(line);
            Matcher call = CALL.matcher(line);
            if (text.matches()) {
                Check.text(book, text.group(1));
            } else if (call.matches()) {
                CHECK.dueTrue(line, answer(book, call.group(1), call.group(2)) == Double.parseDouble(call.group(3)));
                calls++;
            } else {
                CHECK.dueTrue("a call with its answer: " + line, false);
            }
        }
        return calls;
    }

    private static double answer(ChoirBook book, String name, String list) throws Exception {
        String[] words = list.isEmpty() ? new String[0] : list.split(", ");
        Object[] arguments = new Object[words.length];
        Class<?>[] types = new Class<?>[words.length];
        for (int i = 0; i < words.length; i++) {
            arguments[i] = Integer.valueOf(words[i]);
            types[i] = int.class;
        }
        Method method = ChoirBook.class.getMethod(name, types);
        return ((Number) method.invoke(book, arguments)).doubleValue();
    }
}
