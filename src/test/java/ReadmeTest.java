import java.io.IOException;
import java.lang.reflect.Method;
import java.nio.file.DirectoryStream;
import java.nio.file.Files;
import java.nio.file.Path;
import java.util.regex.Matcher;
import java.util.regex.Pattern;

/** README.md: the beast that it tells is one, its code stands below and answers as it says there, its table has each test. */
public final class ReadmeTest {
    private static final Path README = Path.of("README.md");
    private static final Path TESTS = Path.of("src/test/java");

    /** The i-th block of a language; the text ends there if there is none. */
    private static String block(String text, String language, int i) {
        String[] parts = text.split("```" + language + "\n");
        Due.is("block " + i + " of " + language, parts.length > i + 1, true);
        return parts.length > i + 1 ? parts[i + 1].split("```")[0] : "";
    }

    private static String squeezed(String text) {
        return text.replaceAll("\\s+", " ").trim();
    }

    private static TurtleBack told(String text) {
        TurtleBack x = new TurtleBack();
        for (int from = 0; from < text.length(); from += 20) {
            x.feed(four(text, from), four(text, from + 4), four(text, from + 8), four(text, from + 12), four(text, from + 16));
        }
        if (x.beast(text.length()) == TurtleBack.NONE) {
            System.out.println("trouble " + x.trouble() + ", fault " + x.fault() + " at " + x.where());
        }
        return x;
    }

    /** Four bytes as a number, the highest first; blanks behind the end. */
    private static int four(String text, int from) {
        int number = 0;
        for (int i = from; i < from + 4; i++) number = number << 8 | (i < text.length() ? text.charAt(i) & 255 : ' ');
        return number;
    }

    private static void theFirstCodeStandsHere(String readme) throws IOException {
        String here = squeezed(Files.readString(TESTS.resolve("ReadmeTest.java")));
        String code = squeezed(block(readme, "java", 0)).replace("static ", "private static ");
        Due.is("README.md's told() and four() are the ones above", here.contains(code), true);
    }

    /** Each call there is made, one behind the other, on the beast that is told there. */
    private static void theCallsAnswerAsItSays(String readme) throws ReflectiveOperationException {
        String text = squeezed(block(readme, "text", 0));
        TurtleBack x = told(text);
        Due.is("README.md's beast has scutes", x.size(0), 2);
        Matcher call = Pattern.compile("x\\.(\\w+)\\(([^)]*)\\);\\s+// (true|false|-?\\d+)").matcher(block(readme, "java", 1));
        int calls = 0;
        while (call.find()) {
            String answer = answerOf(x, call.group(1), call.group(2));
            Due.is(call.group() + " answered " + answer, answer.equals(call.group(3)), true);
            calls++;
        }
        Due.is("calls with an answer", calls > 15, true);
    }

    private static String answerOf(TurtleBack x, String name, String told) throws ReflectiveOperationException {
        String[] given = told.isEmpty() ? new String[0] : told.split(", *");
        for (Method m : TurtleBack.class.getDeclaredMethods()) {
            if (!m.getName().equals(name) || m.getParameterCount() != given.length) continue;
            Object[] values = new Object[given.length];
            for (int i = 0; i < values.length; i++) {
                boolean isNumber = m.getParameterTypes()[i] == int.class;
                values[i] = isNumber ? (Object) Integer.valueOf(given[i]) : (Object) Boolean.valueOf(given[i]);
            }
            return String.valueOf(m.invoke(x, values));
        }
        return "no such call";
    }

    private static void itsTableHasEachTest(String readme) throws IOException {
        try (DirectoryStream<Path> tests = Files.newDirectoryStream(TESTS, "*Test.java")) {
            for (Path test : tests) {
                String name = test.getFileName().toString().replace(".java", "");
                Due.is("README.md tells of " + name, readme.contains("| `" + name + "` |"), true);
            }
        }
        Matcher row = Pattern.compile("(?m)^\\| `(\\w+)` \\|").matcher(readme);
        while (row.find()) {
            Due.is(row.group(1) + " is there", Files.exists(TESTS.resolve(row.group(1) + ".java")), true);
        }
    }

    public static void main(String[] args) throws Exception {
        String readme = Files.readString(README);
        theFirstCodeStandsHere(readme);
        theCallsAnswerAsItSays(readme);
        itsTableHasEachTest(readme);
        Due.end();
    }
}
