import java.io.IOException;
import java.lang.reflect.Constructor;
import java.lang.reflect.Field;
import java.lang.reflect.Method;
import java.lang.reflect.Modifier;
import java.nio.file.Files;
import java.nio.file.Path;
import java.util.ArrayList;
import java.util.Arrays;
import java.util.HashSet;
import java.util.List;
import java.util.Set;
import java.util.TreeSet;
import java.util.regex.Matcher;
import java.util.regex.Pattern;

/** The face of the document, and those rules of LANGUAGE.md that can be looked at from outside. */
public final class RulesTest {
    private static final String[] FACE = {
        "int feed(int,int,int,int,int)", "int beast(int)", "int fault()", "int where()", "boolean seed(int)",
        "int days(int)", "int now(int)", "int pleased()", "int log(int,int)", "int house(int,int)",
        "int family(int,int)", "int scute(int,int)", "int list()", "int pitch()", "int judge()", "int lost()",
        "boolean move(int,int)", "boolean tie(int,boolean)", "boolean pay(int)", "boolean scrape(int)",
        "boolean undo()", "int trim(int,int)", "int trimAt(int,int,int)", "int helm()", "int steer(int,int)",
        "int turn(int,int,int)", "long ways(int,int,int)", "int may(int)", "int span(int,int)",
        "int seen(int,int,int)", "int fits()", "int was(int,int)", "int save(int)", "int saved(int)", "int must()",
        "int shelter()", "int image()", "boolean restore(int)", "int led(int)", "int size(int)", "int trouble()",
    };

    private static String faceOf(Method m) {
        List<String> types = new ArrayList<>();
        for (Class<?> type : m.getParameterTypes()) types.add(type.getName());
        return m.getReturnType().getName() + " " + m.getName() + "(" + String.join(",", types) + ")";
    }

    private static void theFace() throws NoSuchMethodException {
        Set<String> found = new TreeSet<>();
        Set<String> names = new HashSet<>();
        for (Method m : TurtleBack.class.getDeclaredMethods()) {
            if (Modifier.isPublic(m.getModifiers())) {
                found.add(faceOf(m));
                names.add(m.getName());
            }
        }
        Set<String> wanted = new TreeSet<>(Arrays.asList(FACE));
        Due.is("the face " + found, found.equals(wanted), true);
        for (Method m : TurtleBack.class.getDeclaredMethods()) {
            if (Modifier.isPublic(m.getModifiers())) continue;
            Due.is(m.getName() + " is private", Modifier.isPrivate(m.getModifiers()), true);
            Due.is(m.getName() + " bears a name of the face", names.contains(m.getName()), false);
        }
        for (Class<?> inner : TurtleBack.class.getDeclaredClasses()) {
            Due.is(inner + " is static", Modifier.isStatic(inner.getModifiers()), true);
            Due.is(inner + " is public", Modifier.isPublic(inner.getModifiers()), false);
            for (Method m : inner.getDeclaredMethods()) {
                Due.is(inner + "." + m.getName(), names.contains(m.getName()), false);
            }
        }
        for (Field f : TurtleBack.class.getDeclaredFields()) {
            boolean isNone = f.getName().equals("NONE");
            Due.is(f.getName(), Modifier.isPublic(f.getModifiers()), isNone);
            if (!isNone) Due.is(f.getName() + " is private", Modifier.isPrivate(f.getModifiers()), true);
        }
        for (Constructor<?> c : TurtleBack.class.getDeclaredConstructors()) {
            Due.is("the constructor", c.getParameterCount() == 0 && Modifier.isPublic(c.getModifiers()), true);
        }
        int modifiers = TurtleBack.class.getModifiers();
        Due.is("public and final", Modifier.isPublic(modifiers) && Modifier.isFinal(modifiers), true);
        Class<?>[] thrown = TurtleBack.class.getMethod("led", int.class).getExceptionTypes();
        Due.is("led throws", Arrays.toString(thrown).contains("NoSuchElementException"), true);
        Due.is("NONE", TurtleBack.NONE, -1);
    }

    private static void counts() {
        int classes = 1;
        for (Class<?> inner : TurtleBack.class.getDeclaredClasses()) {
            classes++;
            fields(inner);
        }
        fields(TurtleBack.class);
        Due.is("some twelve classes: " + classes, classes <= 12, true);
    }

    private static void fields(Class<?> c) {
        int fields = 0;
        for (Field f : c.getDeclaredFields()) {
            if (!Modifier.isStatic(f.getModifiers())) fields++;
            else Due.is(c + "." + f.getName() + " is final", Modifier.isFinal(f.getModifiers()), true);
        }
        Due.is("some twenty fields of " + c + ": " + fields, fields <= 20, true);
        for (Method m : c.getDeclaredMethods()) {
            Due.is("seven parameters of " + m, m.getParameterCount() <= 7, true);
        }
    }

    private static void theText() throws IOException {
        String text = Files.readString(Path.of("src/main/java/TurtleBack.java"));
        String code = text.replaceAll("(?s)/\\*.*?\\*/", "").replaceAll("//[^\n]*", "");
        String[] banned = {"->", "::", "\\bsynchronized\\b", "\\bassert\\b", "\\bfinally\\b", "\\bcatch\\b", "\\btry\\b",
            "\\binstanceof\\b", "Exact\\(", "\\bpackage\\b", "\\bequals\\(", "\\bhashCode\\(", "\\btoString\\(",
            "\"\\s*\\+", "\\+\\s*\"", "\\bstatic \\{", "\\bdouble\\b", "\\bfloat\\b", "\\bnative\\b", "\\bThread\\b",
            "\\bwhile\\b", "\\bString\\[", "\\bvar\\b"};
        for (String b : banned) Due.is("found " + b, Pattern.compile(b).matcher(code).find(), false);
        Matcher library = Pattern.compile("\\b(System|Arrays|Math|Integer|Long|String)\\.(\\w+)").matcher(code);
        Set<String> let = Set.of("System.arraycopy", "Arrays.fill", "Math.abs", "Math.max", "Math.min", "Integer.bitCount");
        while (library.find()) Due.is("library: " + library.group(), let.contains(library.group()), true);
        Matcher imports = Pattern.compile("import ([\\w.]+);").matcher(code);
        Set<String> few = Set.of("java.util.Arrays", "java.util.NoSuchElementException");
        while (imports.find()) Due.is("import " + imports.group(1), few.contains(imports.group(1)), true);
        Matcher thrown = Pattern.compile("throw new (\\w+)").matcher(code);
        while (thrown.find()) Due.is(thrown.group(), thrown.group(1).equals("NoSuchElementException"), true);
        methodLengths(text);
    }

    private static void methodLengths(String text) {
        String[] lines = text.split("\n");
        for (int i = 0; i < lines.length; i++) {
            Matcher head = Pattern.compile("^( {4}| {8})(?! )[^=;]*\\) (throws \\w+ )?\\{$").matcher(lines[i]);
            if (!head.find()) continue;
            int end = i;
            while (!lines[end].equals(head.group(1) + "}")) end++;
            Due.is("sixty lines: " + lines[i].trim(), end - i < 60, true);
        }
    }

    /** An object's rows are made once: so many numbers at most. */
    private static void room() throws IllegalAccessException {
        Set<Object> met = java.util.Collections.newSetFromMap(new java.util.IdentityHashMap<>());
        long numbers = numbersOf(Due.told(Due.PLAIN), met);
        Due.is("numbers of an object: " + numbers, numbers < 40_000, true);
        Due.is("objects of an object: " + met.size(), met.size() < 100, true);
    }

    private static long numbersOf(Object o, Set<Object> met) throws IllegalAccessException {
        if (o == null || !met.add(o)) return 0;
        if (o.getClass().isArray()) {
            long all = java.lang.reflect.Array.getLength(o);
            if (o instanceof Object[] parts) for (Object part : parts) all += numbersOf(part, met);
            return all;
        }
        long all = 0;
        for (Field f : o.getClass().getDeclaredFields()) {
            if (Modifier.isStatic(f.getModifiers())) continue;
            all++;
            f.setAccessible(true);
            if (!f.getType().isPrimitive()) all += numbersOf(f.get(o), met);
        }
        return all;
    }

    public static void main(String[] args) throws Exception {
        theFace();
        counts();
        theText();
        room();
        Due.end();
    }
}
