import java.io.IOException;
import java.lang.reflect.InvocationTargetException;
import java.lang.reflect.Method;
import java.lang.reflect.Modifier;
import java.nio.file.Files;
import java.nio.file.Path;
import java.util.ArrayList;
import java.util.List;
import java.util.TreeMap;
import java.util.regex.Matcher;
import java.util.regex.Pattern;

/** README.md says what is so: its example is run line by line, its table is held against the face and the document. */
public final class ReadmeTest {
    private static final Pattern TELL = Pattern.compile("tell\\(s, \"([^\"]*)\"\\);");
    private static final Pattern SKIN = Pattern.compile("text\\(s, s\\.skin\\((\\d+)\\)\\); +// \"([^\"]*)\"");
    private static final Pattern CALL = Pattern.compile("s\\.(\\w+)\\(([^)]*)\\); +// (-?\\w+)(:.*)?");
    private static final Pattern ROW = Pattern.compile("\\| `([^`]*)` \\| (.*) \\| (\\d+) \\|");
    private static final Pattern PROMISE = Pattern.compile("## Promise (\\d+): (.*)\\n\\n`([^`]*)`:");

    private final Check check = new Check();
    private SkinLedger s;
    private int calls;

    static void tell(SkinLedger s, String text) {
        s.end(0);
        for (int at = 0; at < text.length(); at += 20) {
            s.feed(four(text, at), four(text, at + 4), four(text, at + 8), four(text, at + 12), four(text, at + 16));
        }
        s.end(text.length());
    }

    static int four(String text, int at) {
        int bytes = 0;
        for (int i = at; i < at + 4; i++) {
            bytes = bytes << 8 | (i < text.length() ? text.charAt(i) : 0);
        }
        return bytes;
    }

    static String text(SkinLedger s, int length) {
        StringBuilder text = new StringBuilder();
        for (int i = 0; i < length; i++) {
            text.append((char) s.byteAt(i));
        }
        return text.toString();
    }

    private static String file(String name) throws IOException {
        return Files.readString(Path.of(name));
    }

    private static String plain(String text) {
        return text.replaceAll("\\s+", " ").trim();
    }

    private static List<String> blocks(String page) {
        List<String> blocks = new ArrayList<>();
        Matcher block = Pattern.compile("```java\\n(.*?)```", Pattern.DOTALL).matcher(page);
        while (block.find()) {
            blocks.add(block.group(1));
        }
        return blocks;
    }

    private static Method method(String name, int parameters) {
        for (Method m : SkinLedger.class.getDeclaredMethods()) {
            if (Modifier.isPublic(m.getModifiers()) && m.getName().equals(name) && m.getParameterCount() == parameters) {
                return m;
            }
        }
        return null;
    }

    private String answer(String name, String told) throws IllegalAccessException {
        String[] words = told.isBlank() ? new String[0] : told.split(", ");
        Object[] numbers = new Object[words.length];
        for (int i = 0; i < words.length; i++) {
            numbers[i] = (int) (long) Long.decode(words[i]);
        }
        Method m = method(name, words.length);
        if (m == null) {
            return "no such call";
        }
        try {
            return String.valueOf(m.invoke(s, numbers));
        } catch (InvocationTargetException e) {
            return e.getCause().getClass().getSimpleName();
        }
    }

    private void isSo(String line, String got, String due) {
        if (!got.equals(due)) {
            System.out.println(line + " answered " + got);
        }
        check.is(line, got.equals(due), true);
    }

    private void exampleLine(String line) throws IllegalAccessException {
        Matcher tell = TELL.matcher(line);
        Matcher skin = SKIN.matcher(line);
        Matcher call = CALL.matcher(line);
        if (line.equals("SkinLedger s = new SkinLedger();")) {
            s = new SkinLedger();
        } else if (tell.matches()) {
            tell(s, tell.group(1));
        } else if (skin.matches()) {
            isSo(line, text(s, s.skin(Integer.parseInt(skin.group(1)))), skin.group(2));
        } else if (call.matches()) {
            calls++;
            isSo(line, answer(call.group(1), call.group(2)), call.group(3));
        } else {
            isSo(line, "no line of an example", "");
        }
    }

    private void example(String block) throws IllegalAccessException {
        check.part("README's example");
        for (String line : block.split("\\n")) {
            if (!line.isBlank()) {
                exampleLine(line);
            }
        }
        check.is("the example has calls", calls > 40, true);
    }

    /** A call as the table has it: without types and what it throws. */
    private static String bare(String told) {
        String head = told.replaceAll("\\).*", ")");
        return head.replaceAll("\\b(int|boolean) ", "");
    }

    private void table(String page, String document) {
        check.part("README's table");
        TreeMap<Integer, String> rows = new TreeMap<>();
        Matcher row = ROW.matcher(page);
        while (row.find()) {
            check.is("promise " + row.group(3) + " has one row", rows.containsKey(Integer.parseInt(row.group(3))), false);
            rows.put(Integer.parseInt(row.group(3)), row.group(1));
        }
        check.is("rows", rows.size(), 48);
        Matcher promise = PROMISE.matcher(document);
        int promises = 0;
        while (promise.find()) {
            promises++;
            isSo("promise " + promise.group(1), String.valueOf(rows.get(Integer.parseInt(promise.group(1)))), bare(promise.group(3)));
        }
        check.is("promises", promises, 48);
        for (Method m : SkinLedger.class.getDeclaredMethods()) {
            boolean isTold = rows.values().stream().anyMatch(told -> told.startsWith(m.getName() + "("));
            check.is("the table has " + m.getName(), isTold || !Modifier.isPublic(m.getModifiers()), true);
        }
    }

    private void tests(String page) throws IOException {
        check.part("README's tests");
        try (var files = Files.list(Path.of("src/test/java"))) {
            for (Path path : files.toList()) {
                String name = path.getFileName().toString().replace(".java", "");
                if (name.endsWith("Test")) {
                    check.is("README names " + name, page.contains("`" + name + "`"), true);
                }
            }
        }
    }

    public static void main(String[] args) throws IOException, IllegalAccessException {
        ReadmeTest test = new ReadmeTest();
        String page = file("README.md");
        List<String> blocks = blocks(page);
        test.check.is("blocks of Java", blocks.size(), 2);
        if (blocks.size() == 2) {
            String own = plain(file("src/test/java/ReadmeTest.java"));
            test.check.is("the two ways of a text are those used here", own.contains(plain(blocks.get(0))), true);
            test.example(blocks.get(1));
        }
        test.table(page, file("../shared/DOC.md"));
        test.tests(page);
        test.check.end("ReadmeTest");
    }
}
