import java.lang.reflect.Method;
import java.nio.file.Files;
import java.nio.file.Path;
import java.util.ArrayList;
import java.util.List;
import java.util.regex.Matcher;
import java.util.regex.Pattern;

/** What README.md says of the calls is what the class answers. */
public final class ReadmeTests {
    private static final Pattern CALL = Pattern.compile("k\\.(\\w+)\\(([^)]*)\\); +// (-?\\d+): .+");
    private static int wrong = 0;
    private static int lines = 0;

    private static void check(boolean right, String what) {
        if (right) return;
        wrong++;
        System.out.println("not so: " + what);
    }

    static void write(KeyholeWeave k, String text) {
        k.end(0);
        for (int from = 0; from < text.length(); from += 20) {
            int[] five = new int[5];
            for (int i = 0; i < 20 && from + i < text.length(); i++) {
                five[i / 4] |= text.charAt(from + i) << 8 * (3 - i % 4);
            }
            k.feed(five[0], five[1], five[2], five[3], five[4]);
        }
        k.end(text.length());
    }

    /** The lines of the page's blocks of Java, those of each by themselves. */
    private static List<List<String>> blocks(String page) {
        List<List<String>> all = new ArrayList<>();
        List<String> block = null;
        for (String line : page.split("\n")) {
            if (line.equals("```java")) {
                block = new ArrayList<>();
            } else if (line.equals("```")) {
                all.add(block);
                block = null;
            } else if (block != null) {
                block.add(line);
            }
        }
        return all;
    }

    private static int number(String text) {
        if (text.equals("KeyholeWeave.NONE")) return KeyholeWeave.NONE;
        return text.startsWith("0x") ? Integer.parseUnsignedInt(text.substring(2), 16) : Integer.parseInt(text);
    }

    private static void answer(KeyholeWeave k, String line) throws Exception {
        Matcher m = CALL.matcher(line);
        check(m.matches(), "a call and its answer: " + line);
        if (!m.matches()) return;
        String[] given = m.group(2).isEmpty() ? new String[0] : m.group(2).split(", ");
        Class<?>[] types = new Class<?>[given.length];
        Object[] numbers = new Object[given.length];
        for (int i = 0; i < given.length; i++) {
            types[i] = int.class;
            numbers[i] = number(given[i]);
        }
        Method method = KeyholeWeave.class.getMethod(m.group(1), types);
        Object got = method.invoke(k, numbers);
        check(got.equals(Integer.parseInt(m.group(3))), line + " answered " + got);
        lines++;
    }

    private static void answers(List<List<String>> blocks) throws Exception {
        KeyholeWeave k = null;
        for (List<String> block : blocks) {
            for (String line : block) {
                if (line.equals("KeyholeWeave k = new KeyholeWeave();")) k = new KeyholeWeave();
                else if (line.startsWith("k.")) answer(k, line);
            }
        }
        check(lines > 20, "the page has calls");
    }

    /** The page's way to write a text is the one above, letter by letter. */
    private static void writing(List<List<String>> blocks) throws Exception {
        String here = Files.readString(Path.of("src/test/java/ReadmeTests.java"));
        StringBuilder indented = new StringBuilder();
        for (List<String> block : blocks) {
            if (!block.get(0).startsWith("static void write(")) continue;
            for (String line : block) indented.append("    ").append(line).append('\n');
        }
        check(indented.length() > 0 && here.contains(indented), "the page's write is the test's");
        for (int spaces : new int[] {0, 1, 8, 9, 380, 388}) {
            KeyholeWeave k = new KeyholeWeave();
            write(k, "weaves was+1" + " ".repeat(spaces));
            check(k.count(2) == 12 + spaces, "the tape has the text's length");
            check(k.law() == 0 && k.force(0) == KeyholeWeave.NONE, "the text is a law");
            check(k.village(0, 0, 6, 6) == 0 && k.woven(0, 35, 0) == 1, "the law is the text's");
        }
    }

    private static void names(String page) {
        for (Method m : KeyholeWeave.class.getDeclaredMethods()) {
            boolean shown = java.lang.reflect.Modifier.isPublic(m.getModifiers());
            check(!shown || page.contains("`" + m.getName() + "`"), "the page tells of " + m.getName());
        }
        check(page.contains(".ci/run"), "the page tells how the tests are run");
    }

    private static void tests(String page) throws Exception {
        try (var files = Files.list(Path.of("src/test/java"))) {
            for (Path file : files.toList()) {
                String name = file.getFileName().toString().replace(".java", "");
                check(page.contains("`" + name + "`"), "the page tells of " + name);
            }
        }
    }

    public static void main(String[] args) throws Exception {
        String page = Files.readString(Path.of("README.md"));
        answers(blocks(page));
        writing(blocks(page));
        names(page);
        tests(page);
        System.out.println(wrong == 0 ? "the page is right" : wrong + " lines are not right");
        if (wrong != 0) System.exit(1);
    }
}
