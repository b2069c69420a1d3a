import java.io.IOException;
import java.lang.reflect.Constructor;
import java.lang.reflect.Field;
import java.lang.reflect.Member;
import java.lang.reflect.Method;
import java.lang.reflect.Modifier;
import java.nio.file.Files;
import java.nio.file.Path;
import java.util.ArrayList;
import java.util.Arrays;
import java.util.IdentityHashMap;
import java.util.List;
import java.util.Map;
import java.util.Set;
import java.util.TreeMap;
import java.util.TreeSet;
import java.util.regex.Matcher;
import java.util.regex.Pattern;

/** The document's face, the rules of LANGUAGE.md that a program can see, and the room that an object takes. */
public final class LanguageTests {
    private static final String[] FACE = {
        "village 4", "put 3", "hole 5", "of 2", "paint 3", "told 2", "price 2", "terms 2", "feed 5", "end 1", "row 0",
        "lint 0", "law 0", "fault 0", "force 1", "woven 3", "like 2", "costs 1", "turned 1", "lost 1", "look 2", "gift 1",
        "slips 1", "could 1", "meeting 1", "seams 1", "mend 6", "weavers 1", "drawn 2", "image 1", "back 1", "count 1",
        "status 0"};
    private static int wrong = 0;

    private static void check(boolean right, String what) {
        if (right) return;
        wrong++;
        System.out.println("not so: " + what);
    }

    private static boolean hidden(Member member) {
        return Modifier.isPrivate(member.getModifiers());
    }

    private static void face() {
        Class<?> c = KeyholeWeave.class;
        check(Modifier.isPublic(c.getModifiers()) && Modifier.isFinal(c.getModifiers()), "the class is public and final");
        Set<String> shown = new TreeSet<>();
        Set<String> names = new TreeSet<>();
        for (Method m : c.getDeclaredMethods()) {
            if (hidden(m)) continue;
            shown.add(m.getName() + " " + m.getParameterCount());
            names.add(m.getName());
            check(Modifier.isPublic(m.getModifiers()) && !Modifier.isStatic(m.getModifiers()), m + " is public, not static");
            check(m.getReturnType() == int.class, m + " answers an int");
            for (Class<?> type : m.getParameterTypes()) check(type == int.class, m + " takes ints");
        }
        check(shown.equals(new TreeSet<>(Arrays.asList(FACE))), "the methods are the face's: " + shown);
        List<Class<?>> all = new ArrayList<>(List.of(c.getDeclaredClasses()));
        for (Class<?> inside : all) check(Modifier.isStatic(inside.getModifiers()), inside + " is static");
        check(all.size() < 12, "at most twelve classes");
        all.add(c);
        for (Class<?> one : all) {
            for (Method m : one.getDeclaredMethods()) {
                check(one == c && !hidden(m) || !names.contains(m.getName()), m + " has a name of its own");
                check(m.getParameterCount() <= 7, m + " takes at most seven");
            }
            int fields = 0;
            for (Field f : one.getDeclaredFields()) {
                boolean constant = Modifier.isStatic(f.getModifiers());
                check(hidden(f) || one == c && f.getName().equals("NONE"), f + " is private");
                check(!constant || Modifier.isFinal(f.getModifiers()), f + " is final");
                if (!constant) fields++;
            }
            check(fields <= 20, one + " has at most twenty fields");
        }
        Constructor<?>[] made = c.getDeclaredConstructors();
        check(made.length == 1 && made[0].getParameterCount() == 0, "one constructor");
    }

    private static String source() throws IOException {
        String text = Files.readString(Path.of("src/main/java/KeyholeWeave.java"));
        for (int i = 0; i < text.length(); i++) check(text.charAt(i) < 127, "sign " + (int) text.charAt(i) + " is plain");
        return text.replaceAll("(?s)/\\*.*?\\*/", "").replaceAll("//[^\n]*", "").replaceAll("\"[^\"]*\"", "\"\"");
    }

    private static void words() throws IOException {
        String text = source();
        String[] ruledOut = {"\\bthrow\\b", "\\bthrows\\b", "\\btry\\b", "\\bcatch\\b", "\\bsynchronized\\b", "\\bassert\\b",
            "->", "::", "Exact\\b", "\\bThread\\b", "\\bRandom\\b", "nanoTime", "currentTimeMillis", "\\bpackage\\b",
            "hashCode", "toString", "\\binstanceof\\b", "\\[\\]\\[\\]\\[\\]", "while \\(true\\)", "for \\(;;\\)"};
        for (String pattern : ruledOut) check(!Pattern.compile(pattern).matcher(text).find(), "no " + pattern);
        Matcher imports = Pattern.compile("import ([^;]+);").matcher(text);
        while (imports.find()) check(imports.group(1).equals("java.util.Arrays"), "no import of " + imports.group(1));
        Matcher library = Pattern.compile("\\b(Math|Integer|Arrays|System)\\.(\\w+)").matcher(text);
        Set<String> known = Set.of("Math.max", "Math.min", "Integer.bitCount", "Arrays.fill", "Arrays.copyOf",
            "System.arraycopy");
        while (library.find()) check(known.contains(library.group()), "no " + library.group());
    }

    /** The class's methods, each with its lines; two classes' methods of one name stand together. */
    private static Map<String, String> methods() throws IOException {
        String[] lines = source().split("\n");
        Pattern start = Pattern.compile("^( +)(?:public |private |static |final )*[\\w\\[\\]]+ ?(\\w*)\\([^;]*\\) \\{$");
        Map<String, String> found = new TreeMap<>();
        for (int i = 0; i < lines.length; i++) {
            Matcher m = start.matcher(lines[i]);
            if (!m.matches() || lines[i].contains(" new ")) continue;
            StringBuilder body = new StringBuilder();
            int j = i;
            // A method ends at the first line that has its own indent and a closing brace.
            for (; j < lines.length && !lines[j].equals(m.group(1) + "}"); j++) {
                if (j > i) body.append(lines[j]).append('\n');
            }
            check(j - i <= 60, "line " + (i + 1) + ": the method is short");
            found.merge(m.group(2), body.toString(), String::concat);
        }
        return found;
    }

    /** How many methods stand open at once behind this one, none of them twice. */
    private static int depth(String name, Map<String, Set<String>> calls, List<String> open) {
        if (open.contains(name)) return 0;
        open.add(name);
        int most = 0;
        for (String called : calls.get(name)) most = Math.max(most, depth(called, calls, open));
        open.remove(name);
        return 1 + most;
    }

    private static void depths() throws IOException {
        Map<String, String> methods = methods();
        Map<String, Set<String>> calls = new TreeMap<>();
        for (String name : methods.keySet()) {
            Set<String> called = new TreeSet<>();
            Matcher m = Pattern.compile("\\b(\\w+)\\(").matcher(methods.get(name));
            while (m.find()) if (methods.containsKey(m.group(1))) called.add(m.group(1));
            calls.put(name, called);
        }
        for (String one : FACE) {
            String name = one.substring(0, one.indexOf(' '));
            check(methods.containsKey(name), name + " is found");
            if (!methods.containsKey(name)) continue;
            int deep = depth(name, calls, new ArrayList<>());
            check(deep <= 8, name + " goes at most eight deep: " + deep);
        }
        check(calls.get("slips").contains("findSlips") && calls.get("holds").contains("combine"), "calls are found");
        List<Class<?>> all = new ArrayList<>(List.of(KeyholeWeave.class.getDeclaredClasses()));
        all.add(KeyholeWeave.class);
        for (Class<?> one : all) {
            for (Method m : one.getDeclaredMethods()) check(methods.containsKey(m.getName()), m + " is found");
        }
    }

    /** Objects and arrays, fields and elements that hang on an object. */
    private static void room(Object o, Map<Object, Object> met, int[] sums) throws IllegalAccessException {
        if (o == null || met.put(o, o) != null) return;
        sums[0]++;
        if (o.getClass().isArray()) {
            int length = java.lang.reflect.Array.getLength(o);
            sums[1] += length;
            if (o.getClass().getComponentType().isPrimitive()) return;
            for (int i = 0; i < length; i++) room(java.lang.reflect.Array.get(o, i), met, sums);
            return;
        }
        for (Field f : o.getClass().getDeclaredFields()) {
            if (Modifier.isStatic(f.getModifiers())) continue;
            sums[1]++;
            f.setAccessible(true);
            if (!f.getType().isPrimitive()) room(f.get(o), met, sums);
        }
    }

    private static void room() throws IllegalAccessException {
        KeyholeWeave k = new KeyholeWeave();
        for (int i = 0; i < 10; i++) k.village(0, 0, 3, 3);
        for (int i = 0; i < 6; i++) {
            k.feed(0x77656176, 0x65732078, 0x2b782b78, 0x20202020, 0x20202020);
            k.law();
        }
        k.image(0);
        k.image(1);
        k.slips(0);
        k.look(3, 0);
        k.weavers(1);
        int[] sums = {0, 0};
        room(k, new IdentityHashMap<>(), sums);
        check(k.count(1) == 6, "six laws were read");
        check(sums[0] < 250 && sums[1] < 6000, "an object takes little room: " + sums[0] + ", " + sums[1]);
    }

    public static void main(String[] args) throws Exception {
        face();
        words();
        depths();
        room();
        System.out.println(wrong == 0 ? "the face and the rules are kept" : wrong + " rules are not kept");
        if (wrong != 0) System.exit(1);
    }
}
