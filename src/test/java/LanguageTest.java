import java.io.IOException;
import java.lang.reflect.Constructor;
import java.lang.reflect.Field;
import java.lang.reflect.Method;
import java.lang.reflect.Modifier;
import java.nio.file.Files;
import java.nio.file.Path;
import java.util.ArrayList;
import java.util.List;
import java.util.Set;
import java.util.TreeSet;
import java.util.regex.Matcher;
import java.util.regex.Pattern;

/** What of ../shared/LANGUAGE.md can be seen without a compiler of one's own. */
final class LanguageTest {
    private static final Checks CHECKS = new Checks();
    private static final String[] FORBIDDEN = {"\\bthrows?\\b", "\\btry\\b", "\\bcatch\\b",
        "\\bsynchronized\\b", "\\bassert\\b", "->", "::", "\\bnew\\s+Object\\b", "Exact\\(",
        "\\bstatic\\s*\\{", "\\binteger\\.valueOf\\b", "\\bMath\\.(random|sqrt|pow)\\b",
        "\\bSystem\\.(?!arraycopy)", "\\bThread\\b", "\\bprotected\\b", "\\bnative\\b",
        "\\.(equals|hashCode|toString)\\(", "\"\\s*\\+", "\\+\\s*\""};

    public static void main(String[] args) throws IOException {
        String source = Files.readString(Path.of("src/main/java/PavementWalk.java"));
        String code = source.replaceAll("(?s)/\\*.*?\\*/", "").replaceAll("//[^\n]*", "");
        for (String word : FORBIDDEN) {
            CHECKS.due("the source has " + word, Pattern.compile(word).matcher(code).find(), false);
        }
        Matcher imports = Pattern.compile("import ([^;]*);").matcher(code);
        while (imports.find()) {
            CHECKS.due("import " + imports.group(1), imports.group(1).equals("java.util.Arrays"), true);
        }
        methodsAreShort(code);
        face();
        nested();
        CHECKS.finish("LanguageTest");
    }

    private static void methodsAreShort(String code) {
        Pattern head = Pattern.compile("^( +)[\\w\\[\\] ]*\\b(\\w+)\\(([^)]*)\\) \\{$");
        String[] lines = code.split("\n");
        for (int at = 0; at < lines.length; at++) {
            Matcher m = head.matcher(lines[at]);
            if (!m.find() || lines[at].matches(" *(if|for|while|switch|} else).*")) {
                continue;
            }
            int end = at;
            while (!lines[end].equals(m.group(1) + "}")) {
                end++;
            }
            CHECKS.due(m.group(2) + " has " + (end - at + 1) + " lines", end - at + 1 <= 60, true);
            int params = m.group(3).isBlank() ? 0 : m.group(3).split(",").length;
            CHECKS.due(m.group(2) + " has " + params + " parameters", params <= 7, true);
        }
    }

    private static Set<String> names() {
        return new TreeSet<>(List.of(("feed end passage law fault about walker rules run go ran finds "
            + "does on state door two fullest pillar cost better flow touch slack opened fits hat dark "
            + "match worth track habit count image again").split(" ")));
    }

    private static void face() {
        Set<String> found = new TreeSet<>();
        for (Method m : PavementWalk.class.getDeclaredMethods()) {
            if (Modifier.isPublic(m.getModifiers())) {
                CHECKS.due("the face has " + m.getName(), found.add(m.getName()), true);
            } else {
                CHECKS.due(m.getName() + " is private", Modifier.isPrivate(m.getModifiers()), true);
                CHECKS.due(m.getName() + " is no name of the face", names().contains(m.getName()), false);
            }
        }
        CHECKS.due("the face is whole: " + found, found.equals(names()), true);
        for (Field f : PavementWalk.class.getDeclaredFields()) {
            boolean constant = f.getName().equals("NONE");
            CHECKS.due(f.getName(), Modifier.isPublic(f.getModifiers()), constant);
            CHECKS.due(f.getName() + " is private", Modifier.isPrivate(f.getModifiers()), !constant);
        }
        Constructor<?>[] made = PavementWalk.class.getDeclaredConstructors();
        CHECKS.due("constructors", made.length, 1);
        CHECKS.due("final", Modifier.isFinal(PavementWalk.class.getModifiers()), true);
    }

    private static void nested() {
        List<Class<?>> classes = new ArrayList<>(List.of(PavementWalk.class.getDeclaredClasses()));
        CHECKS.due("classes", classes.size() + 1 <= 12, true);
        classes.add(PavementWalk.class);
        for (Class<?> c : classes) {
            if (c != PavementWalk.class) {
                CHECKS.due(c + " is static", Modifier.isStatic(c.getModifiers()), true);
                for (Method m : c.getDeclaredMethods()) {
                    CHECKS.due(c + " " + m.getName(), names().contains(m.getName()), false);
                }
            }
            int fields = 0;
            for (Field f : c.getDeclaredFields()) {
                boolean fixed = Modifier.isFinal(f.getModifiers());
                CHECKS.due(f + " static and final", Modifier.isStatic(f.getModifiers()) && !fixed, false);
                fields += Modifier.isStatic(f.getModifiers()) ? 0 : 1;
            }
            CHECKS.due(c + " has " + fields + " fields", fields <= 20, true);
        }
    }
}
