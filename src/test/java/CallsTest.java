import java.io.IOException;
import java.util.ArrayList;
import java.util.HashSet;
import java.util.LinkedHashMap;
import java.util.List;
import java.util.Map;
import java.util.Set;
import java.util.TreeSet;

/**
 * What of ../shared/LANGUAGE.md can be seen in what the compiler made of the program: what is called
 * and how deep, that nothing is thrown or caught, that only constructors make objects.
 */
final class CallsTest {
    private static final Checks CHECKS = new Checks();
    /** All that the program calls of the library. */
    private static final Set<String> LIBRARY = Set.of("java/lang/Object.<init>()V",
        "java/lang/Math.min(II)I", "java/lang/Math.max(II)I", "java/lang/Math.abs(I)I",
        "java/lang/Integer.bitCount(I)I", "java/lang/String.length()I", "java/lang/String.charAt(I)C",
        "java/lang/System.arraycopy(Ljava/lang/Object;ILjava/lang/Object;II)V",
        "java/util/Arrays.fill([II)V");
    /** What calls itself, by its depth or by another one. */
    private static final Set<String> DEEPER = new TreeSet<>(Set.of("PavementWalk.habitParts(IIIIII)J",
        "PavementWalk$Chances.spread(II)V", "PavementWalk$Chances.spreadLots(II)V"));
    private static final int DEEPEST = 8;

    private static final int THROW = 191;
    private static final int DYNAMIC = 186;

    private static final Map<String, ClassFile.Code> CODES = new LinkedHashMap<>();

    public static void main(String[] args) throws IOException {
        List<Class<?>> classes = new ArrayList<>(List.of(PavementWalk.class.getDeclaredClasses()));
        classes.add(PavementWalk.class);
        for (Class<?> c : classes) {
            CODES.putAll(ClassFile.of(c).methods);
        }
        Set<String> deeper = new TreeSet<>();
        for (String method : CODES.keySet()) {
            plain(method, CODES.get(method));
            int depth = depthOf(method, new HashSet<>(), deeper);
            CHECKS.due(method + " goes " + depth + " deep", depth <= DEEPEST, true);
        }
        CHECKS.due("recursion is in " + deeper, deeper.equals(DEEPER), true);
        CHECKS.finish("CallsTest");
    }

    private static void plain(String method, ClassFile.Code code) {
        CHECKS.due(method + " catches", code.catches, 0);
        boolean makes = method.contains(".<init>");
        for (int opcode : code.opcodes) {
            CHECKS.due(method + " throws, or makes calls as it goes", opcode == THROW || opcode == DYNAMIC, false);
            boolean isNew = opcode >= ClassFile.NEW && opcode <= ClassFile.NEW + 2 || opcode == ClassFile.MULTINEWARRAY;
            CHECKS.due(method + " makes an object", isNew && !makes, false);
        }
        for (String call : code.calls) {
            CHECKS.due(method + " calls " + call, LIBRARY.contains(call) || CODES.containsKey(call), true);
        }
    }

    /** How many calls stand open at most from this one on, the library's too; recursion counts once. */
    private static int depthOf(String method, Set<String> open, Set<String> deeper) {
        ClassFile.Code code = CODES.get(method);
        if (code == null) {
            return 1;
        }
        open.add(method);
        int most = 0;
        for (String call : new TreeSet<>(code.calls)) {
            if (open.contains(call)) {
                deeper.add(call);
                deeper.add(method);
            } else {
                most = Math.max(most, depthOf(call, open, deeper));
            }
        }
        open.remove(method);
        return most + 1;
    }
}
