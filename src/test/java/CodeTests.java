import java.io.IOException;
import java.lang.reflect.Array;
import java.lang.reflect.Field;
import java.lang.reflect.Modifier;
import java.nio.file.DirectoryStream;
import java.nio.file.Files;
import java.nio.file.Path;
import java.util.HashMap;
import java.util.HashSet;
import java.util.IdentityHashMap;
import java.util.Map;
import java.util.Set;
import java.util.TreeMap;
import java.util.TreeSet;

/** What can be seen of LANGUAGE.md in the compiled code: what it calls, how deep, what it makes, what it divides by. */
public final class CodeTests {
    private static final int DEEPEST = 8;
    private static final int MOST_OBJECTS = 100;
    private static final int MOST_FIELDS = 10000;
    private static final int ATHROW = 0xbf, CHECKCAST = 0xc0, INSTANCEOF = 0xc1, MONITORENTER = 0xc2;
    private static final Set<String> LIBRARY = Set.of("java/lang/Object.<init>()V", "java/util/Arrays.fill([II)V",
        "java/util/Arrays.fill([JJ)V", "java/lang/System.arraycopy(Ljava/lang/Object;ILjava/lang/Object;II)V",
        "java/lang/Math.max(II)I", "java/lang/Math.min(II)I", "java/lang/Long.bitCount(J)I");

    private static final Checks CHECKS = new Checks();
    private static final Map<String, ClassCode.Code> METHODS = new TreeMap<>();

    private CodeTests() {
    }

    public static void main(String[] args) throws IOException, IllegalAccessException {
        Path classes = Path.of(args.length > 0 ? args[0] : "build/tests");
        int many = 0;
        try (DirectoryStream<Path> files = Files.newDirectoryStream(classes, "RightsWeb{,$*}.class")) {
            for (Path file : files) {
                many++;
                for (ClassCode.Code method : new ClassCode(file).methods) {
                    METHODS.put(method.name(), method);
                }
            }
        }
        CHECKS.due("classes compiled", many, 1 + RightsWeb.class.getDeclaredClasses().length);
        CHECKS.isTrue("methods were read: " + METHODS.size(), METHODS.containsKey("RightsWeb.status(I)I"));
        library();
        nothingThrown();
        divisors();
        noStaticState();
        depth();
        objects();
        room();
        CHECKS.exit();
    }

    private static void library() {
        Set<String> used = new TreeSet<>();
        for (ClassCode.Code method : METHODS.values()) {
            for (ClassCode.Step step : method.steps()) {
                if (step.isCall() && !METHODS.containsKey(step.told())) {
                    used.add(step.told());
                }
            }
        }
        used.removeAll(LIBRARY);
        CHECKS.isTrue("the library is used by " + used, used.isEmpty());
        CHECKS.end("the language, rule 4: no library but what it lists");
    }

    private static void nothingThrown() {
        for (ClassCode.Code method : METHODS.values()) {
            CHECKS.isTrue(method.name() + " catches nothing", !method.catches());
            for (ClassCode.Step step : method.steps()) {
                int opcode = step.opcode();
                CHECKS.isTrue(method.name() + " throws nothing", opcode != ATHROW);
                CHECKS.isTrue(method.name() + " casts nothing", opcode != CHECKCAST && opcode != INSTANCEOF);
                CHECKS.isTrue(method.name() + " waits for nothing", opcode != MONITORENTER);
            }
        }
        CHECKS.end("the language, rule 6: nothing is thrown, caught or cast");
    }

    private static void divisors() {
        int divisions = 0;
        for (ClassCode.Code method : METHODS.values()) {
            ClassCode.Step before = null;
            for (ClassCode.Step step : method.steps()) {
                if (step.divides()) {
                    divisions++;
                    boolean isNumber = before != null && before.pushesNumber() && !before.pushesZero();
                    CHECKS.isTrue(method.name() + " divides by a number that is written there, and not 0", isNumber);
                }
                before = step;
            }
        }
        CHECKS.isTrue("divisions were seen", divisions > 0);
        CHECKS.end("the language, rule 7: what divides is never 0");
    }

    private static void noStaticState() {
        for (String method : METHODS.keySet()) {
            CHECKS.isTrue("no static initialiser: " + method, !method.contains("<clinit>"));
        }
        CHECKS.end("the language, rule 5: no static state but constants");
    }

    private static void depth() {
        Map<String, Integer> depths = new HashMap<>();
        for (String method : METHODS.keySet()) {
            int depth = depthOf(method, depths, new HashSet<>());
            CHECKS.isTrue(method + " goes " + depth + " calls deep, itself too", depth <= DEEPEST);
        }
        CHECKS.end("the language, rules 8 and 11: no recursion, and calls go eight deep at most");
    }

    /** How many calls stand open at once at most, this one too; far above what may be where it calls itself. */
    private static int depthOf(String method, Map<String, Integer> depths, Set<String> open) {
        if (depths.containsKey(method)) {
            return depths.get(method);
        }
        if (!open.add(method)) {
            return 1000;
        }
        int deepest = 0;
        for (ClassCode.Step step : METHODS.get(method).steps()) {
            if (step.isCall() && METHODS.containsKey(step.told())) {
                deepest = Math.max(deepest, depthOf(step.told(), depths, open));
            }
        }
        open.remove(method);
        depths.put(method, deepest + 1);
        return deepest + 1;
    }

    private static void objects() {
        int made = 0;
        for (ClassCode.Code method : METHODS.values()) {
            for (ClassCode.Step step : method.steps()) {
                if (step.makesObject()) {
                    made++;
                    CHECKS.isTrue(method.name() + " makes an object", method.name().contains(".<init>("));
                }
            }
        }
        CHECKS.isTrue("objects are made", made > 0);
        CHECKS.end("the language, rule 12: constructors alone make objects and arrays");
    }

    /** As no call makes an object, what a new one holds is all that it ever needs. */
    private static void room() throws IllegalAccessException {
        Map<Object, Integer> held = new IdentityHashMap<>();
        hold(new RightsWeb(), held);
        int all = 0;
        for (int fields : held.values()) {
            all += fields;
        }
        CHECKS.isTrue("an object holds " + held.size() + " objects and arrays", held.size() <= MOST_OBJECTS);
        CHECKS.isTrue("an object holds " + all + " fields and elements", all <= MOST_FIELDS);
        CHECKS.end("the language, rule 12: what one object holds is little");
    }

    private static void hold(Object object, Map<Object, Integer> held) throws IllegalAccessException {
        if (object == null || held.containsKey(object)) {
            return;
        }
        if (object.getClass().isArray()) {
            held.put(object, Array.getLength(object));
            return;
        }
        held.put(object, 0);
        for (Field field : object.getClass().getDeclaredFields()) {
            if (!Modifier.isStatic(field.getModifiers())) {
                held.merge(object, 1, Integer::sum);
                field.setAccessible(true);
                hold(field.getType().isPrimitive() ? null : field.get(object), held);
            }
        }
    }
}
