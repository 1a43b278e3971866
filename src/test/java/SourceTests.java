import java.io.IOException;
import java.lang.reflect.Constructor;
import java.lang.reflect.Executable;
import java.lang.reflect.Field;
import java.lang.reflect.Method;
import java.lang.reflect.Modifier;
import java.nio.file.Files;
import java.nio.file.Path;
import java.util.List;
import java.util.Set;
import java.util.StringJoiner;
import java.util.TreeSet;
import java.util.regex.Matcher;
import java.util.regex.Pattern;

/** What can be seen of LANGUAGE.md in the source and in the compiled class. */
public final class SourceTests {
    private static final String[] NOT_USED = {"throw", "throws", "try", "catch", "synchronized", "assert", "record",
        "var", "yield", "goto", "native", "transient", "volatile", "Object", "String", "float", "double"};
    private static final Checks CHECKS = new Checks();

    private SourceTests() {
    }

    public static void main(String[] args) throws IOException {
        String source = Files.readString(Path.of("src/main/java/RightsWeb.java"));
        String code = source.replaceAll("(?s)/\\*.*?\\*/", "").replaceAll("//[^\n]*", "");
        words(code);
        face(Files.readString(Path.of("../shared/DOC.md")));
        members();
        methods(List.of(code.split("\n")));
        CHECKS.exit();
    }

    private static void words(String code) {
        for (String word : NOT_USED) {
            CHECKS.isTrue("no " + word, !Pattern.compile("\\b" + word + "\\b").matcher(code).find());
        }
        CHECKS.isTrue("no lambda, no method reference, no text", !code.contains("->") && !code.contains("::") && !code.contains("\""));
        Matcher imports = Pattern.compile("import ([^;]*);").matcher(code);
        while (imports.find()) {
            CHECKS.isTrue("import " + imports.group(1), imports.group(1).equals("java.util.Arrays"));
        }
        Matcher library = Pattern.compile("\\b(Arrays|System|Math|Long|Integer)\\.(\\w+)").matcher(code);
        Set<String> used = new TreeSet<>();
        while (library.find()) {
            used.add(library.group());
        }
        used.removeAll(Set.of("Arrays.fill", "System.arraycopy", "Math.max", "Math.min", "Long.bitCount"));
        CHECKS.isTrue("the library is used by " + used, used.isEmpty());
        CHECKS.isTrue("no package", !code.contains("package "));
        CHECKS.end("the language: words and library");
    }

    /** The lines of the document's face and the class's members that are not private must be the same. */
    private static void face(String document) {
        Set<String> due = new TreeSet<>();
        String block = document.substring(document.indexOf("public final class RightsWeb {"));
        for (String line : block.substring(block.indexOf('\n'), block.indexOf("\n}")).split(";")) {
            due.add(line.strip().replaceAll("(int|boolean|long) \\w+([,)])", "$1$2"));
        }
        due.remove("");
        Set<String> is = new TreeSet<>();
        for (Constructor<?> c : RightsWeb.class.getDeclaredConstructors()) {
            is.add(Modifier.toString(c.getModifiers()) + " RightsWeb" + types(c));
        }
        for (Method m : RightsWeb.class.getDeclaredMethods()) {
            if (!Modifier.isPrivate(m.getModifiers())) {
                is.add(Modifier.toString(m.getModifiers()) + " " + m.getReturnType() + " " + m.getName() + types(m));
            }
        }
        for (Field f : RightsWeb.class.getDeclaredFields()) {
            if (!Modifier.isPrivate(f.getModifiers())) {
                is.add(Modifier.toString(f.getModifiers()) + " " + f.getType() + " " + f.getName() + " = " + valueOf(f));
            }
        }
        CHECKS.isTrue("the document's face is read: " + due.size(), due.contains("public long who(int, int, int)"));
        CHECKS.isTrue("the face is " + is + ", due is " + due, is.equals(due));
        CHECKS.isTrue("public and final", Modifier.toString(RightsWeb.class.getModifiers()).equals("public final"));
        CHECKS.end("the language: the face is the document's, and no other");
    }

    private static String types(Executable e) {
        StringJoiner types = new StringJoiner(", ", "(", ")");
        for (Class<?> c : e.getParameterTypes()) {
            types.add(c.getName());
        }
        return types.toString();
    }

    private static String valueOf(Field f) {
        try {
            return String.valueOf(f.get(null));
        } catch (IllegalAccessException | NullPointerException e) {
            return "no constant";
        }
    }

    private static void members() {
        Class<?>[] inside = RightsWeb.class.getDeclaredClasses();
        CHECKS.isTrue("some twelve classes", inside.length <= 11);
        Set<String> face = new TreeSet<>();
        for (Method m : RightsWeb.class.getDeclaredMethods()) {
            if (Modifier.isPublic(m.getModifiers())) {
                face.add(m.getName());
            }
        }
        fieldsAndNames(RightsWeb.class, face);
        for (Class<?> c : inside) {
            CHECKS.isTrue(c + " is static", Modifier.isStatic(c.getModifiers()));
            fieldsAndNames(c, face);
        }
        CHECKS.end("the language: members");
    }

    private static void fieldsAndNames(Class<?> c, Set<String> face) {
        int fields = 0;
        for (Field f : c.getDeclaredFields()) {
            if (Modifier.isStatic(f.getModifiers())) {
                boolean number = f.getType() == int.class || f.getType() == long.class;
                CHECKS.isTrue(f + " is a constant", Modifier.isFinal(f.getModifiers()) && number);
            } else {
                fields++;
            }
        }
        CHECKS.isTrue(c + " has " + fields + " fields", fields <= 20);
        for (Method m : c.getDeclaredMethods()) {
            CHECKS.isTrue(m + " has seven parameters at most", m.getParameterCount() <= 7);
            boolean bears = !Modifier.isPublic(m.getModifiers()) && face.contains(m.getName());
            CHECKS.isTrue(m + " bears no public one's name", !bears);
        }
    }

    private static void methods(List<String> lines) {
        Pattern head = Pattern.compile(" {4}( {4})?\\w.*\\) \\{");
        int start = -1;
        for (int i = 0; i < lines.size(); i++) {
            String line = lines.get(i);
            if (head.matcher(line).matches() && start < 0) {
                start = i;
            } else if (start >= 0 && line.equals(indent(lines.get(start)) + "}")) {
                CHECKS.isTrue(lines.get(start) + " is short", i - start <= 60);
                start = -1;
            }
            CHECKS.isTrue("line " + (i + 1) + " is short", line.length() <= 120);
        }
        CHECKS.end("the language: short methods");
    }

    private static String indent(String line) {
        return line.substring(0, line.length() - line.stripLeading().length());
    }
}
