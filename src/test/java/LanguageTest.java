import java.io.IOException;
import java.lang.reflect.Field;
import java.lang.reflect.Method;
import java.lang.reflect.Modifier;
import java.nio.file.Files;
import java.nio.file.Path;
import java.util.ArrayList;
import java.util.Arrays;
import java.util.List;
import java.util.Set;
import java.util.stream.Collectors;

/** What can be seen mechanically of ../shared/LANGUAGE.md; its other rules are held by reading. */
public final class LanguageTest {
    private static final Check CHECK = new Check("LanguageTest");
    private static final Path SOURCE = Path.of("src", "main", "java", "CashPools.java");
    private static final List<String> IMPORTS = List.of("java.util.ArrayList", "java.util.List", "java.util.Iterator",
            "java.util.Arrays", "java.util.NoSuchElementException");
    private static final List<String> FORBIDDEN = List.of("->", "::", "finally", "synchronized", "assert ", "Exact(",
            "package ", "static {", "int hashCode(", "boolean equals(", "String toString(", "getMessage", "Thread",
            "Random", "java.lang", "java.io", "Throwable", "catch (Exception", "catch (RuntimeException", "NullPointer",
            "ArrayIndex", "ClassCast", "NegativeArray", "ArrayStore");

    public static void main(String[] args) throws IOException {
        List<String> code = codeOf(Files.readAllLines(SOURCE));
        words(code);
        lengths(code);
        classes();
        for (Class<?> type : types()) {
            members(type);
        }
        CHECK.finish();
    }

    /** Without its comments. */
    private static List<String> codeOf(List<String> lines) {
        String text = String.join("\n", lines).replaceAll("(?s)/\\*.*?\\*/", "").replaceAll("//[^\n]*", "");
        return List.of(text.split("\n"));
    }

    private static void words(List<String> code) {
        for (String line : code) {
            CHECK.about(line.trim());
            CHECK.same("signs 1 to 127", line.chars().allMatch(sign -> sign > 0 && sign < 128) ? 1 : 0, 1);
            if (line.startsWith("import ")) {
                CHECK.same("in the library", IMPORTS.contains(line.substring(7, line.length() - 1)) ? 1 : 0, 1);
            }
            for (String word : FORBIDDEN) {
                CHECK.same("has \"" + word + "\"", line.contains(word) ? 1 : 0, 0);
            }
            if (line.contains("System.")) {
                CHECK.same("only arraycopy", line.contains("System.arraycopy(") ? 1 : 0, 1);
            }
        }
    }

    /** From the line that opens a method's body to the line that closes it, at the same indentation. */
    private static void lengths(List<String> code) {
        for (int i = 0; i < code.size(); i++) {
            String line = code.get(i);
            String indentation = line.substring(0, line.length() - line.stripLeading().length());
            if (line.endsWith(") {") && indentation.length() <= 8 && !line.matches("\\s*(if|for|while|switch) .*")) {
                int end = i;
                while (!code.get(end).equals(indentation + "}")) {
                    end++;
                }
                CHECK.about(line.trim());
                CHECK.same("at most 60 lines", end - i <= 60 ? 1 : 0, 1);
            }
        }
    }

    private static List<Class<?>> types() {
        List<Class<?>> types = new ArrayList<>(List.of(CashPools.class.getDeclaredClasses()));
        types.add(CashPools.class);
        return types;
    }

    private static void classes() {
        CHECK.about("classes");
        CHECK.same("at most 12", types().size() <= 12 ? 1 : 0, 1);
        for (Class<?> type : CashPools.class.getDeclaredClasses()) {
            CHECK.same("static: " + type, Modifier.isStatic(type.getModifiers()) ? 1 : 0, 1);
            CHECK.same("not open: " + type, type.getModifiers() & (Modifier.PUBLIC | Modifier.PROTECTED), 0);
        }
    }

    private static void members(Class<?> type) {
        CHECK.about(type.getName());
        Set<String> face = Arrays.stream(CashPools.class.getMethods()).map(Method::getName).collect(Collectors.toSet());
        for (Method method : type.getDeclaredMethods()) {
            CHECK.same("at most 7 parameters: " + method, method.getParameterCount() <= 7 ? 1 : 0, 1);
            boolean borrows = Modifier.isPrivate(method.getModifiers()) && face.contains(method.getName());
            CHECK.same("no private method of a public name: " + method, borrows ? 1 : 0, 0);
        }
        int fields = 0;
        for (Field field : type.getDeclaredFields()) {
            boolean isStatic = Modifier.isStatic(field.getModifiers());
            CHECK.same("static is final: " + field, !isStatic || Modifier.isFinal(field.getModifiers()) ? 1 : 0, 1);
            fields += isStatic ? 0 : 1;
        }
        CHECK.same("at most 20 fields", fields <= 20 ? 1 : 0, 1);
    }
}
