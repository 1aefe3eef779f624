import java.io.IOException;
import java.lang.reflect.Executable;
import java.lang.reflect.Method;
import java.lang.reflect.Modifier;
import java.lang.reflect.Parameter;
import java.nio.file.Files;
import java.nio.file.Path;
import java.util.ArrayList;
import java.util.Arrays;
import java.util.List;
import java.util.regex.Matcher;
import java.util.regex.Pattern;
import java.util.stream.Collectors;

/** The class has the face of the document, under its headings, and nothing else that is not private. */
public final class FaceTest {
    private static final Check CHECK = new Check("FaceTest");
    private static final Path SOURCE = Path.of("src", "main", "java", "CashPools.java");

    public static void main(String[] args) throws IOException {
        theFace();
        nothingElse();
        theSignaturesOfThePromises();
        theHeadings();
        as512Calls();
        CHECK.finish();
    }

    /** The lines of the document's face, but for their semicolons: "public int today()" and its like. */
    private static List<String> face() {
        return Document.lines().stream().filter(line -> line.startsWith("    public "))
                .map(line -> line.trim().replace(";", "")).toList();
    }

    /** A signature without the names of its parameters. */
    private static String unnamed(String signature) {
        return signature.replaceAll("(int|long) \\w+(?=[,)])", "$1");
    }

    private static String told(Executable member, String returned) {
        String parameters = Arrays.stream(member.getParameters()).map(Parameter::getType).map(Class::getSimpleName)
                .collect(Collectors.joining(", "));
        String thrown = Arrays.stream(member.getExceptionTypes()).map(Class::getSimpleName)
                .collect(Collectors.joining(", "));
        return Modifier.toString(member.getModifiers()) + " " + returned + "(" + parameters + ")"
                + (thrown.isEmpty() ? "" : " throws " + thrown);
    }

    private static void theFace() {
        List<String> there = new ArrayList<>();
        there.add(told(CashPools.class.getDeclaredConstructors()[0], "CashPools"));
        for (Method method : CashPools.class.getDeclaredMethods()) {
            there.add(told(method, method.getReturnType().getSimpleName() + " " + method.getName()));
        }
        CHECK.same("lines of the face", face().size(), 29);
        for (String line : face()) {
            CHECK.same("there is " + line, there.contains(unnamed(line)) ? 1 : 0, 1);
        }
        CHECK.same("public and final", CashPools.class.getModifiers(), Modifier.PUBLIC | Modifier.FINAL);
    }

    private static void nothingElse() {
        List<String> due = face().stream().map(FaceTest::unnamed).toList();
        CHECK.same("constructors", CashPools.class.getDeclaredConstructors().length, 1);
        for (Method method : CashPools.class.getDeclaredMethods()) {
            String told = told(method, method.getReturnType().getSimpleName() + " " + method.getName());
            boolean isPrivate = Modifier.isPrivate(method.getModifiers());
            CHECK.same("private or of the face: " + told, isPrivate || due.contains(told) ? 1 : 0, 1);
        }
        Arrays.stream(CashPools.class.getDeclaredFields()).forEach(field ->
                CHECK.same("private: " + field, Modifier.isPrivate(field.getModifiers()) ? 1 : 0, 1));
    }

    private static void theSignaturesOfThePromises() {
        List<String> lines = face();
        int found = 0;
        for (String line : Document.lines()) {
            if (line.matches("`[^`]*\\(.*\\)[^`]*`: .*")) {
                String signature = "public " + line.substring(1, line.indexOf('`', 1));
                CHECK.same("in the face: " + signature, lines.contains(signature) ? 1 : 0, 1);
                found++;
            }
        }
        CHECK.same("promises with a signature", found, 29);
    }

    /** "Ahead of the calls `a`, `b` the interface says: ---- c." */
    private static void theHeadings() throws IOException {
        String source = Files.readString(SOURCE);
        CHECK.same("headings", Document.headings().size(), 5);
        for (String line : Document.headings()) {
            String[] parts = line.split(" the interface says: ");
            String heading = "    // " + parts[1].replaceAll("\\.$", "") + "\n";
            int from = source.indexOf(heading);
            int next = source.indexOf("    // ----", from + 1);
            Matcher calls = Pattern.compile("`(\\w+)`").matcher(parts[0]);
            while (calls.find()) {
                int call = source.indexOf(" " + calls.group(1) + "(", from);
                boolean below = from >= 0 && call > from && (next < 0 || call < next);
                CHECK.same(calls.group(1) + " stands below its heading", below ? 1 : 0, 1);
            }
        }
    }

    /** The last of the 512 calls is answered as the first. */
    private static void as512Calls() {
        CashPools x = new CashPools();
        x.addPool(0, 0, 0);
        for (int call = 2; call <= 512; call++) {
            CHECK.same("call " + call, x.book(0, 1000000), 1000000L * (call - 1));
        }
    }
}
