import java.io.IOException;
import java.nio.file.Files;
import java.nio.file.Path;
import java.util.ArrayList;
import java.util.Arrays;
import java.util.List;
import java.util.regex.Matcher;
import java.util.regex.Pattern;

/** What README.md tells a caller: its example, its ranges, and the exceptions of each call. */
public final class ReadmeTest {
    private static final Check CHECK = new Check("ReadmeTest");
    private static final Path README = Path.of("README.md");
    private static final Path SELF = Path.of("src", "test", "java", "ReadmeTest.java");
    private static final String FENCE = "```";

    public static void main(String[] args) throws IOException {
        List<String> readme = Files.readAllLines(README);
        exampleAnswers(exampleOf(readme));
        exampleIsTheOneHere(exampleOf(readme));
        calls(readme);
        ranges(readme);
        CHECK.finish();
    }

    private static List<String> exampleOf(List<String> readme) {
        int from = readme.indexOf(FENCE + "java") + 1;
        int to = from + readme.subList(from, readme.size()).indexOf(FENCE);
        return readme.subList(from, to);
    }

    /** The answers stand behind the lines of the example, in their order. */
    private static void exampleAnswers(List<String> example) {
        // the example begins
        CashPools desk = new CashPools();
        int pool = desk.addPool(0, 150, 900);
        int shop = desk.addAccount(pool, 1);
        int rule = desk.setRule(shop, 1, 5000);
        int line = desk.addLine(pool, 100000, 720);
        int sales = desk.schedule(shop, 2500, 0, 7, 10);
        int rent = desk.schedule(pool, -60000, 12, 28, 3);
        int settling = desk.addHoliday(14);
        int monday = desk.settlementDay(12);
        long booked = desk.book(shop, 20000);
        long swept = desk.afterSweep(pool);
        int today = desk.passDays(15);
        long there = desk.balance(pool);
        long rents = desk.scheduled(pool, today, 60);
        int days = desk.daysToShort(pool, 60);
        long soon = desk.forecast(pool, 5);
        long still = desk.balance(pool);
        // the example ends
        long[] got = {pool, shop, rule, line, sales, rent, settling, monday, booked, swept, today, there, rents,
            days, soon, still};
        long[] told = example.stream().filter(text -> text.contains("// "))
                .mapToLong(text -> Long.parseLong(text.replaceAll(".*// (-?\\d+):.*", "$1"))).toArray();
        CHECK.about("example");
        CHECK.same("lines with an answer", told.length, got.length);
        for (int i = 0; i < Math.min(got.length, told.length); i++) {
            CHECK.same("answer " + i, got[i], told[i]);
        }
    }

    private static void exampleIsTheOneHere(List<String> example) throws IOException {
        List<String> self = Files.readAllLines(SELF).stream().map(String::trim).toList();
        List<String> here = self.subList(self.indexOf("// the example begins") + 1,
                self.indexOf("// the example ends"));
        List<String> there = example.stream().map(text -> text.replaceAll("//.*", "").trim()).toList();
        CHECK.same("the same lines", here.equals(there) ? 1 : 0, 1);
    }

    /** Each call of the face has one row, with its arguments, and with its exceptions in their order. */
    private static void calls(List<String> readme) {
        int found = 0;
        for (String line : Document.lines()) {
            if (!line.startsWith("    public ")) {
                continue;
            }
            found++;
            String call = line.replaceAll(".*?(\\w+\\(.*?\\)).*", "$1").replaceAll("(int|long) (?=\\w)", "");
            CHECK.about(call);
            List<String> rows = readme.stream().filter(row -> row.startsWith("| `" + call + "` |")).toList();
            CHECK.same("rows", rows.size(), 1);
            String due = line.contains("throws") ? line.replaceAll(".*throws |;", "") : "";
            String told = rows.isEmpty() ? "" : exceptionsOf(rows.get(0));
            CHECK.same("throws " + told, told.equals(due) ? 1 : 0, 1);
        }
        CHECK.about("calls");
        CHECK.same("in the face", found, 29);
    }

    private static String exceptionsOf(String row) {
        String[] cells = row.split("\\|");
        String names = cells[3].replaceAll("\\(.*\\)", "").trim();
        return names.replace("Index", "IndexOutOfBoundsException").replace("Argument", "IllegalArgumentException")
                .replace("State", "IllegalStateException").replaceAll(" +(?=,|$)", "");
    }

    /** Each range that the document names for an argument stands in a row of that argument. */
    private static void ranges(List<String> readme) {
        int found = 0;
        CHECK.about("ranges");
        for (String line : Document.lines()) {
            Matcher told = Pattern.compile("- (`\\w+`): .*?((-?\\d+|today|from) to -?\\d+).*").matcher(line);
            if (told.matches()) {
                found++;
                boolean there = readme.stream().anyMatch(row -> isRowOf(told.group(1), told.group(2), row));
                CHECK.same(line + ", in README.md", there ? 1 : 0, 1);
            }
        }
        CHECK.same("ranges", found, 24);
    }

    private static boolean isRowOf(String argument, String range, String row) {
        List<String> cells = new ArrayList<>(Arrays.asList(row.split("\\|")));
        return cells.size() == 3 && cells.get(1).contains(argument)
                && (cells.get(2) + " ").matches(" " + Pattern.quote(range) + "[ ,].*");
    }
}
