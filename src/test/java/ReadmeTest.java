import java.lang.reflect.Method;
import java.nio.file.Files;
import java.nio.file.Path;
import java.util.ArrayList;
import java.util.List;
import java.util.Map;
import java.util.TreeMap;
import java.util.regex.Matcher;
import java.util.regex.Pattern;

/** README.md: its examples answer what it says, its table has each call under its promises, its tests are those that are there. */
public final class ReadmeTest {
    static int wrong = 0;

    static void expect(boolean holds, String what) {
        if (!holds) {
            wrong++;
            System.out.println(what);
        }
    }

    // as README.md shows it, so that what it shows is compiled
    static int tell(OneMoves town, String text) {
        for (int i = 0; i < text.length(); i += 8) {
            int n = Math.min(8, text.length() - i);
            long eight = 0;
            for (int k = 0; k < n; k++) {
                eight |= (long) text.charAt(i + k) << 8 * k;
            }
            town.feed(eight, n);
        }
        return town.town();
    }

    static List<String> blocks(String readme) {
        List<String> all = new ArrayList<>();
        Matcher m = Pattern.compile("(?s)```java\n(.*?)```").matcher(readme);
        while (m.find()) all.add(m.group(1));
        return all;
    }

    static long answer(OneMoves town, String name, String numbers) throws Exception {
        String[] parts = numbers.isEmpty() ? new String[0] : numbers.split(", ");
        for (Method m : OneMoves.class.getMethods()) {
            if (!m.getName().equals(name) || m.getParameterCount() != parts.length) continue;
            Object[] given = new Object[parts.length];
            for (int i = 0; i < parts.length; i++) given[i] = Integer.parseInt(parts[i]);
            return ((Number) m.invoke(town, given)).longValue();
        }
        throw new IllegalArgumentException("no call " + name);
    }

    static void callsAnswer(String block) throws Exception {
        String[] lines = block.split("\n");
        expect(lines[0].equals("OneMoves town = new OneMoves();"), "an object is made otherwise: " + lines[0]);
        OneMoves town = new OneMoves();
        Pattern form = Pattern.compile("town\\.(\\w+)\\(([-0-9, ]*)\\); +// (-?\\d+): .*");
        for (int i = 1; i < lines.length; i++) {
            Matcher m = form.matcher(lines[i]);
            expect(m.matches(), "not of the form: " + lines[i]);
            if (!m.matches()) continue;
            long got = answer(town, m.group(1), m.group(2));
            expect(got == Long.parseLong(m.group(3)), lines[i] + " -- answered " + got);
        }
    }

    static void textsAnswer(String readme) {
        Matcher m = Pattern.compile("`tell\\(town, \"(.*?)\"\\)` answers (-?\\d+)").matcher(readme);
        int found = 0;
        while (m.find()) {
            found++;
            int got = tell(new OneMoves(), m.group(1));
            expect(got == Integer.parseInt(m.group(2)), m.group() + " -- answered " + got);
        }
        expect(found == 2, "texts that are told: " + found);
    }

    static void everyCallHasItsPromise(String readme, String doc) {
        Map<String, Integer> promises = new TreeMap<>();
        Matcher m = Pattern.compile("## Promise (\\d+): (\\w+)\n").matcher(doc);
        while (m.find()) promises.put(m.group(2), Integer.parseInt(m.group(1)));
        Matcher row = Pattern.compile("\\| (`.*`) \\| [a-z ]+ \\| (\\d+)(?: to|,) (\\d+) \\|").matcher(readme);
        int calls = 0;
        while (row.find()) {
            int from = Integer.parseInt(row.group(2));
            int to = Integer.parseInt(row.group(3));
            String[] names = row.group(1).replace("`", "").split(" ");
            expect(names.length == to - from + 1, "not as many calls as promises: " + row.group());
            for (int i = 0; i < names.length; i++) {
                expect(promises.getOrDefault(names[i], -1) == from + i, names[i] + " isn't promise " + (from + i));
                calls++;
            }
        }
        expect(calls == 43, "calls in the table: " + calls);
    }

    static void everyTestIsNamed(String readme) throws Exception {
        try (var files = Files.list(Path.of("src/test/java"))) {
            for (Path p : files.toList()) {
                String name = p.getFileName().toString().replace(".java", "");
                expect(!name.endsWith("Test") || readme.contains("`" + name + "`"), "README.md doesn't name " + name);
            }
        }
    }

    public static void main(String[] args) throws Exception {
        String readme = Files.readString(Path.of("README.md"));
        List<String> blocks = blocks(readme);
        expect(blocks.size() == 2, "blocks of Java: " + blocks.size());
        callsAnswer(blocks.get(0));
        String here = Files.readString(Path.of("src/test/java/ReadmeTest.java"));
        expect(here.contains(blocks.get(1).indent(4)), "tell() is another one in README.md");
        textsAnswer(readme);
        everyCallHasItsPromise(readme, Files.readString(Path.of("../shared/DOC.md")));
        everyTestIsNamed(readme);
        System.out.println(wrong == 0 ? "README.md is as things are" : wrong + " things in README.md are not so");
        if (wrong != 0) System.exit(1);
    }
}
