import java.io.IOException;
import java.lang.reflect.Method;
import java.lang.reflect.Modifier;
import java.nio.charset.StandardCharsets;
import java.nio.file.Files;
import java.nio.file.Path;
import java.util.Set;
import java.util.TreeSet;
import java.util.regex.Matcher;
import java.util.regex.Pattern;

/** README.md tells how the class is used: what it tells is so, and no call or finding is left out. */
public final class ReadmeTest {
    private static final Pattern EXAMPLE = Pattern.compile("x\\.(\\w+)\\((.*?)\\); +// (-?\\d+): .*");
    private static final Pattern CALL = Pattern.compile("\\| `(\\w+)\\((.*?)\\)` \\|.*");
    private static final Pattern FINDING = Pattern.compile("\\| (-1\\d{9}) \\| ([A-Z]+) \\|.*");
    private static final Pattern ISLAND = Pattern.compile("(?s).*A text of an island is, for one: `([^`]*)`.*");
    private static final String FINDINGS = "BEYOND FULL KIND NONE STATE MISSING SIZE";

    private static int wrong = 0;

    private static void expect(boolean holds, String what) {
        if (!holds) {
            wrong++;
            System.out.println(what);
        }
    }

    public static void main(String[] args) throws IOException, ReflectiveOperationException {
        String readme = Files.readString(Path.of("README.md"));
        exampleAnswersAsSaid(readme);
        everyCallIsNamed(readme);
        everyFindingIsNamed(readme);
        textOfAnIslandIsOne(readme);
        System.out.println(wrong == 0 ? "README.md tells what is so" : wrong + " lines of README.md are not so");
        if (wrong != 0) {
            System.exit(1);
        }
    }

    private static Method methodOf(String name) {
        for (Method m : BeamSeats.class.getDeclaredMethods()) {
            if (m.getName().equals(name) && Modifier.isPublic(m.getModifiers())) {
                return m;
            }
        }
        return null;
    }

    private static int parametersIn(String list) {
        return list.isBlank() ? 0 : list.split(",").length;
    }

    private static long answer(BeamSeats x, Method m, String list) throws ReflectiveOperationException {
        Object[] arguments = new Object[m.getParameterCount()];
        for (int k = 0; k < arguments.length; k++) {
            long v = Long.decode(list.split(",")[k].trim());
            if (m.getParameterTypes()[k] == long.class) {
                arguments[k] = v;
            } else {
                arguments[k] = (int) v;
            }
        }
        return ((Number) m.invoke(x, arguments)).longValue();
    }

    private static void exampleAnswersAsSaid(String readme) throws ReflectiveOperationException {
        int start = readme.indexOf("```java\nBeamSeats x = new BeamSeats();\n");
        int end = readme.indexOf("```\n", start + 1);
        expect(start >= 0 && end > start, "README.md has no example");
        if (start < 0 || end <= start) {
            return;
        }
        BeamSeats x = new BeamSeats();
        String[] lines = readme.substring(start, end).split("\n");
        for (int k = 2; k < lines.length; k++) {
            Matcher m = EXAMPLE.matcher(lines[k]);
            boolean reads = m.matches();
            Method method = reads ? methodOf(m.group(1)) : null;
            if (method == null || parametersIn(m.group(2)) != method.getParameterCount()) {
                expect(false, "no call with its answer: " + lines[k]);
                continue;
            }
            long got = answer(x, method, m.group(2));
            expect(got == Long.parseLong(m.group(3)), lines[k] + " - answered " + got);
        }
    }

    private static void everyCallIsNamed(String readme) {
        Set<String> named = new TreeSet<>();
        for (String line : readme.split("\n")) {
            Matcher m = CALL.matcher(line);
            if (m.matches()) {
                Method method = methodOf(m.group(1));
                expect(method != null && method.getParameterCount() == parametersIn(m.group(2)),
                        "no such call: " + line);
                expect(named.add(m.group(1)), "named twice: " + line);
            }
        }
        for (Method method : BeamSeats.class.getDeclaredMethods()) {
            expect(!Modifier.isPublic(method.getModifiers()) || named.contains(method.getName()),
                    "README.md does not name " + method.getName());
        }
    }

    private static void everyFindingIsNamed(String readme) {
        StringBuilder names = new StringBuilder();
        int found = 0;
        for (String line : readme.split("\n")) {
            Matcher m = FINDING.matcher(line);
            if (m.matches()) {
                found++;
                names.append(found == 1 ? "" : " ").append(m.group(2));
                expect(Integer.parseInt(m.group(1)) == -1000000000 - found, "another number is due: " + line);
            }
        }
        expect(names.toString().equals(FINDINGS), "findings named: " + names);
    }

    private static void textOfAnIslandIsOne(String readme) {
        Matcher m = ISLAND.matcher(readme);
        expect(m.matches(), "README.md has no text of an island");
        if (!m.matches()) {
            return;
        }
        BeamSeats x = new BeamSeats();
        for (byte b : m.group(1).getBytes(StandardCharsets.ISO_8859_1)) {
            x.feed(b, 1);
        }
        int items = m.group(1).split(";").length;
        int got = x.island();
        expect(got == items, "the text of an island answered " + got + ", due is " + items);
    }
}
