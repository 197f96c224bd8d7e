import java.lang.reflect.Method;
import java.lang.reflect.Modifier;
import java.nio.charset.StandardCharsets;
import java.nio.file.Files;
import java.nio.file.Path;
import java.util.List;
import java.util.regex.Matcher;
import java.util.regex.Pattern;

/** README.md as it stands: its examples are called, its numbers tried, its list of calls held against the class. */
public final class ReadmeTest {
    private static final Pattern CALL = Pattern.compile("radar\\.(\\w+)\\((.*)\\);\\s*// (-?\\w+)(:.*)?");
    private static final Pattern SETTING =
        Pattern.compile("\\| (\\d) \\| (\\d) \\| (\\w+) \\| (\\d+), (\\d+) \\| (\\d+) \\|");

    private static int asked;
    private static int wrong;

    private static void due(String what, Object got, Object want) {
        asked++;
        if (!got.equals(want)) {
            wrong++;
            System.out.println(what + " answered " + got + ", README.md says " + want);
        }
    }

    public static void main(String[] args) throws Exception {
        Path file = Path.of(System.getProperty("project.root", "."), "README.md");
        List<String> lines = Files.readAllLines(file, StandardCharsets.UTF_8);
        callExamples(lines);
        trySettings(lines);
        seekNames(String.join("\n", lines));
        System.out.println(asked + " answers asked for, " + wrong + " not as README.md says");
        if (wrong != 0) {
            System.exit(1);
        }
    }

    private static void callExamples(List<String> lines) throws Exception {
        StaggerRadar radar = null;
        int calls = 0;
        for (String line : lines) {
            if (line.equals("StaggerRadar radar = new StaggerRadar();")) {
                radar = new StaggerRadar();
            } else if (line.startsWith("radar.")) {
                Matcher m = CALL.matcher(line);
                boolean plain = m.matches() && radar != null;
                due("a line of an example can be read: " + line, plain, true);
                if (plain) {
                    calls++;
                    due(line, callOf(radar, m.group(1), m.group(2)), m.group(3));
                }
            }
        }
        due("there are examples", calls > 0, true);
    }

    private static String callOf(StaggerRadar radar, String name, String row) throws Exception {
        Method method = methodOf(name);
        String[] words = row.isEmpty() ? new String[0] : row.split(", ");
        Class<?>[] types = method.getParameterTypes();
        Object[] given = new Object[types.length];
        for (int i = 0; i < given.length; i++) {
            given[i] = valueOf(types[i], words[i]);
        }
        return String.valueOf(method.invoke(radar, given));
    }

    private static Object valueOf(Class<?> type, String word) {
        if (type == boolean.class) {
            return Boolean.parseBoolean(word);
        }
        if (type == long.class) {
            return Long.decode(word.replace("L", ""));
        }
        return Integer.parseInt(word);
    }

    private static Method methodOf(String name) {
        for (Method m : StaggerRadar.class.getDeclaredMethods()) {
            if (m.getName().equals(name) && Modifier.isPublic(m.getModifiers())) {
                return m;
            }
        }
        throw new IllegalArgumentException("README.md calls " + name + ", which is not there");
    }

    /** Each row: the number at first, the bounds, and that set() and count() mean the same one. */
    private static void trySettings(List<String> lines) {
        int rows = 0;
        for (String line : lines) {
            Matcher m = SETTING.matcher(line);
            if (m.matches()) {
                rows++;
                trySetting(m.group(3), new int[] {number(m, 1), number(m, 2), number(m, 4), number(m, 5), number(m, 6)});
            }
        }
        due("rows of settings", rows, 7);
    }

    private static int number(Matcher m, int group) {
        return Integer.parseInt(m.group(group));
    }

    private static void trySetting(String name, int[] row) {
        StaggerRadar radar = new StaggerRadar();
        due(name + " at first", radar.count(row[1]), row[4]);
        due(name + " below the least", radar.set(row[0], row[2] - 1), false);
        due(name + " above the most", radar.set(row[0], row[3] + 1), false);
        for (int bound : new int[] {row[2], row[3]}) {
            boolean another = radar.count(row[1]) != bound;
            due(name + " becomes " + bound, radar.set(row[0], bound), another);
            due(name + " is " + bound, radar.count(row[1]), bound);
        }
    }

    private static void seekNames(String page) {
        for (Method m : StaggerRadar.class.getDeclaredMethods()) {
            if (Modifier.isPublic(m.getModifiers())) {
                due("names " + m.getName(), page.contains("`" + m.getName() + "`"), true);
            }
        }
    }
}
