import java.lang.management.ManagementFactory;
import java.lang.reflect.Constructor;
import java.lang.reflect.Field;
import java.lang.reflect.Member;
import java.lang.reflect.Method;
import java.lang.reflect.Modifier;
import java.nio.charset.StandardCharsets;
import java.nio.file.Files;
import java.nio.file.Path;
import java.util.ArrayList;
import java.util.Arrays;
import java.util.List;
import java.util.TreeSet;
import java.util.regex.Matcher;
import java.util.regex.Pattern;

/** The public face, the rules of LANGUAGE.md that a look at the class can tell, and what its calls make. */
public final class FaceTest {
    private static final String[] FACE = {
        "int type(long)", "int read()", "int fault(boolean)", "int gap(int, boolean)", "boolean set(int, int)",
        "int target(int, int, int)", "int leave(int)", "int move(int)", "int look()", "int undo()", "int count(int)",
        "int gapOf(int, int)", "int targetOf(int, int)", "int blind(int)", "int doppler(int, int)", "int dark(int)",
        "int period()", "int reach(int, int)", "int joined(int, int, int, int, int)", "int at(int, int, boolean)",
        "int hits(int)", "int found(int, boolean)", "int makers(int)", "int picture(int, boolean)", "int pairs(int)",
        "int track(int, int)", "int order(int, int)", "int choose(int, int, int, int)", "int more(boolean)",
        "int shaken(int, boolean)", "int dwell(int, int, int, int)", "int until(int, int)", "boolean image(int)",
        "boolean again(int)"};

    private static final String[] BARRED = {
        "^(?!.*\\b(case|default)\\b).*->", "::", "Exact\\(", "\\bsynchronized\\b", "\\bfinally\\b", "\\bassert\\b",
        "\\bextends \\w*Exception", "\\bSystem\\.(?!arraycopy)", "\\bhashCode\\b", "\\bprotected\\b", "\\bstatic \\{",
        "\\bRandom\\b", "\\bThread\\b", "^package ",
        "\\bcatch \\((ArrayIndexOutOfBounds|NullPointer|ClassCast|NegativeArraySize|ArrayStore)Exception"};
    // The page's room for a run is some 7.3 million fields and elements; calls that made this much would want a look.
    private static final long MOST_MADE = 1000000;

    private static int wrong;

    private static void check(boolean right, String what) {
        if (!right) {
            wrong++;
            System.out.println(what);
        }
    }

    public static void main(String[] args) throws Exception {
        checkFace();
        checkNested();
        checkSource();
        checkRoom();
        System.out.println(wrong == 0 ? "the face and the rules are kept" : wrong + " rules are not kept");
        if (wrong != 0) {
            System.exit(1);
        }
    }

    private static void checkFace() throws Exception {
        Class<?> face = StaggerRadar.class;
        check(Modifier.isPublic(face.getModifiers()) && Modifier.isFinal(face.getModifiers()), "the class is public, final");
        TreeSet<String> methods = new TreeSet<>();
        for (Method m : face.getDeclaredMethods()) {
            if (Modifier.isPublic(m.getModifiers())) {
                String types = Arrays.toString(m.getParameterTypes());
                methods.add(m.getReturnType() + " " + m.getName() + "(" + types.substring(1, types.length() - 1) + ")");
            }
            checkHidden(m, m.isSynthetic());
        }
        check(methods.equals(new TreeSet<>(List.of(FACE))), "the public methods are " + methods);
        for (Field f : face.getDeclaredFields()) {
            boolean none = f.getName().equals("NONE");
            check(none == Modifier.isPublic(f.getModifiers()), "public or not: " + f);
            check(!Modifier.isStatic(f.getModifiers()) || Modifier.isFinal(f.getModifiers()), "static, not final: " + f);
            checkHidden(f, f.isSynthetic());
        }
        Constructor<?>[] makers = face.getDeclaredConstructors();
        check(makers.length == 1 && Modifier.isPublic(makers[0].getModifiers()), "one public constructor");
        check(face.getField("NONE").getInt(null) == -1, "NONE is -1");
    }

    private static void checkHidden(Member m, boolean made) {
        boolean open = Modifier.isPublic(m.getModifiers()) || Modifier.isPrivate(m.getModifiers());
        check(open || made, "neither public nor private: " + m);
    }

    private static void checkNested() {
        TreeSet<String> names = new TreeSet<>();
        for (String one : FACE) {
            names.add(one.substring(one.indexOf(' ') + 1, one.indexOf('(')));
        }
        List<Class<?>> all = new ArrayList<>(List.of(StaggerRadar.class.getDeclaredClasses()));
        check(all.size() + 1 <= 12, "classes: " + all.size());
        for (Class<?> one : all) {
            check(Modifier.isStatic(one.getModifiers()), "not static: " + one);
            check(!Modifier.isPublic(one.getModifiers()), "public: " + one);
            check(countFields(one) <= 24, "many fields: " + one);
            for (Method m : one.getDeclaredMethods()) {
                boolean own = Modifier.isPrivate(m.getModifiers());
                check(!own || !names.contains(m.getName()), "bears the name of a public one: " + m);
                check(m.getParameterCount() <= 7, "many parameters: " + m);
            }
        }
        for (Method m : StaggerRadar.class.getDeclaredMethods()) {
            check(Modifier.isPublic(m.getModifiers()) || !names.contains(m.getName()), "bears the name of a public one: " + m);
        }
    }

    private static int countFields(Class<?> one) {
        int size = 0;
        for (Field f : one.getDeclaredFields()) {
            size += Modifier.isStatic(f.getModifiers()) ? 0 : 1;
        }
        return size;
    }

    private static void checkSource() throws Exception {
        Path file = Path.of(System.getProperty("project.root", "."), "src/main/java/StaggerRadar.java");
        String source = Files.readString(file, StandardCharsets.ISO_8859_1);
        for (int i = 0; i < source.length(); i++) {
            check(source.charAt(i) < 127, "a sign beyond 126 at " + i);
        }
        String bare = source.replaceAll("(?s)/\\*.*?\\*/", "").replaceAll("//[^\n]*", "");
        for (String one : BARRED) {
            Matcher m = Pattern.compile(one, Pattern.MULTILINE).matcher(bare);
            check(!m.find(), "barred: " + one);
        }
        int since = 0;
        int line = 0;
        for (String one : source.split("\n", -1)) {
            line++;
            if (one.matches("    (    )?[a-z].*\\) (throws \\w+ )?\\{")) {
                since = line;
            }
            if (one.matches("    (    )?\\}") && since > 0) {
                check(line - since <= 66, "a long method at line " + since);
                since = 0;
            }
        }
    }

    /** What calls make stays far below a run's room, as does an object. */
    private static void checkRoom() {
        com.sun.management.ThreadMXBean threads = (com.sun.management.ThreadMXBean) ManagementFactory.getThreadMXBean();
        long id = Thread.currentThread().getId();
        callAll(new StaggerRadar());
        StaggerRadar x = new StaggerRadar();
        long before = threads.getThreadAllocatedBytes(id);
        long between = threads.getThreadAllocatedBytes(id);
        callAll(x);
        long made = threads.getThreadAllocatedBytes(id) - between - (between - before);
        check(made < MOST_MADE, "calls made " + made + " bytes");
        before = threads.getThreadAllocatedBytes(id);
        StaggerRadar y = new StaggerRadar();
        made = threads.getThreadAllocatedBytes(id) - before;
        check(y.read() == 0 && made < MOST_MADE, "an object takes " + made + " bytes");
    }

    private static void callAll(StaggerRadar x) {
        int sum = 0;
        for (int i = 0; i < 4; i++) {
            x.type(0x6761702031303B20L);
            sum += x.read();
            sum += x.gap(13 + i, false) + x.gap(17 + i, false) + x.gap(22 + i, false) + x.gap(29 + i, false);
            for (int t = 0; t < 8; t++) {
                sum += x.target(40 * t + 7, 3 + t, 9 + t);
            }
            for (int t = 0; t < 5; t++) {
                sum += x.look() + x.move(3);
            }
            sum += x.undo() + x.leave(2) + (x.set(4, 1 + i % 5) ? 1 : 0);
            for (int what = 0; what < 20; what++) {
                sum += x.count(what);
            }
            for (int what = 0; what < 7; what++) {
                sum += x.targetOf(1, what) + x.gapOf(1, what % 4);
            }
            sum += x.blind(i) + x.doppler(i, 1) + x.dark(i) + x.period() + x.reach(7, 1) + x.joined(1, 2, 3, 4, 5);
            sum += x.at(1, i, true) + x.hits(i) + x.found(i, true) + x.makers(i) + x.picture(i, false) + x.pairs(i % 3);
            sum += x.track(i, 10) + x.track(-1, 0) + x.order(64, 0) + x.choose(4, 40, 60, 0);
            sum += x.shaken(3, true) + x.dwell(i, 64, 3, 3) + x.until(1, 200) + x.fault(true);
            sum += (x.image(1) ? 1 : 0) + (x.again(1) ? 1 : 0) + x.gap(10, true) + x.more(false) + x.more(true);
        }
        check(sum != 0, "answers that are all nothing");
    }
}
