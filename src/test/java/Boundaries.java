import java.lang.annotation.Retention;
import java.lang.annotation.RetentionPolicy;
import java.lang.reflect.InvocationTargetException;
import java.lang.reflect.Method;
import java.util.ArrayList;
import java.util.Comparator;
import java.util.List;
import java.util.NoSuchElementException;

/**
 * What the tests of boundary cases share: each is a method that bears the promise's number and the document's
 * sentence, and runs by itself, so that one that breaks does not keep the others from being run.
 */
final class Boundaries {
    static final int NONE = StaggerRadar.NONE;
    static final int NO_INT = Integer.MIN_VALUE;
    static final int NO_TRACK = -100000;
    static final int FAR_BELOW = Integer.MIN_VALUE;
    static final int FAR_ABOVE = Integer.MAX_VALUE;
    /** Stands for the exception where a call that may throw it is asked. */
    static final int THROWN = -777777;

    static final int WAVE = 0, NOTCH = 1, PULSE = 2, LIMIT = 3, NEED = 4, SPAN = 5, FLOOR = 6;
    static final String[] WORDS = {"wave", "notch", "pulse", "limit", "need", "span", "floor"};
    static final int[] FIRSTS = {60, 0, 1, 500, 2, 100, 1};
    static final int[] LEAST = {2, 0, 0, 1, 1, 1, 1};
    static final int[] MOST = {999, 49, 9, 1000, 5, 200, 200};

    private static String running = "";
    private static int asked;
    private static int wrong;

    private Boundaries() {
    }

    @Retention(RetentionPolicy.RUNTIME)
    @interface Sentence {
        int promise();

        String says();
    }

    /** Runs each sentence's test of a class; ends with exit code 1 if one breaks or a promise has none. */
    static void run(Class<?> tests, int firstPromise, int lastPromise) throws IllegalAccessException {
        List<Method> all = new ArrayList<>();
        boolean[] has = new boolean[lastPromise + 1];
        for (Method m : tests.getDeclaredMethods()) {
            if (m.isAnnotationPresent(Sentence.class)) {
                all.add(m);
                has[sentenceOf(m).promise()] = true;
            }
        }
        all.sort(Comparator.comparingInt((Method m) -> sentenceOf(m).promise()).thenComparing(Method::getName));
        for (Method m : all) {
            runOne(m);
        }
        for (int promise = firstPromise; promise <= lastPromise; promise++) {
            running = "promise " + promise;
            due("tests of it", has[promise], true);
        }
        System.out.println(all.size() + " sentences, " + asked + " answers asked for, " + wrong + " not as due");
        if (wrong != 0) {
            System.exit(1);
        }
    }

    private static Sentence sentenceOf(Method m) {
        return m.getAnnotation(Sentence.class);
    }

    private static void runOne(Method m) throws IllegalAccessException {
        running = "promise " + sentenceOf(m).promise() + " (\"" + sentenceOf(m).says() + "\", " + m.getName() + ")";
        try {
            m.setAccessible(true);
            m.invoke(null);
        } catch (InvocationTargetException broken) {
            wrong++;
            System.out.println(running + ": threw " + broken.getCause());
        }
    }

    static void due(String what, long got, long want) {
        asked++;
        if (got != want) {
            wrong++;
            System.out.println(running + ": " + what + " answered " + got + ", due is " + want);
        }
    }

    static void due(String what, boolean got, boolean want) {
        due(what, got ? 1 : 0, want ? 1 : 0);
    }

    // ---- texts

    static long eight(String signs) {
        long all = 0;
        for (int i = 0; i < 8; i++) {
            all = all << 8 | (i < signs.length() ? signs.charAt(i) & 255 : 0);
        }
        return all;
    }

    static void typeAll(StaggerRadar x, String text) {
        for (int i = 0; i < text.length(); i += 8) {
            x.type(eight(text.substring(i, Math.min(text.length(), i + 8))));
        }
    }

    static int read(StaggerRadar x, String text) {
        typeAll(x, text);
        return x.read();
    }

    static String many(String one, int times) {
        return one.repeat(times);
    }

    static StaggerRadar radarOf(String text) {
        StaggerRadar x = new StaggerRadar();
        read(x, text);
        due("the FAULT of " + text, x.fault(false), 0);
        return x;
    }

    // ---- radars

    /** Gaps 10 and 12; one target that both see, at places 3 and 5: 53, 113, .. 473 are FOUND. */
    static StaggerRadar one() {
        return radarOf("gap 10;gap 12;go 53 7 20;");
    }

    /**
     * Five gaps and eight targets, ranges 11 to 18, that all gaps see apart from each other: 40 echoes. All five hit
     * 11 to 18 and 65 to 68 (65 is 15, 14, 13, 12, 11).
     */
    static StaggerRadar full() {
        StaggerRadar x = radarOf("wave 61;need 5;gap 50;gap 51;gap 52;gap 53;gap 54;");
        for (int range = 11; range <= 18; range++) {
            x.target(range, 7, range);
        }
        return x;
    }

    /** As full(), but all that there can be more of is there, too: a fault, bytes, LOOKS, GONE, NOW. */
    static StaggerRadar busy() {
        StaggerRadar x = full();
        x.leave(7);
        x.target(0, -1, 1);
        x.look();
        for (int i = 0; i < 3; i++) {
            x.move(1 + i);
            x.look();
        }
        x.target(19, 7, 5);
        read(x, "gap 3;");
        typeAll(x, "gap 9;");
        return x;
    }

    // ---- all that there is

    /** All that questions tell of what acts can change, and the text's size, the fault, what can be undone. */
    static int[] told(StaggerRadar x) {
        List<Integer> all = new ArrayList<>();
        for (int what = 0; what < 20; what++) {
            all.add(x.count(what));
        }
        all.add(x.fault(false));
        all.add(x.fault(true));
        // An object answers 512 calls, so what is known is not asked again.
        for (int k = 0; k < all.get(0); k++) {
            all.add(x.gapOf(k, 0));
        }
        for (int t = 0; t < all.get(8); t++) {
            for (int what = 1; what <= 3; what++) {
                all.add(x.targetOf(t, what));
            }
        }
        all.add(x.track(NONE, 0));
        for (int look = 0; look < 4; look++) {
            all.add(x.track(0, look));
        }
        return all.stream().mapToInt(Integer::intValue).toArray();
    }

    static void dueSame(String what, int[] got, int[] want) {
        due(what + ": how much is told", got.length, want.length);
        for (int i = 0; i < got.length && i < want.length; i++) {
            due(what + ": row " + i + " of what is told", got[i], want[i]);
        }
    }

    static int gapOf(StaggerRadar x, int k, int what) {
        try {
            return x.gapOf(k, what);
        } catch (NoSuchElementException none) {
            return THROWN;
        }
    }

    static int targetOf(StaggerRadar x, int target, int what) {
        try {
            return x.targetOf(target, what);
        } catch (NoSuchElementException none) {
            return THROWN;
        }
    }
}
