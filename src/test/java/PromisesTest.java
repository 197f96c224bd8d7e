import java.util.NoSuchElementException;

/** Each promise of the document by calls whose answers were worked out by hand. */
public final class PromisesTest {
    private static final int NONE = StaggerRadar.NONE;
    private static final int NO_INT = Integer.MIN_VALUE;
    private static final int NO_TRACK = -100000;
    private static final int[] FIRSTS = {60, 0, 1, 500, 2, 100, 1};
    private static final int[][] BOUNDS = {{2, 999}, {0, 49}, {0, 9}, {1, 1000}, {1, 5}, {1, 200}, {1, 200}};
    private static final String[] WORDS = {"wave", "notch", "pulse", "limit", "need", "span", "floor"};
    private static final int WAVE = 0, NOTCH = 1, PULSE = 2, LIMIT = 3, NEED = 4, SPAN = 5, FLOOR = 6;

    private static int promise;
    private static int asked;
    private static int wrong;

    private static void due(String what, long got, long want) {
        asked++;
        if (got != want) {
            wrong++;
            System.out.println("promise " + promise + ": " + what + " answered " + got + ", due is " + want);
        }
    }

    private static void due(String what, boolean got, boolean want) {
        due(what, got ? 1 : 0, want ? 1 : 0);
    }

    public static void main(String[] args) {
        promise = 1; newObject();
        promise = 2; type();
        promise = 3; read();
        promise = 4; fault();
        promise = 5; gap();
        promise = 6; set();
        promise = 7; target();
        promise = 8; leave();
        promise = 9; move();
        promise = 10; look();
        promise = 11; undo();
        promise = 12; count();
        promise = 13; gapOf();
        promise = 14; targetOf();
        promise = 15; blind();
        promise = 16; doppler();
        promise = 17; dark();
        promise = 18; period();
        promise = 19; reach();
        promise = 20; joined();
        promise = 21; at();
        promise = 22; hits();
        promise = 23; found();
        promise = 24; makers();
        promise = 25; picture();
        promise = 26; pairs();
        promise = 27; track();
        promise = 28; order();
        promise = 29; choose();
        promise = 30; more();
        promise = 31; shaken();
        promise = 32; dwell();
        promise = 33; until();
        promise = 34; image();
        promise = 35; again();
        System.out.println(asked + " answers asked for, " + wrong + " not as due");
        if (wrong != 0) {
            System.exit(1);
        }
    }

    private static long eight(String signs) {
        long all = 0;
        for (int i = 0; i < 8; i++) {
            all = all << 8 | (i < signs.length() ? signs.charAt(i) & 255 : 0);
        }
        return all;
    }

    private static void typeAll(StaggerRadar x, String text) {
        for (int i = 0; i < text.length(); i += 8) {
            x.type(eight(text.substring(i, Math.min(text.length(), i + 8))));
        }
    }

    private static int read(StaggerRadar x, String text) {
        typeAll(x, text);
        return x.read();
    }

    private static StaggerRadar radarOf(String text) {
        StaggerRadar x = new StaggerRadar();
        read(x, text);
        due("the FAULT of " + text, x.fault(false), 0);
        return x;
    }

    /** Gaps 10 and 12; one target that both see, at places 3 and 5: 53, 113, .. 473 are FOUND. */
    private static StaggerRadar one() {
        return radarOf("gap 12;gap 10;go 53 7 20;");
    }

    private static void newObject() {
        StaggerRadar x = new StaggerRadar();
        int[] counts = {0, 60, 0, 1, 500, 2, 100, 1, 0, 0, 0, 100, 0, 0, 0, 0, 0, 0, 0, 0};
        for (int what = 0; what < counts.length; what++) {
            due("count(" + what + ")", x.count(what), counts[what]);
        }
        due("fault", x.fault(false), 0);
        due("place", x.fault(true), NONE);
        due("undo", x.undo(), NONE);
        due("again", x.again(0), false);
        due("blind", x.blind(0), 0);
        due("target 0", targetOf(x, 0, 0), -7);
        due("gap 0", gapOf(x, 0, 0), -7);
    }

    private static void type() {
        StaggerRadar x = new StaggerRadar();
        due("eight bytes", x.type(eight("gap 10;w")), 8);
        due("three bytes", x.type(eight("ave")), 11);
        due("none", x.type(0L), 11);
        due("the first is 0", x.type(0x0067617020313131L), 11);
        due("behind a 0 none comes", x.type(0x2000373737373737L), 12);
        due("the lowest one", x.type(0x3630303030303030L | 0L), 20);
        due("bytes above 127", x.type(0xFF80FE8190A0B0C0L), 28);
        due("bytes that are there", x.count(18), 28);

        StaggerRadar full = new StaggerRadar();
        for (int i = 1; i < 50; i++) {
            due("row " + i, full.type(eight("gap 1;  ")), 8 * i);
        }
        due("392 and 5", full.type(eight("12345")), 397);
        due("397 and 4", full.type(eight("1234")), NONE);
        due("nothing came", full.count(18), 397);
        due("397 and 3", full.type(eight("123")), 400);
        due("400 and 0", full.type(0L), 400);
        due("400 and 1", full.type(eight("1")), NONE);
        due("nothing came", full.count(18), 400);
    }

    private static void read() {
        StaggerRadar x = new StaggerRadar();
        due("an empty text", x.read(), 0);
        due("gaps", read(x, "gap 12;gap 10 ; gap\n11;wave 61;notch 2;pulse 3;limit 400;need 3;span 90;floor 7;"), 3);
        due("THE TEXT is empty", x.count(18), 0);
        int[] told = {3, 61, 2, 3, 400, 3, 90, 7, 0};
        for (int what = 0; what < told.length; what++) {
            due("count(" + what + ")", x.count(what), told[what]);
        }
        due("gaps rise", x.gapOf(0, 0) * 10000 + x.gapOf(1, 0) * 100 + x.gapOf(2, 0), 101112);
        due("targets", read(x, "come 53 7 20;go 2999 500 99;come 0 0 1;wave 2;wave0099;wave 100;gap4;gap60;"), 2);
        due("come", targetOf(x, 0, 1) * 1000 + targetOf(x, 0, 2), 848 * 1000 - 7);
        due("go", targetOf(x, 1, 1) * 1000 + targetOf(x, 1, 2), 47984 * 1000 + 500);
        due("strength", targetOf(x, 1, 3), 99);
        due("later ones strike", x.count(1), 100);
        due("the rest is as at first", x.count(4), 500);
        due("only what was told", x.count(8), 3);

        x.move(3);
        x.move(40);
        x.look();
        due("gone", x.count(10), 1);
        due("a FAULT", read(x, "gap 3;"), NONE);
        due("THE TEXT is empty", x.count(18), 0);
        due("all stays", x.count(0) * 1000 + x.count(9), 2043);
        due("all that can be undone stays", x.count(17), 3);
        due("LOOKS stay", x.count(19), 1);
        due("none", read(x, " \n "), 0);
        for (int what : new int[] {0, 8, 9, 10, 17, 18, 19}) {
            due("all is as at first, " + what, x.count(what), 0);
        }
        due("WAVE is as at first", x.count(1), 60);
    }

    private static void fault(String text, int kind, int place) {
        StaggerRadar x = new StaggerRadar();
        due("read: " + text, read(x, text) == NONE, kind != 0);
        due("FAULT of " + text, x.fault(false), kind);
        due("place of " + text, x.fault(true), place);
    }

    private static String many(String one, int times) {
        StringBuilder all = new StringBuilder();
        for (int i = 0; i < times; i++) {
            all.append(one);
        }
        return all.toString();
    }

    private static void fault() {
        fault("", 0, NONE);
        fault("  \n", 0, NONE);
        fault("gap", 1, 3);
        fault("gap ", 1, 4);
        fault("gap 10", 1, 6);
        fault("gap 10 \n", 1, 8);
        fault("gap;", 1, 3);
        fault("gap 10;;", 1, 7);
        fault("gap 10 10;", 1, 7);
        fault("gap 12345;", 1, 4);
        fault("gap 00010;", 1, 4);
        fault("gap 0010;", 0, NONE);
        fault("10;", 1, 0);
        fault(";", 1, 0);
        fault(" gapp 10;", 1, 1);
        fault("ga 10;", 1, 0);
        fault("cap 10;", 1, 0);
        fault("gapz 10;", 1, 0);
        fault("agap 10;", 1, 0);
        fault("Gap 10;", 1, 0);
        fault("gaP 10;", 1, 0);
        fault("gap\t10;", 1, 3);
        fault("gap 10" + (char) 200 + ";", 1, 6);
        fault("gap -10;", 1, 4);
        fault("gap 10turn 1;", 1, 6);
        fault("turn 1;", 1, 0);
        fault("come 1 2;", 1, 8);
        fault("go 1 2 3 4;", 1, 9);
        fault("come1 2 3;go4 5 6;", 0, NONE);
        fault("gap 3;gap", 1, 9);
        fault("gap 3;gap 10;x", 1, 13);
        fault("gap 3;gap 3;", 2, 4);
        fault("gap 61;", 2, 4);
        fault("gap 4;gap 60;", 0, NONE);
        fault("gap 10;gap 11;gap 10;", 3, 18);
        fault("gap 10;gap 11;gap 12;gap 13;gap 14;", 0, NONE);
        fault("gap 10;gap 11;gap 12;gap 13;gap 14;gap 15;", 4, 35);
        fault("gap 10;gap 11;gap 12;gap 13;gap 14;gap 10;", 4, 35);
        fault("gap 10;gap 11;gap 12;gap 13;gap 14;gap 99;", 4, 35);
        fault("gap 10;gap 10;gap 12;gap 13;gap 14;gap 15;", 3, 11);
        for (int i = 0; i < WORDS.length; i++) {
            int at = WORDS[i].length() + 1;
            fault(WORDS[i] + " " + BOUNDS[i][0] + ";" + WORDS[i] + " " + BOUNDS[i][1] + ";", 0, NONE);
            fault(WORDS[i] + " " + (BOUNDS[i][1] + 1) + ";", 2, at);
            if (BOUNDS[i][0] > 0) {
                fault(WORDS[i] + " " + (BOUNDS[i][0] - 1) + ";", 2, at);
            }
        }
        fault("come 2999 500 99;go 0 0 1;", 0, NONE);
        fault("come 3000 501 100;", 2, 5);
        fault("come 2999 501 100;", 2, 10);
        fault("go 2999 500 100;", 2, 12);
        fault("go 1 1 0;", 2, 7);
        fault(many("go 1 1 1;", 8), 0, NONE);
        fault(many("go 1 1 1;", 8) + "come 1 1 1;", 4, 72);
        fault(many("come 1 1 1;", 8) + "go 1 1 1;", 4, 88);
        fault(many("come 1 1 1;", 8) + "go 1 1 1", 1, 96);

        StaggerRadar x = new StaggerRadar();
        read(x, "gap 3;");
        due("the latest read()", x.fault(false), 2);
        typeAll(x, "gap 10;");
        due("typing is no read()", x.fault(true), 4);
        x.read();
        due("without", x.fault(false), 0);
        due("without a place", x.fault(true), NONE);
    }

    private static void gap() {
        StaggerRadar x = new StaggerRadar();
        due("3", x.gap(3, false), NONE);
        due("61", x.gap(61, false), NONE);
        due("60", x.gap(60, false), 1);
        due("4", x.gap(4, false), 2);
        due("30", x.gap(30, false), 3);
        due("30 again", x.gap(30, false), NONE);
        due("31 is not there", x.gap(31, true), NONE);
        due("31", x.gap(31, false), 4);
        due("29", x.gap(29, false), 5);
        due("a 6th", x.gap(28, false), NONE);
        due("acts", x.count(17), 5);
        int[] rising = {4, 29, 30, 31, 60};
        for (int k = 0; k < 5; k++) {
            due("gap " + k, x.gapOf(k, 0), rising[k]);
        }
        due("30 goes", x.gap(30, true), 4);
        due("30 is not there", x.gap(30, true), NONE);
        due("behind it", x.gapOf(2, 0), 31);
        due("28 comes", x.gap(28, false), 5);
        due("it is put in order", x.gapOf(1, 0), 28);
        due("far off", x.gap(Integer.MIN_VALUE, true), NONE);
        due("far off", x.gap(Integer.MAX_VALUE, false), NONE);
    }

    private static void set() {
        for (int what = 0; what < 7; what++) {
            StaggerRadar x = new StaggerRadar();
            due("as it is, " + what, x.set(what, FIRSTS[what]), false);
            due("below, " + what, x.set(what, BOUNDS[what][0] - 1), false);
            due("above, " + what, x.set(what, BOUNDS[what][1] + 1), false);
            due("unchanged, " + what, x.count(what + 1), FIRSTS[what]);
            due("no act, " + what, x.count(17), 0);
            due("most, " + what, x.set(what, BOUNDS[what][1]), true);
            due("most is, " + what, x.count(what + 1), BOUNDS[what][1]);
            due("least, " + what, x.set(what, BOUNDS[what][0]), true);
            due("least is, " + what, x.count(what + 1), BOUNDS[what][0]);
            due("it is that already, " + what, x.set(what, BOUNDS[what][0]), false);
            due("acts, " + what, x.count(17), 2);
        }
        StaggerRadar x = new StaggerRadar();
        due("what -1", x.set(-1, 3), false);
        due("what 7", x.set(7, 3), false);
        due("what far off", x.set(Integer.MIN_VALUE, 3), false);
    }

    private static void target() {
        StaggerRadar x = new StaggerRadar();
        due("range -1", x.target(-1, 0, 1), NONE);
        due("range 3000", x.target(3000, 0, 1), NONE);
        due("speed -501", x.target(0, -501, 1), NONE);
        due("speed 501", x.target(0, 501, 1), NONE);
        due("strength 0", x.target(0, 0, 0), NONE);
        due("strength 100", x.target(0, 0, 100), NONE);
        due("no act", x.count(17), 0);
        due("the least", x.target(0, -500, 1), 0);
        due("the most", x.target(2999, 500, 99), 1);
        due("its spot", x.targetOf(1, 1), 47984);
        for (int i = 2; i < 8; i++) {
            due("target " + i, x.target(i, i, i), i);
        }
        due("a 9th", x.target(1, 1, 1), NONE);
        due("targets", x.count(8), 8);
        due("acts", x.count(17), 8);
    }

    private static void leave() {
        StaggerRadar x = new StaggerRadar();
        due("none", x.leave(0), NONE);
        x.target(10, 1, 5);
        x.target(20, 2, 6);
        x.target(30, 3, 7);
        due("-1", x.leave(-1), NONE);
        due("far off", x.leave(Integer.MAX_VALUE), NONE);
        due("3", x.leave(3), NONE);
        due("1 goes", x.leave(1), 2);
        due("those behind come up", x.targetOf(1, 0) * 100 + x.targetOf(1, 2) * 10 + x.targetOf(1, 3), 3037);
        due("those ahead stay", x.targetOf(0, 0), 10);
        due("it is not GONE", x.count(10), 0);
        due("it is an act", x.count(17), 4);
    }

    private static void move() {
        StaggerRadar x = new StaggerRadar();
        due("0", x.move(0), NONE);
        due("1001", x.move(1001), NONE);
        due("-1", x.move(-1), NONE);
        due("far off", x.move(Integer.MAX_VALUE), NONE);
        x.target(10, 3, 1);
        x.target(10, -160, 1);
        x.target(2999, 15, 1);
        x.target(0, 0, 1);
        due("1", x.move(1), 0);
        due("NOW", x.count(9), 1);
        due("spot", x.targetOf(0, 1), 163);
        due("range", x.targetOf(0, 0), 10);
        due("just there, 0", x.targetOf(1, 1), 0);
        due("just there, 47999", x.targetOf(2, 1), 47999);
        due("both go", x.move(1), 2);
        due("GONE", x.count(10), 2);
        due("targets", x.count(8), 2);
        due("those behind come up", x.targetOf(1, 2), 0);
        due("1000", x.move(1000), 0);
        due("NOW", x.count(9), 1002);
        due("spot", x.targetOf(0, 1), 160 + 3 * 1002);
        due("acts", x.count(17), 7);
        StaggerRadar fast = new StaggerRadar();
        fast.target(1000, 500, 1);
        fast.target(1000, -500, 1);
        due("1000 at once", fast.move(1000), 2);
        fast.target(2999, 16, 1);
        fast.target(0, -1, 1);
        due("48000 and -1 are out", fast.move(1), 2);
    }

    private static void look() {
        StaggerRadar x = one();
        due("one number", x.look(), 1);
        due("NOW is that of the latest one", x.look(), NONE);
        due("acts", x.count(17), 1);
        x.set(NEED, 3);
        due("still that NOW", x.look(), NONE);
        x.move(1);
        due("no number", x.look(), 0);
        due("LOOKS", x.count(19), 2);
        for (int i = 0; i < 2; i++) {
            x.move(1);
            x.look();
        }
        due("LOOKS", x.count(19), 4);
        x.move(1);
        x.set(NEED, 1);
        due("the oldest goes", x.look(), 1);
        due("LOOKS", x.count(19), 4);
        due("none of the first LOOK is left", x.track(NONE, 0), 0);

        // By 40: 2, 4, .. 16, by 41: 1, 3, .. 15: below 40 each of them is a number of its own.
        StaggerRadar many = radarOf("need 1;limit 40;gap 40;gap 41;");
        for (int range = 42; range <= 56; range += 2) {
            many.target(range, 1, 1);
        }
        due("in the PICTURE", many.count(16), 16);
        due("12 at most", many.look(), 12);
        many.move(1);
        due("12 at most", many.look(), 12);
        due("the first 12 of each", many.track(NONE, 0), 144);
        due("the last ones", many.track(143, 0) * 100 + many.track(143, 1), 1212);
    }

    private static void undo() {
        StaggerRadar x = new StaggerRadar();
        due("none can", x.undo(), NONE);
        x.gap(10, false);
        x.gap(12, false);
        x.target(53, -7, 20);
        x.set(WAVE, 61);
        x.look();
        x.move(200);
        due("it is GONE", x.count(10), 1);
        x.gap(10, true);
        x.target(5, 1, 1);
        due("8 can", x.count(17), 8);
        x.leave(0);
        due("the latest 8", x.count(17), 8);
        x.gap(77, false);
        x.set(WAVE, 61);
        x.leave(5);
        x.move(0);
        due("refused ones are none", x.count(17), 8);
        due("leave", x.undo(), 7);
        due("target is there", x.count(8), 1);
        due("target", x.undo(), 6);
        due("target is not there", x.count(8), 0);
        due("gap off", x.undo(), 5);
        due("gap is there", x.gapOf(0, 0), 10);
        typeAll(x, "gap");
        due("move", x.undo(), 4);
        due("NOW", x.count(9), 0);
        due("GONE", x.count(10), 0);
        due("the target is back", x.targetOf(0, 1), 848);
        due("THE TEXT is no act's", x.count(18), 3);
        due("LOOKS", x.count(19), 1);
        due("look", x.undo(), 3);
        due("no LOOKS", x.count(19), 0);
        due("set", x.undo(), 2);
        due("WAVE", x.count(1), 60);
        due("target", x.undo(), 1);
        due("gap", x.undo(), 0);
        due("the first gap stays", x.count(0), 1);
        due("none can", x.undo(), NONE);
        x.gap(20, false);
        due("one can", x.count(17), 1);
        x.read();
        due("read() with a FAULT leaves it", x.count(17), 1);
        x.read();
        due("read() without leaves none", x.undo(), NONE);

        StaggerRadar looks = one();
        for (int i = 0; i < 5; i++) {
            looks.look();
            looks.move(1);
        }
        // 53, 53, 53, 54, 54: the first one went.
        due("the oldest LOOK went", looks.track(0, 2), 54);
        due("move is undone", looks.undo(), 7);
        due("look is undone", looks.undo(), 6);
        due("four again", looks.count(19), 4);
        due("the oldest LOOK is back", looks.track(0, 2), 53);
    }

    private static void count() {
        StaggerRadar x = one();
        x.target(113, 5, 3);
        x.target(600, 7, 3);
        x.target(60, 7, 3);
        // 113 is where 53 is heard; blind by 12. 600 is beyond LIMIT, at place 0; 60 is at place 0.
        int[] due = {2, 60, 0, 1, 500, 2, 100, 1, 4, 0, 0, 33, 2, 8, 6, 8, 1, 3, 0, 0};
        for (int what = 0; what < due.length; what++) {
            due("count(" + what + ")", x.count(what), due[what]);
        }
        due("a target that place 0 hides is MISSED", radarOf("gap 10;gap 12;go 60 7 1;").count(15), 1);
        StaggerRadar zero = radarOf("pulse 0;gap 10;gap 12;go 60 7 1;limit 121;");
        due("0, 60, 120 are FOUND", zero.count(13), 3);
        due("0, 120 are GHOSTS", zero.count(14), 2);
        due("one in the PICTURE", zero.count(16), 1);
        zero.set(LIMIT, 120);
        due("0, 60", zero.count(13), 2);
        zero.set(LIMIT, 60);
        due("0", zero.count(13), 1);
        due("60 is not below LIMIT", zero.count(15), 0);
        StaggerRadar five = radarOf("gap 10;gap 11;gap 13;gap 17;gap 19;go 53 7 20;");
        due("ECHOES of five gaps", five.count(12), 5);
        due("count(-1)", x.count(-1), NONE);
        due("count(20)", x.count(20), NONE);
        due("far off", x.count(Integer.MIN_VALUE), NONE);
        x.type(eight("abc"));
        x.move(2);
        x.look();
        due("NOW", x.count(9), 2);
        due("bytes", x.count(18), 3);
        due("LOOKS", x.count(19), 1);
        due("acts", x.count(17), 5);
        x.move(1000);
        due("GONE", x.count(10), 0);
        x.target(0, -1, 1);
        x.move(1);
        due("GONE", x.count(10), 1);
    }

    /** -7 stands for the exception. */
    private static int gapOf(StaggerRadar x, int k, int what) {
        try {
            return x.gapOf(k, what);
        } catch (NoSuchElementException none) {
            return -7;
        }
    }

    private static int targetOf(StaggerRadar x, int target, int what) {
        try {
            return x.targetOf(target, what);
        } catch (NoSuchElementException none) {
            return -7;
        }
    }

    private static void gapOf() {
        StaggerRadar x = one();
        x.target(54, 5, 1);
        x.target(63, 1, 2);
        due("it", gapOf(x, 0, 0), 10);
        due("it", gapOf(x, 1, 0), 12);
        due("ECHOES of 10: 3, 4", gapOf(x, 0, 1), 2);
        due("ECHOES of 12: 5, 3", gapOf(x, 1, 1), 2);
        due("SEEN by 10", gapOf(x, 0, 2), 7);
        due("SEEN by 12: speed 5 is BLIND", gapOf(x, 1, 2), 5);
        due("BLIND by 10: 6, 12, ..", gapOf(x, 0, 3), 16);
        due("BLIND by 12: 5, 10, ..", gapOf(x, 1, 3), 20);
        x.set(FLOOR, 21);
        due("by FLOOR, 20 and 2 at 3", gapOf(x, 0, 1), 1);
        due("by FLOOR", gapOf(x, 1, 1), 0);
        x.set(SPAN, 5);
        due("by SPAN", gapOf(x, 0, 3), 0);
        x.set(PULSE, 4);
        due("by PULSE", gapOf(x, 0, 2), 2);
        StaggerRadar slow = radarOf("gap 10;notch 10;span 1;pulse 0;go 60 7 1;go 60 2 1;");
        due("speed 1: 10", gapOf(slow, 0, 3), 1);
        due("place 0 without PULSE", gapOf(slow, 0, 1), 1);
        due("speed 7: 10", gapOf(slow, 0, 2), 2);
        due("-1", gapOf(x, -1, 0), -7);
        due("2", gapOf(x, 2, 0), -7);
        due("what -1", gapOf(x, 0, -1), -7);
        due("what 4", gapOf(x, 0, 4), -7);
    }

    private static void targetOf() {
        StaggerRadar x = one();
        x.target(54, -5, 9);
        x.target(500, 1, 1);
        x.move(1);
        due("RANGE", targetOf(x, 1, 0), 53);
        due("SPOT", targetOf(x, 1, 1), 859);
        due("SPEED", targetOf(x, 1, 2), -5);
        due("STRENGTH", targetOf(x, 1, 3), 9);
        due("SEEN by 10 alone", targetOf(x, 1, 4), 1);
        due("BLIND by 12", targetOf(x, 1, 5), 2);
        due("FOUND", targetOf(x, 0, 6), 1);
        due("FOUND by another", targetOf(x, 1, 6), 1);
        due("LIMIT", targetOf(x, 2, 6), 2);
        due("place 0 is not SEEN", targetOf(x, 2, 4), 2);
        x.set(LIMIT, 501);
        due("not FOUND", targetOf(x, 2, 6), 0);
        due("-1", targetOf(x, -1, 0), -7);
        due("3", targetOf(x, 3, 0), -7);
        due("what -1", targetOf(x, 0, -1), -7);
        due("what 7", targetOf(x, 0, 7), -7);
    }

    private static void blind() {
        StaggerRadar x = one();
        due("7", x.blind(7), 0);
        due("6 by 10", x.blind(6), 1);
        due("5 by 12", x.blind(5), 2);
        due("30 by both", x.blind(30), 3);
        due("-30 by both", x.blind(-30), 3);
        due("0", x.blind(0), 3);
        due("-500", x.blind(-500), 2);
        due("500", x.blind(500), 2);
        due("-501", x.blind(-501), NONE);
        due("501", x.blind(501), NONE);
        x.set(NOTCH, 10);
        due("7: 10, 24", x.blind(7), 1);
        due("-7: 50, 36", x.blind(-7), 1);
        due("4: 40, 48", x.blind(4), 0);
        x.set(NOTCH, 12);
        due("4: 40, 12 less than 60", x.blind(4), 2);
        x.set(WAVE, 20);
        due("more than half of WAVE", x.blind(1), 3);
    }

    private static void doppler() {
        StaggerRadar x = one();
        due("7 by 10", x.doppler(7, 0), 10);
        due("7 by 12", x.doppler(7, 1), 24);
        due("-7 by 12", x.doppler(-7, 1), 36);
        due("0", x.doppler(0, 1), 0);
        due("-30", x.doppler(-30, 1), 0);
        due("500", x.doppler(500, 0), 20);
        due("501", x.doppler(501, 0), NONE);
        due("-501", x.doppler(-501, 0), NONE);
        due("gap 2", x.doppler(7, 2), NONE);
        due("gap -1", x.doppler(7, -1), NONE);
        x.set(WAVE, 999);
        due("by another WAVE", x.doppler(-500, 1), 993);
    }

    private static void dark() {
        StaggerRadar x = one();
        due("multiples of 5 and of 6", x.count(11), 33);
        int[] some = {5, 6, 10, 12, 15, 18, 20, 24, 25, 30, 35};
        for (int k = 0; k < some.length; k++) {
            due("dark(" + k + ")", x.dark(k), some[k]);
        }
        due("the last one", x.dark(32), 100);
        due("not so many", x.dark(33), NONE);
        due("-1", x.dark(-1), NONE);
        x.set(NEED, 1);
        due("BLIND by both", x.dark(0), 30);
        due("three", x.dark(2), 90);
        due("no more", x.dark(3), NONE);
        x.set(NEED, 3);
        due("too few gaps", x.dark(99), 100);
        x.set(SPAN, 7);
        due("SPAN", x.count(11), 7);
        StaggerRadar none = new StaggerRadar();
        due("without gaps", none.dark(0), 1);
    }

    private static void period() {
        StaggerRadar x = new StaggerRadar();
        due("without gaps", x.period(), 1);
        x.gap(10, false);
        due("10", x.period(), 6);
        x.gap(12, false);
        due("10, 12", x.period(), 30);
        x.gap(7, false);
        due("7, 10, 12", x.period(), 60);
        x.set(WAVE, 999);
        due("of 999", x.period(), 999);
        x.gap(7, true);
        x.gap(10, true);
        due("12 of 999", x.period(), 333);
        x.set(WAVE, 2);
        due("12 of 2", x.period(), 1);
    }

    private static void reach() {
        StaggerRadar x = one();
        due("none", x.reach(0, 7), 7);
        due("10", x.reach(1, 1), 10);
        due("12", x.reach(2, -3), -36);
        due("both", x.reach(3, 1), 60);
        due("scale 0", x.reach(3, 0), 0);
        due("a 3rd", x.reach(4, 1), NO_INT);
        due("-1", x.reach(-1, 1), NO_INT);
        due("an int", x.reach(3, 35791394), 2147483640);
        due("no int", x.reach(3, 35791395), NO_INT);
        due("an int below 0", x.reach(3, -35791394), -2147483640);
        due("no int below 0", x.reach(3, -35791395), NO_INT);
        due("the most", x.reach(0, Integer.MAX_VALUE), Integer.MAX_VALUE);
        due("without gaps", new StaggerRadar().reach(0, 5), 5);
        due("without gaps 1", new StaggerRadar().reach(1, 5), NO_INT);
        StaggerRadar large = radarOf("gap 59;gap 58;gap 57;gap 55;gap 53;");
        due("five", large.reach(31, 3), 1705747230);
        due("five times 4", large.reach(31, 4), NO_INT);
        due("wraps round to an int", large.reach(31, 8), NO_INT);
    }

    private static void joined() {
        StaggerRadar x = one();
        due("3, 5", x.joined(3, 5, 0, 0, 0), 53);
        due("odd and even", x.joined(3, 4, 0, 0, 0), NONE);
        due("whatever, 5", x.joined(-1, 5, 0, 0, 0), 5);
        due("3, whatever", x.joined(3, -5, 0, 0, 0), 3);
        due("whatever", x.joined(-1, -1, 99, 99, 99), 0);
        due("0, 0", x.joined(0, 0, -1, -1, -1), 0);
        due("9, 11", x.joined(9, 11, -1, -1, -1), 59);
        due("0, 8", x.joined(0, 8, -1, -1, -1), 20);
        due("8, 0", x.joined(8, 0, -1, -1, -1), 48);
        due("no such place", x.joined(10, -1, -1, -1, -1), NONE);
        due("no such place", x.joined(-1, 12, -1, -1, -1), NONE);
        due("far off", x.joined(Integer.MAX_VALUE, Integer.MIN_VALUE, 0, 0, 0), NONE);
        due("without gaps", new StaggerRadar().joined(1, 2, 3, 4, 5), 0);
        StaggerRadar large = radarOf("gap 59;gap 58;gap 57;gap 55;gap 53;");
        int n = 568582409;
        due("far", large.joined(n % 53, n % 55, n % 57, n % 58, n % 59), n);
        n = 500000000;
        due("far", large.joined(n % 53, n % 55, n % 57, n % 58, n % 59), n);
        due("the 5th alone", large.joined(-1, -1, -1, -1, 58), 58);
    }

    private static void at() {
        StaggerRadar x = one();
        x.target(63, 7, 3);
        due("both at 3", x.at(0, 3, false), 3);
        due("together", x.at(0, 3, true), 23);
        due("at 5 of 12", x.at(1, 5, false), 1);
        due("at 3 of 12", x.at(1, 3, false), 2);
        due("at 3 of 12", x.at(1, 3, true), 3);
        due("none there", x.at(1, 11, false), 0);
        due("none there", x.at(1, 11, true), 0);
        due("no such place", x.at(1, 12, false), NONE);
        due("no such place", x.at(0, 10, true), NONE);
        due("no such place", x.at(0, -1, false), NONE);
        due("no such gap", x.at(2, 0, false), NONE);
        due("no such gap", x.at(-1, 0, false), NONE);
        due("place 0", x.at(0, 0, false), 0);
        x.set(FLOOR, 200);
        due("FLOOR is of ECHOES", x.at(0, 3, false), 3);
        x.set(PULSE, 4);
        due("behind the pulse", x.at(0, 3, true), 0);
        x.target(54, 6, 9);
        due("BLIND", x.at(0, 4, false), 0);
        due("by 12 not", x.at(1, 6, true), 9);
    }

    private static void hits() {
        StaggerRadar x = one();
        x.target(63, 7, 3);
        due("53", x.hits(53), 3);
        due("63", x.hits(63), 3);
        due("13", x.hits(13), 1);
        due("5", x.hits(5), 2);
        due("0", x.hits(0), 0);
        due("beyond LIMIT", x.hits(53 + 60 * 165), 3);
        due("9999", x.hits(9999), 2);
        due("five gaps", radarOf("gap 10;gap 11;gap 13;gap 17;gap 19;go 53 7 20;").hits(53), 31);
        due("place 0", radarOf("pulse 0;gap 10;gap 12;go 60 7 1;").hits(0), 3);
        due("10000", x.hits(10000), NONE);
        due("-1", x.hits(-1), NONE);
        x.set(FLOOR, 21);
        due("by FLOOR", x.hits(53), 1);
        x.set(FLOOR, 23);
        due("by FLOOR, just", x.hits(53), 1);
        x.set(FLOOR, 24);
        due("by FLOOR, none", x.hits(53), 0);
    }

    private static void found() {
        StaggerRadar x = one();
        for (int k = 0; k < 8; k++) {
            due("found " + k, x.found(k, false), 53 + 60 * k);
        }
        due("not so many", x.found(8, false), NONE);
        due("-1", x.found(-1, false), NONE);
        due("ghost 0", x.found(0, true), 113);
        due("ghost 6", x.found(6, true), 473);
        due("ghost 7", x.found(7, true), NONE);
        x.target(173, 0, 1);
        due("a TARGET's RANGE is TRUE, SEEN or not", x.found(1, true), 233);
        x.set(LIMIT, 473);
        due("below LIMIT", x.found(7, false), NONE);
        x.set(LIMIT, 474);
        due("below LIMIT", x.found(7, false), 473);
        x.set(NEED, 3);
        due("NEED", x.found(0, false), NONE);
        x.set(NEED, 1);
        due("0", radarOf("pulse 0;gap 10;gap 12;go 60 7 1;").found(0, true), 0);
        due("NEED 1", x.found(0, false), 3);
        due("NEED 1", x.found(1, false), 5);
        due("NEED 1", x.found(2, false), 13);
    }

    private static void makers() {
        StaggerRadar x = one();
        x.target(63, 7, 3);
        due("53", x.makers(53), 3);
        due("5", x.makers(5), 1);
        due("3 of 10, 3 of 12", x.makers(3), 3);
        due("none", x.makers(0), 0);
        due("9953", x.makers(9953), 3);
        due("10000", x.makers(10000), NONE);
        due("-1", x.makers(-1), NONE);
        x.set(FLOOR, 21);
        due("only where there is an ECHO", x.makers(5), 0);
        due("where there is one, all", x.makers(13), 3);
    }

    private static void picture() {
        StaggerRadar x = one();
        due("53", x.picture(0, false), 53);
        due("two", x.picture(0, true), 2);
        due("each ECHO once", x.picture(1, false), NONE);
        due("-1", x.picture(-1, false), NONE);
        due("-1", x.picture(-1, true), NONE);
        x.set(NEED, 1);
        due("both at once", x.count(16), 1);
        // 63: 3 of 10 again, 3 of 12. Both gaps hit 3 first, then 5 of 12 alone is left.
        x.target(63, 7, 3);
        due("the least of those with most", x.picture(0, false), 3);
        due("its hits", x.picture(0, true), 2);
        due("what is left", x.picture(1, false), 5);
        due("its hit", x.picture(1, true), 1);
        due("two", x.count(16), 2);
        x.set(NEED, 2);
        due("NEED", x.count(16), 1);
        // 10, 11, 13 hear 7 at 7, 7, 7: most first, though 3 has fewer and is less.
        StaggerRadar three = radarOf("gap 10;gap 11;gap 13;go 7 7 1;go 3 6 1;");
        due("most", three.picture(0, false), 7);
        due("most", three.picture(0, true), 3);
        due("3, BLIND by 10", three.picture(1, false), 3);
        due("3, BLIND by 10", three.picture(1, true), 2);
        due("no more", three.picture(2, false), NONE);
        StaggerRadar zero = radarOf("pulse 0;gap 10;gap 12;go 60 7 1;");
        due("0 is the least", zero.picture(0, false), 0);
        due("five", radarOf("gap 10;gap 11;gap 13;gap 17;gap 19;go 53 7 20;").picture(0, true), 5);
        three.set(LIMIT, 7);
        due("below LIMIT", three.picture(0, false), 3);
    }

    private static void pairs() {
        StaggerRadar x = new StaggerRadar();
        due("without gaps", x.pairs(0), 0);
        due("without gaps", x.pairs(1), 0);
        due("without gaps", x.pairs(2), 0);
        x = one();
        due("one", x.pairs(0), 1);
        due("joined", x.pairs(1), 1);
        due("true", x.pairs(2), 0);
        due("what 3", x.pairs(3), NONE);
        due("what -1", x.pairs(-1), NONE);
        // 54: 4 of 10, 6 of 12: odd and even places are not joined. 55: 5, 7: 15 joins 5 and 3, no: 5, 5 is 5; 3, 7 is 43.
        x.target(54, 7, 1);
        due("four", x.pairs(0), 4);
        due("two are joined", x.pairs(1), 2);
        x.target(55, 7, 1);
        due("nine", x.pairs(0), 9);
        due("53, 54, 55, 5, 43", x.pairs(1), 5);
        due("5, 43", x.pairs(2), 2);
        x.set(LIMIT, 53);
        due("below LIMIT", x.pairs(1), 2);
        x.set(LIMIT, 5);
        due("below LIMIT", x.pairs(1), 0);
        x.set(LIMIT, 1000);
        due("the least number alone", x.pairs(1), 5);
        x.target(43, 0, 1);
        due("a TARGET's RANGE, SEEN or not", x.pairs(2), 1);
        StaggerRadar zero = radarOf("pulse 0;gap 10;gap 12;go 60 7 1;");
        due("0 is the number", zero.pairs(1), 1);
        due("0 is a GHOST", zero.pairs(2), 1);
        x.gap(59, false);
        x.gap(10, true);
        x.gap(12, true);
        due("one gap", x.pairs(0), 3);
    }

    private static void track() {
        StaggerRadar x = one();
        due("no LOOKS", x.track(NONE, 0), 0);
        x.look();
        due("one LOOK", x.track(NONE, 0), 0);
        due("one LOOK", x.track(0, 0), NO_TRACK);
        x.move(16);
        x.look();
        due("two LOOKS: 53, then 60: place 0", x.track(NONE, 0), 0);
        x.undo();
        x.undo();
        x.move(8);
        x.look();
        due("53, 56", x.track(NONE, 0), 1);
        due("first", x.track(0, 0), 53);
        due("second", x.track(0, 1), 56);
        due("no third LOOK", x.track(0, 2), NO_TRACK);
        due("PACE: 48 by 8", x.track(0, 10), 6);
        due("another what", x.track(0, 11), NO_TRACK);
        due("another what", x.track(0, 4), NO_TRACK);
        due("another what", x.track(0, -1), NO_TRACK);
        due("another what", x.track(NONE, 10), NO_TRACK);
        due("another what", x.track(NONE, 1), NO_TRACK);
        due("not so many", x.track(1, 0), NO_TRACK);
        due("-2", x.track(-2, 0), NO_TRACK);
        // At 20, 848 + 140 is 61: 1 and 1, of which the picture has 1. 53, 56, 1: 3 by 20 and -52 by 8 are 476 apart.
        x.move(12);
        due("1 stands for 61", x.look(), 1);
        due("no TRACK", x.track(NONE, 0), 0);

        StaggerRadar slow = radarOf("gap 50;gap 49;come 40 5 9;");
        slow.look();
        for (int i = 0; i < 3; i++) {
            slow.move(7);
            slow.look();
        }
        // Spots 640, 605, 570, 535: 40, 37, 35, 33.
        due("one", slow.track(NONE, 0), 1);
        int[] numbers = {40, 37, 35, 33};
        for (int i = 0; i < 4; i++) {
            due("number " + i, slow.track(0, i), numbers[i]);
        }
        due("PACE: -112 by 21, cut", slow.track(0, 10), -5);

        // Two at once: 20 goes on by 1 a time, 30 stays.
        StaggerRadar two = radarOf("gap 50;gap 49;go 20 16 9;go 30 1 9;");
        two.look();
        two.move(1);
        two.look();
        due("each with each of two LOOKS", two.track(NONE, 0), 4);
        int[] rows = {2021, 2030, 3021, 3030};
        for (int k = 0; k < 4; k++) {
            due("in order, " + k, two.track(k, 0) * 100 + two.track(k, 1), rows[k]);
        }
        two.move(1);
        two.look();
        due("in line", two.track(NONE, 0), 2);
        due("20, 21, 22", two.track(0, 2), 22);
        due("30, 30, 30", two.track(1, 2), 30);
        two.move(1);
        two.look();
        due("in line", two.track(NONE, 0), 2);
        for (int look = 0; look < 4; look++) {
            due("20, 21, 22, 23", two.track(0, look), 20 + look);
            due("30, 30, 30, 30", two.track(1, look), 30);
        }
        two.move(1);
        two.look();
        due("the oldest LOOK went", two.track(0, 0), 21);
        due("PACE from the first LOOK that is there", two.track(0, 10), 16);
        StaggerRadar later = radarOf("wave 61;gap 50;gap 49;go 20 31 9;");
        later.move(1);
        later.look();
        later.move(1);
        later.look();
        due("PACE from 1 to 2: 21, 23", later.track(0, 10), 32);
        StaggerRadar line = radarOf("wave 61;gap 50;gap 49;go 20 24 9;");
        line.look();
        line.move(1);
        line.look();
        line.move(1);
        line.look();
        due("20, 21, 23: 2 and 3 are apart by 1", line.track(NONE, 0), 1);
        line.move(2);
        line.look();
        due("20, 21, 23, 26", line.track(0, 3), 26);
        due("PACE", line.track(0, 10), 24);
        // Apart by 4, the whole time, at most.
        line.undo();
        line.leave(0);
        line.target(29, 7, 9);
        line.look();
        due("20, 21, 23, 29: 4 and 9 are apart by 5", line.track(NONE, 0), 0);
        line.undo();
        line.leave(0);
        line.target(28, 7, 9);
        line.look();
        due("20, 21, 23, 28: 4 and 8, 12 and 16 are apart by 4", line.track(NONE, 0), 1);
    }

    private static void order() {
        StaggerRadar x = new StaggerRadar();
        due("no gaps", x.order(3, 0), NONE);
        x = radarOf("gap 10;gap 12;go 22 7 1;");
        // 10, 12: sent 0, 10, 22; echoes 22, 32, 44: one is hidden. 12, 10: 0, 12, 22: the same.
        due("one is hidden", x.order(3, 0), 1);
        due("the first one", x.order(3, 10), 10);
        due("the second one", x.order(3, 11), 12);
        due("no third one", x.order(3, 12), NONE);
        x.leave(0);
        x.target(10, 7, 1);
        // 10, 12: sent 0, 10: the echo of the first at 10 is hidden. 12, 10: sent 0, 12: none is.
        due("none is hidden", x.order(2, 0), 0);
        due("12 first", x.order(2, 10), 12);
        due("10 then", x.order(2, 11), 10);
        due("one pulse", x.order(1, 10), 10);
        due("n 0", x.order(0, 0), NONE);
        due("n 65", x.order(65, 0), NONE);
        due("n 64: each 10 of 32 but the last", x.order(64, 0), 31);
        due("what 1", x.order(2, 1), NONE);
        due("what 9", x.order(2, 9), NONE);
        due("far off", x.order(2, Integer.MAX_VALUE), NONE);
        StaggerRadar three = radarOf("gap 5;gap 7;gap 9;go 12 1 1;");
        // 5 and 7 side by side make 12.
        dueOrder(three, 4, 0, 5, 9, 7);
        three.target(16, 1, 1);
        // 7 and 9 make 16: 5, 7, 9 hides two, 5, 9, 7 one, and no order fewer.
        dueOrder(three, 4, 1, 5, 9, 7);
        three = radarOf("gap 5;gap 7;gap 9;go 5 1 1;");
        dueOrder(three, 2, 0, 7, 5, 9);
        dueOrder(three, 3, 0, 7, 9, 5);
        three.target(7, 1, 1);
        dueOrder(three, 2, 0, 9, 5, 7);
        three.leave(0);
        three.target(9, 1, 1);
        dueOrder(three, 2, 0, 5, 7, 9);
        dueOrder(three, 3, 1, 5, 7, 9);
        three.target(12, 1, 1);
        dueOrder(three, 3, 1, 5, 9, 7);
        StaggerRadar five = radarOf("gap 5;gap 6;gap 7;gap 8;gap 9;go 5 1 1;go 11 1 1;go 18 1 1;");
        due("five by 4 pulses", five.order(4, 0), 0);
        due("no target", radarOf("gap 9;gap 5;gap 7;").order(9, 12), 9);
    }

    private static void dueOrder(StaggerRadar x, int n, int hidden, int a, int b, int c) {
        due("hidden of " + n, x.order(n, 0), hidden);
        due("order of " + n, x.order(n, 10) * 100 + x.order(n, 11) * 10 + x.order(n, 12), a * 100 + b * 10 + c);
    }

    private static void choose() {
        StaggerRadar x = new StaggerRadar();
        x.set(LIMIT, 56);
        x.set(SPAN, 1);
        // 7, 8: 56; 7, 9: 63; 8, 9: 72; speed 1 is BLIND by none.
        due("three", x.choose(2, 7, 9, 0), 3);
        due("least together", x.choose(2, 7, 9, 1), 15);
        due("first", x.choose(2, 7, 9, 10), 7);
        due("second", x.choose(2, 7, 9, 11), 8);
        due("third", x.choose(2, 7, 9, 12), NONE);
        x.set(LIMIT, 57);
        due("REACH", x.choose(2, 7, 9, 0), 2);
        due("REACH", x.choose(2, 7, 9, 1), 16);
        due("REACH", x.choose(2, 7, 9, 11), 9);
        x.set(SPAN, 15);
        // Speed 15 is BLIND by 8 (120); of 7 and 9 it is not.
        due("7, 9 alone", x.choose(2, 7, 9, 0), 1);
        x.set(SPAN, 20);
        due("20 is BLIND by 9", x.choose(2, 7, 9, 0), 0);
        due("none", x.choose(2, 7, 9, 1), NONE);
        due("none", x.choose(2, 7, 9, 10), NONE);
        x.set(NEED, 1);
        due("by one of them", x.choose(2, 7, 9, 0), 2);
        x.set(NEED, 5);
        x.set(SPAN, 15);
        due("by all of them", x.choose(2, 7, 9, 0), 1);
        x.set(LIMIT, 1);
        x.set(SPAN, 1);
        due("all of three", x.choose(3, 4, 24, 0), 1330);
        due("all of four", x.choose(4, 40, 60, 0), 4845);
        due("low to high", x.choose(4, 57, 60, 1), NONE);
        x.set(WAVE, 61);
        due("all of four", x.choose(4, 40, 60, 0), 5985);
        due("low to high", x.choose(4, 57, 60, 13), 60);
        StaggerRadar wide = radarOf("wave 101;limit 1;span 100;need 5;");
        due("only 101 is BLIND", wide.choose(4, 10, 20, 0), 330);
        wide.set(SPAN, 101);
        due("by each gap", wide.choose(4, 10, 20, 0), 0);
        due("too few", x.choose(4, 58, 60, 0), 0);
        due("too few", x.choose(4, 58, 60, 1), NONE);
        due("one alone", x.choose(2, 9, 9, 0), 0);
        due("k 1", x.choose(1, 7, 9, 0), NONE);
        due("k 5", x.choose(5, 7, 19, 0), NONE);
        due("low 3", x.choose(2, 3, 9, 0), NONE);
        due("high 61", x.choose(2, 50, 61, 0), NONE);
        due("high below low", x.choose(2, 9, 8, 0), NONE);
        due("21 more", x.choose(2, 4, 25, 0), NONE);
        due("20 more", x.choose(2, 4, 24, 0), 210);
        due("what 2", x.choose(2, 4, 24, 2), NONE);
        due("what 9", x.choose(2, 4, 24, 9), NONE);
        due("what -1", x.choose(2, 4, 24, -1), NONE);
        due("far off", x.choose(2, Integer.MIN_VALUE, Integer.MAX_VALUE, 0), NONE);
        // 11 + 14 and 12 + 13 are 25 both, as are 10 + 15: the first by the first one.
        x.set(LIMIT, 150);
        due("of several", x.choose(2, 11, 14, 1), 25);
        due("the first one", x.choose(2, 11, 14, 10), 11);
    }

    private static void more() {
        StaggerRadar x = new StaggerRadar();
        due("none is enough: the least", x.more(false), 4);
        x.set(NEED, 1);
        x.set(SPAN, 15);
        // 4 is BLIND to 15, 5 to 12, 6 to 10; 7 to none up to 15.
        due("7", x.more(false), 7);
        x.gap(7, false);
        due("what is there is not asked", x.more(false), 4);
        x.set(SPAN, 60);
        // By 7 only 60 is BLIND, and by each gap.
        due("all alike", x.more(false), 4);
        x.set(WAVE, 61);
        due("all alike", x.more(false), 4);
        // Not BLIND from 50 to 73: by 60 speeds 1, 3, 5 (60, 57, 54); by no lesser gap three of five.
        due("the largest one", radarOf("need 1;span 5;wave 123;notch 49;").more(false), 60);
        due("4 is BLIND to 1", radarOf("need 1;span 1;wave 4;").more(false), 5);
        StaggerRadar y = radarOf("gap 10;gap 12;go 53 7 20;limit 100;");
        // Found: 53; a third gap g adds echoes at 53 mod g; 3 (mod 10) and 5 (mod 12) below 100 may meet it.
        int best = 0;
        int least = 1000;
        for (int g = 4; g <= 60; g++) {
            if (g != 10 && g != 12) {
                y.gap(g, false);
                if (y.count(14) < least) {
                    least = y.count(14);
                    best = g;
                }
                y.gap(g, true);
            }
        }
        due("fewest GHOSTS", y.more(true), best);
        y.gap(20, false);
        y.gap(21, false);
        due("five", y.gap(22, false), 5);
        due("five", y.more(false), NONE);
        due("five", y.more(true), NONE);
        due("without targets", radarOf("gap 4;gap 6;").more(true), 5);
    }

    private static void shaken() {
        StaggerRadar x = one();
        due("by 0", x.shaken(0, false), 67);
        due("by 0", x.shaken(0, true), 67);
        due("-1", x.shaken(-1, false), NONE);
        due("4", x.shaken(4, true), NONE);
        x.set(SPAN, 6);
        // 10 by 1: 9, 10, 11: 6 is BLIND by 10. 12 by 1: 11, 12, 13: 5 by 12.
        due("by 1, STEADY", x.shaken(1, false), 4);
        due("by 1, LOOSE", x.shaken(1, true), 6);
        // 12 by 3: 15 makes 4 BLIND, 10 makes 6, too.
        due("by 3, STEADY", x.shaken(3, false), 3);
        x.set(NEED, 1);
        due("by 1 of one, STEADY", x.shaken(1, false), 6);
        x.set(NEED, 3);
        due("of too few", x.shaken(0, true), 0);
        StaggerRadar least = radarOf("gap 4;need 1;span 60;");
        // 1 to 7: 60 is BLIND by all of them.
        due("below 4, too", least.shaken(3, true), 59);
        due("below 4, too", least.shaken(3, false), 60 - countBlindByAny(60, 1, 7));
        StaggerRadar most = radarOf("gap 60;need 1;span 60;");
        due("beyond 60, too", most.shaken(3, false), 0);
        due("beyond 60, too", most.shaken(3, true), 59);
    }

    private static int countBlindByAny(int wave, int from, int to) {
        int size = 0;
        for (int v = 1; v <= 60; v++) {
            boolean any = false;
            for (int g = from; g <= to; g++) {
                any |= v * g % wave == 0;
            }
            size += any ? 1 : 0;
        }
        return size;
    }

    private static void dwell() {
        StaggerRadar x = new StaggerRadar();
        due("no gaps", x.dwell(1, 3, 0, 0), NONE);
        x = radarOf("gap 10;gap 12;go 5 7 1;go 10 7 1;go 11 7 1;go 0 7 1;");
        // Sent 0, 10, 22, then 32. Echoes 5, 15, 27 / 10, 20, 32 / 11, 21, 33 / 0, 10, 22.
        due("the last one", x.dwell(1, 3, 0, 0), 22);
        due("CLEAR: 3, 1, 1, 3", x.dwell(1, 3, 0, 1), 8);
        due("LATE", x.dwell(1, 3, 0, 2), 4);
        due("HIDDEN: 10; 0, 10, 22", x.dwell(1, 3, 0, 3), 4);
        due("longest", x.dwell(1, 3, 0, 4), 12);
        x.set(PULSE, 2);
        due("HIDDEN: 10; 11; 0, 10, 22", x.dwell(1, 3, 0, 3), 5);
        x.set(PULSE, 0);
        due("HIDDEN: at that time", x.dwell(1, 3, 0, 3), 4);
        due("one", x.dwell(1, 1, 0, 0), 0);
        due("one", x.dwell(1, 1, 0, 4), 0);
        due("one: till 10", x.dwell(1, 1, 0, 1), 2);
        due("one", x.dwell(1, 1, 0, 3), 1);
        due("n 0", x.dwell(1, 0, 0, 0), NONE);
        due("n 64", x.dwell(1, 64, 0, 0), 31 * 22 + 10);
        due("n 65", x.dwell(1, 65, 0, 0), NONE);
        due("j -1", x.dwell(1, 3, -1, 0), NONE);
        due("j 4", x.dwell(1, 3, 4, 0), NONE);
        due("what 5", x.dwell(1, 3, 0, 5), NONE);
        due("what -1", x.dwell(1, 3, 0, -1), NONE);
        // Seed 0: x is 12345: the draw is 0. Then 12345 * 1103515245 + 12345 is -740551042: 3554416254 of 32 bits.
        due("a draw of 0", x.dwell(0, 2, 3, 0), 7);
        due("the second one: 54236 of 7 is 0", x.dwell(0, 3, 3, 0), 16);
        due("the same one of 5 is 1", x.dwell(0, 3, 2, 0), 19);
        due("the same one of 3 is 2", x.dwell(0, 3, 1, 0), 22);
        due("longest", x.dwell(0, 3, 1, 4), 13);
        due("longest of two", x.dwell(1, 2, 0, 4), 10);
        for (int i = 0; i < 100; i++) {
            int seed = i * 123456789;
            due("without sign, " + seed, x.dwell(seed, 2, 1, 0), 10 - 1 + draw(seed, 3));
            due("without sign, " + seed, x.dwell(seed, 2, 3, 0), 10 - 3 + draw(seed, 7));
        }
    }

    private static int draw(int seed, int below) {
        long x = ((seed & 0xffffffffL) * 1103515245L + 12345L) & 0xffffffffL;
        return (int) ((x >> 16) % below);
    }

    private static void until() {
        StaggerRadar x = one();
        due("at once", x.until(0, 0), 0);
        due("none such", x.until(1, 9), NONE);
        due("-1", x.until(-1, 9), NONE);
        due("most -1", x.until(0, -1), NONE);
        due("most 201", x.until(0, 201), NONE);
        due("most 200", x.until(0, 200), 0);
        x.target(60, 7, 1);
        // Place 0 of both is behind the pulse; at 3 it is at 60 * 16 + 21: 61.
        due("at 3", x.until(1, 200), 3);
        due("at 3 just", x.until(1, 3), 3);
        due("not by 2", x.until(1, 2), NONE);
        due("questions change nothing", x.count(9) * 100000 + x.targetOf(1, 1), 960);
        x.target(0, -1, 1);
        due("GONE: never", x.until(2, 200), NONE);
        x.target(520, -16, 1);
        // -16 by 10 is 20, by 12 is 48: SEEN. 499 at 21: below LIMIT.
        due("below LIMIT", x.until(3, 200), 21);
        StaggerRadar two = radarOf("gap 10;gap 12;floor 30;go 53 1 20;come 55 16 10;");
        // Together at 53 at 2.
        due("together", two.until(0, 200), 2);
        StaggerRadar lost = radarOf("gap 10;gap 12;floor 30;go 1 1 20;come 1 17 10;");
        due("together at first", lost.until(0, 200), 0);
        lost.set(PULSE, 2);
        // At 16 the one is at 2, but the other is GONE since 1.
        due("the other is GONE", lost.until(0, 20), NONE);
        due("one gap alone", radarOf("gap 10;gap 12;go 53 5 1;").until(0, 200), NONE);
        due("below FLOOR", radarOf("gap 10;gap 12;floor 21;go 53 7 20;").until(0, 200), NONE);
        due("LIMIT", radarOf("gap 10;gap 12;limit 53;go 53 7 20;").until(0, 200), NONE);
        due("below LIMIT", radarOf("gap 10;gap 12;limit 54;go 53 7 20;").until(0, 200), 0);
        due("at 0 it is there", radarOf("gap 10;gap 12;pulse 0;limit 1;come 1 16 5;").until(0, 5), 1);
        StaggerRadar behind = radarOf("gap 10;gap 12;come 0 3 1;go 60 7 1;");
        due("one ahead of it is GONE", behind.until(1, 200), 3);
    }

    private static void image() {
        StaggerRadar x = one();
        due("-1", x.image(-1), false);
        due("3", x.image(3), false);
        due("0", x.image(0), true);
        due("1", x.image(1), true);
        due("2", x.image(2), true);
        x.gap(20, false);
        due("one can be undone", x.count(17), 1);
        due("kept anew", x.image(0), true);
        due("still", x.count(17), 1);
        x.gap(21, false);
        x.again(0);
        due("the later one", x.count(0), 3);
        x.again(1);
        due("the earlier one", x.count(0), 2);
        x.gap(9, false);
        due("the third one", x.again(2), true);
        due("the third one", x.count(0), 2);
    }

    private static void again() {
        StaggerRadar x = one();
        due("none such", x.again(0), false);
        due("-1", x.again(-1), false);
        due("3", x.again(3), false);
        x.look();
        x.move(300);
        x.target(0, -1, 1);
        x.move(1);
        read(x, "gap 3;");
        typeAll(x, "gap 10");
        x.image(1);
        due("another one", x.again(0), false);
        due("refused: acts stay", x.count(17), 4);
        read(x, "");
        due("a FAULT by now", x.fault(false), 1);
        read(x, "wave 3;");
        due("all is other", x.count(0) + x.fault(false), 0);
        x.gap(9, false);
        due("again", x.again(1), true);
        due("gaps", x.gapOf(0, 0) * 100 + x.gapOf(1, 0), 1012);
        due("WAVE", x.count(1), 60);
        due("target", x.targetOf(0, 1), 848 + 7 * 301);
        due("NOW", x.count(9), 301);
        due("GONE", x.count(10), 1);
        due("LOOKS", x.count(19), 1);
        due("THE TEXT", x.count(18), 6);
        due("the FAULT", x.fault(false), 2);
        due("its place", x.fault(true), 4);
        due("none to be UNDONE", x.undo(), NONE);
        typeAll(x, ";wave 7;");
        due("THE TEXT goes on", x.read(), 1);
        due("and is read", x.count(1), 7);
        due("images stay", x.again(1), true);
        due("as it was", x.count(18), 6);
    }
}
