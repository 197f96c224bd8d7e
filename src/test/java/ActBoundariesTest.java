/** Boundary cases of promises 5 to 11: the acts and their undoing. */
public final class ActBoundariesTest {
    private static final int NONE = Boundaries.NONE;
    private static final int FAR_BELOW = Boundaries.FAR_BELOW;
    private static final int FAR_ABOVE = Boundaries.FAR_ABOVE;
    private static final int WAVE = Boundaries.WAVE;
    private static final int NEED = Boundaries.NEED;

    public static void main(String[] args) throws Exception {
        Boundaries.run(ActBoundariesTest.class, 5, 11);
    }

    private static void due(String what, long got, long want) {
        Boundaries.due(what, got, want);
    }

    private static void due(String what, boolean got, boolean want) {
        Boundaries.due(what, got, want);
    }

    private static StaggerRadar radarOf(String text) {
        return Boundaries.radarOf(text);
    }

    private static void dueGaps(StaggerRadar x, int... rising) {
        due("GAPS", x.count(0), rising.length);
        for (int k = 0; k < rising.length; k++) {
            due("GAP " + k, Boundaries.gapOf(x, k, 0), rising[k]);
        }
    }

    // ---- promise 5

    @Boundaries.Sentence(promise = 5, says = "GAPS, each 4 to 60: NONE: it can not be one")
    static void gapsThatCanBe() {
        for (int gap : new int[] {FAR_BELOW, -60, -4, -1, 0, 1, 3, 61, 64, 100, 260, FAR_ABOVE}) {
            StaggerRadar x = new StaggerRadar();
            due(gap + " comes", x.gap(gap, false), NONE);
            due(gap + " goes", x.gap(gap, true), NONE);
            dueGaps(x);
            due("no act", x.count(17), 0);
        }
        for (int gap = 4; gap <= 60; gap++) {
            StaggerRadar x = new StaggerRadar();
            due(gap + " comes", x.gap(gap, false), 1);
            dueGaps(x, gap);
        }
    }

    @Boundaries.Sentence(promise = 5, says = "no two alike: NONE: it is there already")
    static void thereAlready() {
        StaggerRadar x = radarOf("gap 4;gap 30;gap 60;");
        int[] before = Boundaries.told(x);
        due("the first", x.gap(4, false), NONE);
        due("the middle", x.gap(30, false), NONE);
        due("the last", x.gap(60, false), NONE);
        Boundaries.dueSame("refused", Boundaries.told(x), before);
    }

    @Boundaries.Sentence(promise = 5, says = "(off) goes: NONE: (not there)")
    static void notThere() {
        due("without GAPS", new StaggerRadar().gap(10, true), NONE);
        StaggerRadar x = radarOf("gap 4;gap 30;gap 60;");
        int[] before = Boundaries.told(x);
        for (int gap : new int[] {FAR_BELOW, 0, 3, 5, 29, 31, 59, 61, FAR_ABOVE}) {
            due(gap + " goes", x.gap(gap, true), NONE);
        }
        Boundaries.dueSame("refused", Boundaries.told(x), before);
    }

    @Boundaries.Sentence(promise = 5, says = "GAPS, at most 5: NONE: there are 5")
    static void fiveAlready() {
        StaggerRadar x = new StaggerRadar();
        for (int i = 1; i <= 5; i++) {
            due("GAP " + i, x.gap(10 * i, false), i);
        }
        int[] before = Boundaries.told(x);
        due("a 6th", x.gap(4, false), NONE);
        due("a 6th", x.gap(60, false), NONE);
        due("one that is there", x.gap(50, false), NONE);
        Boundaries.dueSame("refused", Boundaries.told(x), before);
        due("one of five goes", x.gap(50, true), 4);
        due("and another comes", x.gap(60, false), 5);
        dueGaps(x, 10, 20, 30, 40, 60);
    }

    @Boundaries.Sentence(promise = 5, says = "or (off) goes: how many there are (down to none)")
    static void goesToNone() {
        StaggerRadar x = radarOf("gap 10;gap 20;gap 30;gap 40;gap 50;");
        due("the middle", x.gap(30, true), 4);
        dueGaps(x, 10, 20, 40, 50);
        due("the first", x.gap(10, true), 3);
        dueGaps(x, 20, 40, 50);
        due("the last", x.gap(50, true), 2);
        dueGaps(x, 20, 40);
        due("20", x.gap(20, true), 1);
        due("40", x.gap(40, true), 0);
        dueGaps(x);
        due("it is not there", x.gap(40, true), NONE);
        due("it can come again", x.gap(40, false), 1);
    }

    @Boundaries.Sentence(promise = 5, says = "GAPS, rising")
    static void rising() {
        StaggerRadar x = new StaggerRadar();
        x.gap(30, false);
        x.gap(60, false);
        x.gap(4, false);
        x.gap(29, false);
        x.gap(31, false);
        dueGaps(x, 4, 29, 30, 31, 60);
        StaggerRadar falling = new StaggerRadar();
        for (int gap = 60; gap >= 56; gap--) {
            falling.gap(gap, false);
        }
        dueGaps(falling, 56, 57, 58, 59, 60);
    }

    // ---- promise 6

    @Boundaries.Sentence(promise = 6, says = "WAVE, 2 to 999, NOTCH, 0 to 49, PULSE, 0 to 9, LIMIT, 1 to 1000, NEED, 1 to 5, SPAN, 1 to 200, FLOOR, 1 to 200: false: a number that can not be")
    static void numbersThatCanBe() {
        for (int what = 0; what < 7; what++) {
            StaggerRadar x = new StaggerRadar();
            int least = Boundaries.LEAST[what];
            int most = Boundaries.MOST[what];
            for (int number : new int[] {FAR_BELOW, -1, least - 1, most + 1, most + 256, 65536 + least, FAR_ABOVE}) {
                due("what " + what + " is " + number, x.set(what, number), false);
            }
            due("nothing is other, " + what, x.count(what + 1), Boundaries.FIRSTS[what]);
            due("no act, " + what, x.count(17), 0);
            due("the most, " + what, x.set(what, most), true);
            due("the most, " + what, x.count(what + 1), most);
            due("one less, " + what, x.set(what, most - 1), true);
            due("the least, " + what, x.set(what, least), true);
            due("the least, " + what, x.count(what + 1), least);
            due("acts, " + what, x.count(17), 3);
        }
    }

    @Boundaries.Sentence(promise = 6, says = "false: it is that already")
    static void thatAlready() {
        StaggerRadar x = new StaggerRadar();
        for (int what = 0; what < 7; what++) {
            due("at first, " + what, x.set(what, Boundaries.FIRSTS[what]), false);
        }
        due("no act", x.count(17), 0);
        for (int what = 0; what < 7; what++) {
            due("another, " + what, x.set(what, Boundaries.MOST[what] - 1), true);
            due("that again, " + what, x.set(what, Boundaries.MOST[what] - 1), false);
            due("acts, " + what, x.count(17), what + 1);
        }
        due("UNDONE", x.undo(), 6);
        due("it is that no more", x.set(6, 199), true);
    }

    @Boundaries.Sentence(promise = 6, says = "What 0 to 6: false: another what")
    static void anotherWhat() {
        StaggerRadar x = new StaggerRadar();
        int[] before = Boundaries.told(x);
        for (int what : new int[] {FAR_BELOW, -2, -1, 7, 8, 256, FAR_ABOVE}) {
            for (int number = 1; number < 6; number++) {
                due("what " + what, x.set(what, number), false);
            }
        }
        Boundaries.dueSame("refused", Boundaries.told(x), before);
    }

    @Boundaries.Sentence(promise = 6, says = "What 0: WAVE, .. 6: FLOOR is another number (and nothing else)")
    static void nothingElse() {
        for (int what = 0; what < 7; what++) {
            StaggerRadar x = new StaggerRadar();
            x.set(what, 3);
            for (int other = 0; other < 7; other++) {
                due("what " + what + ", " + other, x.count(other + 1), other == what ? 3 : Boundaries.FIRSTS[other]);
            }
        }
    }

    // ---- promise 7

    @Boundaries.Sentence(promise = 7, says = "NONE: RANGE not 0 to 2999")
    static void ranges() {
        for (int range : new int[] {FAR_BELOW, -1, 3000, 65536, FAR_ABOVE}) {
            dueRefused(range, 7, 9);
        }
        dueTaken(0, 7, 9);
        dueTaken(1, 7, 9);
        dueTaken(2998, 7, 9);
        dueTaken(2999, 7, 9);
    }

    @Boundaries.Sentence(promise = 7, says = "NONE: another SPEED: -500 to 500")
    static void speeds() {
        for (int speed : new int[] {FAR_BELOW, -501, 501, 65536, FAR_ABOVE}) {
            dueRefused(53, speed, 9);
        }
        for (int speed : new int[] {-500, -499, -1, 0, 1, 499, 500}) {
            dueTaken(53, speed, 9);
        }
    }

    @Boundaries.Sentence(promise = 7, says = "NONE: another STRENGTH: 1 to 99")
    static void strengths() {
        for (int strength : new int[] {FAR_BELOW, -1, 0, 100, 257, FAR_ABOVE}) {
            dueRefused(53, 7, strength);
        }
        for (int strength : new int[] {1, 2, 98, 99}) {
            dueTaken(53, 7, strength);
        }
    }

    private static void dueRefused(int range, int speed, int strength) {
        StaggerRadar x = new StaggerRadar();
        due("range " + range + ", speed " + speed + ", " + strength, x.target(range, speed, strength), NONE);
        due("no TARGET", x.count(8), 0);
        due("no act", x.count(17), 0);
    }

    private static void dueTaken(int range, int speed, int strength) {
        StaggerRadar x = new StaggerRadar();
        due("range " + range + ", speed " + speed + ", " + strength, x.target(range, speed, strength), 0);
        due("RANGE", x.targetOf(0, 0), range);
        due("SPOT", x.targetOf(0, 1), 16 * range);
        due("SPEED", x.targetOf(0, 2), speed);
        due("STRENGTH", x.targetOf(0, 3), strength);
        due("an act", x.count(17), 1);
    }

    @Boundaries.Sentence(promise = 7, says = "TARGETS, at most 8, from 0 on: NONE: there are 8")
    static void eightAlready() {
        StaggerRadar x = new StaggerRadar();
        for (int t = 0; t < 8; t++) {
            due("its number", x.target(100 + t, t, 1 + t), t);
        }
        int[] before = Boundaries.told(x);
        due("a 9th", x.target(0, 0, 1), NONE);
        due("a 9th", x.target(107, 7, 8), NONE);
        Boundaries.dueSame("refused", Boundaries.told(x), before);
        x.leave(0);
        due("there is room again", x.target(0, 0, 1), 7);
        due("again full", x.target(0, 0, 1), NONE);
    }

    // ---- promise 8

    @Boundaries.Sentence(promise = 8, says = "NONE: there is none such.")
    static void noneSuch() {
        due("without TARGETS", new StaggerRadar().leave(0), NONE);
        due("without TARGETS", new StaggerRadar().leave(-1), NONE);
        StaggerRadar x = Boundaries.full();
        int[] before = Boundaries.told(x);
        for (int target : new int[] {FAR_BELOW, -1, 8, 9, 256, FAR_ABOVE}) {
            due("TARGET " + target, x.leave(target), NONE);
        }
        Boundaries.dueSame("refused", Boundaries.told(x), before);
        due("the last of 8", x.leave(7), 7);
        due("it is there no more", x.leave(7), NONE);
    }

    @Boundaries.Sentence(promise = 8, says = "A TARGET goes (those behind it come up): how many there are")
    static void comeUp() {
        StaggerRadar x = Boundaries.full();
        due("the first", x.leave(0), 7);
        dueRanges(x, 12, 13, 14, 15, 16, 17, 18);
        due("the last", x.leave(6), 6);
        dueRanges(x, 12, 13, 14, 15, 16, 17);
        due("the middle", x.leave(2), 5);
        dueRanges(x, 12, 13, 15, 16, 17);
        due("its strength, too", x.targetOf(2, 3), 15);
        for (int left = 4; left >= 0; left--) {
            due("down to none", x.leave(0), left);
        }
        due("none is left", x.leave(0), NONE);
    }

    private static void dueRanges(StaggerRadar x, int... ranges) {
        due("TARGETS", x.count(8), ranges.length);
        for (int t = 0; t < ranges.length; t++) {
            due("TARGET " + t, Boundaries.targetOf(x, t, 0), ranges[t]);
        }
    }

    @Boundaries.Sentence(promise = 8, says = "(it is not GONE)")
    static void notGone() {
        StaggerRadar x = Boundaries.full();
        x.leave(3);
        x.leave(6);
        due("GONE", x.count(10), 0);
        due("NOW", x.count(9), 0);
    }

    // ---- promise 9

    @Boundaries.Sentence(promise = 9, says = "So much time goes by, 1 to 1000: NONE: another number")
    static void times() {
        StaggerRadar x = Boundaries.one();
        int[] before = Boundaries.told(x);
        for (int time : new int[] {FAR_BELOW, -1000, -1, 0, 1001, 2000, 65537, FAR_ABOVE}) {
            due("time " + time, x.move(time), NONE);
        }
        Boundaries.dueSame("refused", Boundaries.told(x), before);
        due("1", x.move(1), 0);
        due("NOW", x.count(9), 1);
        due("SPOT", x.targetOf(0, 1), 855);
        due("1000", x.move(1000), 0);
        due("NOW", x.count(9), 1001);
        due("SPOT", x.targetOf(0, 1), 7855);
        due("999", x.move(999), 0);
        due("acts", x.count(17), 3);
    }

    @Boundaries.Sentence(promise = 9, says = "NOW is more, 999999 at most (no run of 512 calls comes to it)")
    static void now() {
        StaggerRadar x = new StaggerRadar();
        for (int i = 1; i <= 511; i++) {
            due("move " + i, x.move(1000), 0);
        }
        due("NOW, by the 512th call", x.count(9), 511000);
    }

    @Boundaries.Sentence(promise = 9, says = "a TARGET whose SPOT would be below 0 or above 47999 is there no more")
    static void out() {
        StaggerRadar x = new StaggerRadar();
        x.target(1, -16, 1);
        x.target(2999, 15, 1);
        x.target(1, -17, 1);
        x.target(2999, 16, 1);
        due("-1 and 48000", x.move(1), 2);
        due("0 and 47999 are there", x.count(8), 2);
        due("0", x.targetOf(0, 1), 0);
        due("47999", x.targetOf(1, 1), 47999);
        due("RANGE of 47999", x.targetOf(1, 0), 2999);
        due("GONE", x.count(10), 2);
        due("both go", x.move(1), 2);
        due("GONE in all", x.count(10), 4);
        due("none is left", x.count(8), 0);
        due("none goes", x.move(1), 0);
        due("GONE in all", x.count(10), 4);
    }

    @Boundaries.Sentence(promise = 9, says = "SPOT, 0 to 47999 (its RANGE is that by 16, rounded down)")
    static void roundedDown() {
        StaggerRadar x = new StaggerRadar();
        x.target(10, 15, 1);
        x.target(10, 16, 1);
        x.target(10, -1, 1);
        x.target(10, -16, 1);
        x.target(10, -17, 1);
        x.target(1, -1, 1);
        x.move(1);
        dueRanges(x, 10, 11, 9, 9, 8, 0);
    }

    @Boundaries.Sentence(promise = 9, says = "SPOTS go by SPEED for each (the fastest, the longest)")
    static void fastest() {
        StaggerRadar x = new StaggerRadar();
        x.target(2999, -500, 1);
        x.target(0, 500, 1);
        x.target(2999, 500, 1);
        x.target(0, -500, 1);
        x.target(53, 0, 1);
        due("two at once", x.move(95), 2);
        due("47984 - 47500", x.targetOf(0, 1), 484);
        due("47500", x.targetOf(1, 1), 47500);
        due("both", x.move(1000), 2);
        due("SPEED 0 stays", x.targetOf(0, 1), 848);
        due("GONE", x.count(10), 4);
    }

    @Boundaries.Sentence(promise = 9, says = "(those behind it come up), GONE counts it: how many are GONE by it")
    static void goneComeUp() {
        StaggerRadar x = new StaggerRadar();
        x.target(0, -1, 1);
        x.target(20, 1, 2);
        x.target(0, -1, 3);
        x.target(0, -1, 4);
        x.target(30, 2, 5);
        x.target(0, -1, 6);
        due("four, side by side and last", x.move(1), 4);
        due("TARGETS", x.count(8), 2);
        due("20", x.targetOf(0, 1) * 100 + x.targetOf(0, 2) * 10 + x.targetOf(0, 3), 32100 + 10 + 2);
        due("30", x.targetOf(1, 1) * 100 + x.targetOf(1, 2) * 10 + x.targetOf(1, 3), 48200 + 20 + 5);
        due("none by the next", x.move(1), 0);
        due("in all", x.count(10), 4);
        StaggerRadar all = new StaggerRadar();
        for (int t = 0; t < 8; t++) {
            all.target(t, -500, 1);
        }
        due("all eight", all.move(1000), 8);
        due("none is left", all.count(8), 0);
    }

    // ---- promise 10

    @Boundaries.Sentence(promise = 10, says = "NONE: NOW is that of the latest LOOK.")
    static void sameNow() {
        StaggerRadar x = Boundaries.one();
        due("at 0 there is none yet", x.look(), 1);
        int[] before = Boundaries.told(x);
        due("at 0 there is one", x.look(), NONE);
        Boundaries.dueSame("refused", Boundaries.told(x), before);
        x.set(NEED, 1);
        due("though all else is other", x.look(), NONE);
        x.move(1);
        due("at 1", x.look(), 1);
        due("at 1 there is one", x.look(), NONE);
        x.undo();
        due("UNDONE, it can come again", x.look(), 1);
        x.undo();
        x.undo();
        due("at 0 again", x.look(), NONE);
    }

    @Boundaries.Sentence(promise = 10, says = "LOOKS, 4 at most (a 5th one: the oldest goes)")
    static void fifthLook() {
        StaggerRadar x = radarOf("wave 61;gap 49;gap 50;");
        for (int i = 0; i < 4; i++) {
            due("LOOKS", x.count(19), i);
            lookAt(x, 20 + i);
        }
        due("four", x.count(19), 4);
        due("the first", x.track(0, 0), 20);
        lookAt(x, 24);
        due("four still", x.count(19), 4);
        due("the oldest went", x.track(0, 0), 21);
        due("the others came up", x.track(0, 1) * 10000 + x.track(0, 2) * 100 + x.track(0, 3), 222324);
        for (int i = 5; i < 9; i++) {
            lookAt(x, 20 + i);
        }
        due("all four are other ones", x.track(0, 0) * 100 + x.track(0, 3), 2528);
        due("a LOOK of its own", x.look(), 1);
        due("NOW of the latest one", x.look(), NONE);
    }

    @Boundaries.Sentence(promise = 10, says = "a 5th one: the oldest goes (with as many numbers as it had)")
    static void fifthLookOfAnotherSize() {
        for (int none = 0; none < 6; none++) {
            StaggerRadar x = radarOf("wave 61;gap 49;gap 50;");
            for (int i = 0; i < 6; i++) {
                x.leave(0);
                if (i != none) {
                    x.target(20, 7, 9);
                }
                due("numbers", x.look(), i == none ? 0 : 1);
                boolean among = none <= i && none > i - 4;
                due("LOOK " + none + " of " + i + " has none: TRACKS", x.track(NONE, 0), among || i == 0 ? 0 : 1);
                x.move(1);
            }
        }
    }

    /** One target, at that range, a look, and time goes on by 1. */
    private static void lookAt(StaggerRadar x, int range) {
        x.leave(0);
        x.target(range, 7, 9);
        due("one number", x.look(), 1);
        x.move(1);
    }

    @Boundaries.Sentence(promise = 10, says = "a LOOK is NOW and the first 12 numbers of the PICTURE: how many numbers it has")
    static void twelve() {
        for (int targets = 0; targets <= 8; targets++) {
            // By 40 and 41 each of them is heard at two places below 40, which are two numbers.
            StaggerRadar x = radarOf("need 1;limit 40;gap 40;gap 41;");
            for (int t = 0; t < targets; t++) {
                x.target(42 + 2 * t, 1, 1);
            }
            due("in the PICTURE", x.count(16), 2 * targets);
            due("of " + 2 * targets, x.look(), Math.min(2 * targets, 12));
            x.move(1);
            due("the same numbers", x.look(), Math.min(2 * targets, 12));
            int size = Math.min(2 * targets, 12);
            due("each with each", x.track(Boundaries.NONE, 0), size * size);
            due("the last one", x.track(size * size - 1, 1), size == 0 ? Boundaries.NO_TRACK : size);
        }
    }

    @Boundaries.Sentence(promise = 10, says = "the first 12 numbers of the PICTURE, as they come")
    static void asTheyCome() {
        // 7 and 9 are heard by all three, 3 and 5 by two of them: SPEED 6 is BLIND by 10.
        StaggerRadar x = radarOf("gap 10;gap 11;gap 13;go 7 7 1;go 3 6 1;go 9 7 1;go 5 6 1;");
        int[] numbers = {7, 9, 3, 5};
        for (int i = 0; i < 4; i++) {
            due("in the PICTURE", x.picture(i, false), numbers[i]);
        }
        due("numbers", x.look(), 4);
        x.set(Boundaries.PULSE, 0);
        x.move(1);
        due("numbers", x.look(), 4);
        for (int k = 0; k < 16; k++) {
            due("TRACK " + k, x.track(k, 0) * 10 + x.track(k, 1), numbers[k / 4] * 10 + numbers[k % 4]);
        }
        // 14 numbers, of which the two that both hear come first though they are the largest.
        StaggerRadar y = radarOf("need 1;limit 40;gap 40;gap 41;go 38 1 1;go 39 1 1;");
        for (int t = 0; t < 6; t++) {
            y.target(42 + 2 * t, 1, 1);
        }
        due("in the PICTURE", y.count(16), 14);
        due("12 of them", y.look(), 12);
        y.move(1);
        y.look();
        due("38", y.track(0, 0), 38);
        due("39", y.track(12, 0), 39);
        due("1", y.track(24, 0), 1);
        due("10 is the last one", y.track(143, 0), 10);
        due("11 and 12 are not among them", y.track(144, 0), Boundaries.NO_TRACK);
    }

    @Boundaries.Sentence(promise = 10, says = "A LOOK: how many numbers it has (none, too)")
    static void noNumber() {
        StaggerRadar x = new StaggerRadar();
        due("without GAPS and TARGETS", x.look(), 0);
        due("a LOOK it is", x.count(19), 1);
        due("an act it is", x.count(17), 1);
        due("NOW is its", x.look(), NONE);
    }

    // ---- promise 11

    @Boundaries.Sentence(promise = 11, says = "NONE: none can.")
    static void noneCan() {
        StaggerRadar x = new StaggerRadar();
        due("a new one", x.undo(), NONE);
        x.gap(10, false);
        due("one", x.undo(), 0);
        int[] before = Boundaries.told(x);
        due("none", x.undo(), NONE);
        due("none", x.undo(), NONE);
        Boundaries.dueSame("refused", Boundaries.told(x), before);
        x.gap(10, false);
        x.read();
        due("read() leaves none", x.undo(), NONE);
        x.gap(10, false);
        x.image(0);
        due("image() leaves it", x.count(17), 1);
        x.again(0);
        due("again() leaves none", x.undo(), NONE);
        due("the GAP is there", x.count(0), 1);
        x.gap(11, false);
        due("again() that is refused leaves it", x.again(1), false);
        due("one", x.undo(), 0);
    }

    @Boundaries.Sentence(promise = 11, says = "ACTS that can be UNDONE, the latest 8")
    static void latestEight() {
        StaggerRadar x = new StaggerRadar();
        for (int i = 1; i <= 8; i++) {
            x.set(WAVE, 100 + i);
            due("acts", x.count(17), i);
        }
        x.set(WAVE, 109);
        due("a 9th: 8", x.count(17), 8);
        for (int left = 7; left >= 0; left--) {
            due("UNDONE", x.undo(), left);
            due("WAVE", x.count(1), 101 + left);
        }
        due("the first one can not be", x.undo(), NONE);
        due("WAVE", x.count(1), 101);
    }

    @Boundaries.Sentence(promise = 11, says = "ACTS that can be UNDONE, the latest 8 (many more, some UNDONE between)")
    static void roundAndRound() {
        StaggerRadar x = new StaggerRadar();
        int wave = 60;
        for (int round = 0; round < 9; round++) {
            for (int i = 0; i < 5; i++) {
                wave++;
                x.set(WAVE, wave);
            }
            x.undo();
            x.undo();
            wave -= 2;
            due("WAVE", x.count(1), wave);
            due("acts", x.count(17), Math.min(3 * (round + 1), 6));
        }
        for (int left = 5; left >= 0; left--) {
            due("UNDONE", x.undo(), left);
            wave--;
            due("WAVE", x.count(1), wave);
        }
        due("none can", x.undo(), NONE);
    }

    @Boundaries.Sentence(promise = 11, says = "gap(), set(), target(), leave(), move(), look(), that were not refused")
    static void eachAct() {
        StaggerRadar x = Boundaries.full();
        x.leave(7);
        x.target(0, -500, 1);
        x.look();
        x.move(2);
        x.gap(50, true);
        x.move(1);
        x.look();
        int[][] told = new int[3][];
        told[0] = Boundaries.told(x);
        x.gap(9, false);
        told[1] = Boundaries.told(x);
        x.set(NEED, 1);
        told[2] = Boundaries.told(x);
        x.leave(0);
        for (int i = 0; i < 9; i++) {
            x.gap(9, false);
            x.gap(8, true);
            x.set(NEED, 1);
            x.set(7, 1);
            x.target(1, 1, 0);
            x.leave(7);
            x.move(0);
            x.look();
        }
        due("refused ones are none", x.undo(), 7);
        told[2][17] = 7;
        told[1][17] = 6;
        told[0][17] = 5;
        Boundaries.dueSame("leave", Boundaries.told(x), told[2]);
        due("set", x.undo(), 6);
        Boundaries.dueSame("set", Boundaries.told(x), told[1]);
        due("gap", x.undo(), 5);
        Boundaries.dueSame("gap", Boundaries.told(x), told[0]);
    }

    @Boundaries.Sentence(promise = 11, says = "The latest ACT is UNDONE (all of 1, NOW, GONE, LOOKS)")
    static void allOfIt() {
        StaggerRadar x = Boundaries.one();
        x.look();
        x.target(0, -1, 9);
        int[] before = Boundaries.told(x);
        x.move(3);
        due("GONE", x.count(10), 1);
        due("NOW", x.count(9), 3);
        x.look();
        due("LOOKS", x.count(19), 2);
        x.target(5, 5, 5);
        x.gap(10, true);
        x.set(NEED, 1);
        for (int left = 6; left >= 2; left--) {
            due("UNDONE", x.undo(), left);
        }
        Boundaries.dueSame("as it was", Boundaries.told(x), before);
        due("the TARGET is where it was", x.targetOf(1, 1), 0);
        due("target()", x.undo(), 1);
        due("look()", x.undo(), 0);
        due("LOOKS", x.count(19), 0);
        due("a LOOK at 0 can come", x.look(), 1);
    }

    @Boundaries.Sentence(promise = 11, says = "The latest ACT is UNDONE (the LOOK that went by a 5th one is there again)")
    static void oldestBack() {
        StaggerRadar x = radarOf("wave 61;gap 49;gap 50;");
        for (int i = 0; i < 4; i++) {
            lookAt(x, 20 + i);
        }
        x.leave(0);
        x.target(24, 7, 9);
        x.look();
        due("21", x.track(0, 0), 21);
        due("UNDONE", x.undo(), 7);
        due("20 is back", x.track(0, 0), 20);
        due("23", x.track(0, 3), 23);
        due("LOOKS", x.count(19), 4);
    }

    @Boundaries.Sentence(promise = 11, says = "how many more can be (what is UNDONE is no ACT)")
    static void noRedo() {
        StaggerRadar x = new StaggerRadar();
        x.gap(10, false);
        x.gap(11, false);
        due("11", x.undo(), 1);
        due("10", x.undo(), 0);
        due("nothing comes back", x.undo(), NONE);
        due("GAPS", x.count(0), 0);
        x.gap(12, false);
        due("acts", x.count(17), 1);
        due("12", x.undo(), 0);
    }

    @Boundaries.Sentence(promise = 11, says = "Refused calls change nothing (a target's number stays free)")
    static void refusedBetween() {
        StaggerRadar x = new StaggerRadar();
        x.target(1, 1, 1);
        x.target(3000, 1, 1);
        x.target(2, 2, 2);
        due("TARGETS", x.count(8), 2);
        due("the second", x.targetOf(1, 0), 2);
        due("UNDONE", x.undo(), 1);
        due("UNDONE", x.undo(), 0);
    }
}
