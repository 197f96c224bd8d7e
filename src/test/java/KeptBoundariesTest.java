/** Boundary cases of promises 34 and 35, and of the sentences that bind all calls: nothing is changed. */
public final class KeptBoundariesTest {
    private static final int NONE = Boundaries.NONE;
    private static final int FAR_BELOW = Boundaries.FAR_BELOW;
    private static final int FAR_ABOVE = Boundaries.FAR_ABOVE;
    private static final int[] ODD = {FAR_BELOW, -100000, -1, 0, 1, 2, 5, 8, 10, 64, 100000, FAR_ABOVE};

    public static void main(String[] args) throws Exception {
        Boundaries.run(KeptBoundariesTest.class, 34, 35);
    }

    private static void due(String what, long got, long want) {
        Boundaries.due(what, got, want);
    }

    private static void due(String what, boolean got, boolean want) {
        Boundaries.due(what, got, want);
    }

    // ---- promise 34

    @Boundaries.Sentence(promise = 34, says = "is kept as k, 0 to 2: true; false for another k")
    static void imageNumbers() {
        StaggerRadar x = Boundaries.one();
        for (int k : new int[] {FAR_BELOW, -1, 3, 4, 256, FAR_ABOVE}) {
            due("image " + k, x.image(k), false);
            due("there is none such, " + k, x.again(k), false);
        }
        for (int k = 0; k < 3; k++) {
            due("none yet, " + k, x.again(k), false);
            due("image " + k, x.image(k), true);
        }
        for (int k = 0; k < 3; k++) {
            due("there is one, " + k, x.again(k), true);
        }
    }

    @Boundaries.Sentence(promise = 34, says = "All that there is (THE TEXT, the FAULT, too) is kept")
    static void allIsKept() {
        StaggerRadar x = Boundaries.busy();
        int[] before = Boundaries.told(x);
        due("image", x.image(2), true);
        Boundaries.dueSame("image() changes nothing", Boundaries.told(x), before);
        x.read();
        for (int what = 0; what < 7; what++) {
            x.set(what, Boundaries.LEAST[what]);
        }
        x.move(1000);
        x.look();
        x.read();
        Boundaries.typeAll(x, "gap 3;");
        x.read();
        x.gap(50, true);
        before[17] = 0;
        due("again", x.again(2), true);
        Boundaries.dueSame("all but what can be UNDONE", Boundaries.told(x), before);
        Boundaries.typeAll(x, "gap 60;");
        due("THE TEXT's bytes, too", x.read(), 2);
        due("9", x.gapOf(0, 0), 9);
    }

    @Boundaries.Sentence(promise = 34, says = "is kept as k (each by itself, the later one in place of the earlier one)")
    static void eachByItself() {
        StaggerRadar x = new StaggerRadar();
        for (int k = 0; k < 3; k++) {
            x.gap(10 + k, false);
            x.image(k);
        }
        x.gap(10, true);
        x.image(1);
        int[] gaps = {1, 2, 3};
        for (int k = 2; k >= 0; k--) {
            x.again(k);
            due("GAPS of " + k, x.count(0), gaps[k]);
        }
        x.again(1);
        due("the later one", x.gapOf(0, 0), 11);
        x.again(0);
        due("the first one stands", x.gapOf(0, 0), 10);
    }

    @Boundaries.Sentence(promise = 34, says = "but for what can be UNDONE (image() is no ACT and takes none away)")
    static void noAct() {
        StaggerRadar x = new StaggerRadar();
        x.gap(10, false);
        x.image(0);
        x.image(3);
        due("ACTS", x.count(17), 1);
        due("UNDONE", x.undo(), 0);
        due("the image has it", x.again(0), true);
        due("GAPS", x.count(0), 1);
        due("none to UNDO", x.count(17), 0);
    }

    @Boundaries.Sentence(promise = 34, says = "All that there is (nothing, too) is kept")
    static void nothingKept() {
        StaggerRadar x = new StaggerRadar();
        x.image(0);
        x.gap(10, false);
        x.target(1, 1, 1);
        x.move(5);
        x.look();
        Boundaries.typeAll(x, "gap");
        due("again", x.again(0), true);
        Boundaries.dueSame("as at first", Boundaries.told(x), Boundaries.told(new StaggerRadar()));
    }

    // ---- promise 35

    @Boundaries.Sentence(promise = 35, says = "false if there is none such")
    static void noneSuch() {
        StaggerRadar x = Boundaries.busy();
        x.image(1);
        x.set(Boundaries.WAVE, 99);
        int[] before = Boundaries.told(x);
        for (int k : new int[] {FAR_BELOW, -1, 0, 2, 3, 256, FAR_ABOVE}) {
            due("again " + k, x.again(k), false);
        }
        Boundaries.dueSame("refused, what can be UNDONE, too", Boundaries.told(x), before);
        due("UNDONE", x.undo(), 7);
        due("WAVE", x.count(1), 61);
    }

    @Boundaries.Sentence(promise = 35, says = "All is as it was kept as k: true (as often as one likes)")
    static void often() {
        StaggerRadar x = Boundaries.one();
        x.image(0);
        for (int i = 0; i < 3; i++) {
            x.gap(20 + i, false);
            x.leave(0);
            x.move(7);
            x.look();
            due("again", x.again(0), true);
            due("GAPS", x.count(0), 2);
            due("TARGETS", x.count(8), 1);
            due("NOW", x.count(9), 0);
            due("LOOKS", x.count(19), 0);
        }
        due("just as it is", x.again(0), true);
    }

    @Boundaries.Sentence(promise = 35, says = "again() leaves none to UNDO")
    static void noneToUndo() {
        StaggerRadar x = Boundaries.one();
        for (int i = 0; i < 9; i++) {
            x.set(Boundaries.WAVE, 100 + i);
        }
        x.image(0);
        due("eight", x.count(17), 8);
        x.again(0);
        due("none", x.count(17), 0);
        due("none", x.undo(), NONE);
        due("WAVE", x.count(1), 108);
        for (int i = 0; i < 8; i++) {
            x.set(Boundaries.WAVE, 200 + i);
        }
        for (int left = 7; left >= 0; left--) {
            due("new ones", x.undo(), left);
        }
        due("WAVE", x.count(1), 108);
        due("no more", x.undo(), NONE);
    }

    // ---- all calls

    @Boundaries.Sentence(promise = 12, says = "Questions change nothing.")
    static void plainQuestions() {
        StaggerRadar x = Boundaries.busy();
        int[] before = Boundaries.told(x);
        for (int number : ODD) {
            x.count(number);
            Boundaries.gapOf(x, 1, number);
            Boundaries.gapOf(x, number, 1);
            Boundaries.targetOf(x, 1, number);
            Boundaries.targetOf(x, number, 6);
            x.blind(number);
            x.doppler(number, 1);
            x.doppler(7, number);
            x.dark(number);
            x.reach(number, 1);
            x.reach(3, number);
        }
        x.period();
        x.fault(true);
        x.fault(false);
        Boundaries.dueSame("questions", Boundaries.told(x), before);
    }

    @Boundaries.Sentence(promise = 20, says = "Questions change nothing.")
    static void rangeQuestions() {
        StaggerRadar x = Boundaries.busy();
        int[] before = Boundaries.told(x);
        for (int number : ODD) {
            x.joined(number, 1, 2, 3, 4);
            x.joined(1, 2, number, number, number);
            x.at(number, 1, false);
            x.at(1, number, true);
            x.hits(number);
            x.found(number, false);
            x.found(number, true);
            x.makers(number);
            x.picture(number, false);
            x.picture(number, true);
            x.pairs(number);
            x.track(number, 0);
            x.track(0, number);
            x.track(NONE, number);
        }
        Boundaries.dueSame("questions", Boundaries.told(x), before);
    }

    @Boundaries.Sentence(promise = 28, says = "Questions change nothing.")
    static void futureQuestions() {
        StaggerRadar x = Boundaries.busy();
        int[] before = Boundaries.told(x);
        for (int number : ODD) {
            x.order(number, 0);
            x.order(3, number);
            x.choose(number, 10, 20, 0);
            x.choose(2, number, 20, 0);
            x.choose(2, 10, number, 0);
            x.choose(2, 10, 20, number);
            x.shaken(number, true);
            x.dwell(number, 9, 1, 0);
            x.dwell(9, number, 1, 1);
            x.dwell(9, 9, number, 2);
            x.dwell(9, 9, 1, number);
            x.until(number, 20);
            x.until(0, number);
        }
        x.more(false);
        x.more(true);
        Boundaries.dueSame("questions", Boundaries.told(x), before);
        x.gap(51, true);
        x.more(false);
        x.more(true);
        due("GAPS", x.count(0), 4);
        due("UNDONE", x.undo(), 7);
        before[17] = 7;
        Boundaries.dueSame("questions about one GAP more", Boundaries.told(x), before);
    }

    @Boundaries.Sentence(promise = 5, says = "Refused calls change nothing.")
    static void refusedActs() {
        StaggerRadar x = Boundaries.busy();
        x.gap(4, false);
        x.look();
        int[] before = Boundaries.told(x);
        for (int number : new int[] {FAR_BELOW, -1, 61, 100000, FAR_ABOVE}) {
            due("gap", x.gap(number, false), NONE);
            due("gap off", x.gap(number, true), NONE);
            due("set what", x.set(number, 3), false);
            due("target range", x.target(number == 61 ? 3000 : number, 7, 9), NONE);
            due("leave", x.leave(number), NONE);
            due("move", x.move(number == 61 ? 0 : number), NONE);
            due("look", x.look(), NONE);
            due("image", x.image(number), false);
            due("again", x.again(number), false);
        }
        Boundaries.dueSame("refused", Boundaries.told(x), before);
    }

    @Boundaries.Sentence(promise = 2, says = "Refused calls change nothing.")
    static void refusedText() {
        StaggerRadar x = Boundaries.busy();
        Boundaries.typeAll(x, Boundaries.many(" ", 393));
        int[] before = Boundaries.told(x);
        due("399 and two", x.type(Boundaries.eight("; ")), NONE);
        due("399 and eight", x.type(-1L), NONE);
        Boundaries.dueSame("refused", Boundaries.told(x), before);
        due("399 and one", x.type(Boundaries.eight(" ")), 400);
        due("gap 9 alone was told", x.read(), 1);
    }

    private static void askAll(StaggerRadar x, int a, int b) {
        x.gap(a, b < 0);
        x.set(a, b);
        x.target(a, b, a);
        x.leave(a);
        x.move(a);
        x.count(a);
        Boundaries.gapOf(x, a, b);
        Boundaries.targetOf(x, a, b);
        x.blind(a);
        x.doppler(a, b);
        x.dark(a);
        x.reach(a, b);
        x.joined(a, b, a, b, a);
        x.at(a, b, a < b);
        x.hits(a);
        x.found(a, b < 0);
        x.makers(a);
        x.picture(a, b < 0);
        x.pairs(a);
        x.track(a, b);
        x.order(a, b);
        x.choose(a, b, a, b);
        x.choose(2, a, b, 0);
        x.shaken(a, b < 0);
        x.dwell(a, b, a, b);
        x.dwell(a, 5, 2, b);
        x.until(a, b);
        x.image(a);
        x.again(b);
    }

    @Boundaries.Sentence(promise = 35, says = "No call may ever throw by itself (LANGUAGE.md, rule 7)")
    static void neverThrows() {
        for (int a : ODD) {
            for (int b : ODD) {
                askAll(new StaggerRadar(), a, b);
                askAll(Boundaries.busy(), a, b);
            }
        }
        due("all came back", 1, 1);
    }
}
