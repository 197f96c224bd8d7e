/** Boundary cases of promises 34 and 35, and of the sentences that bind all calls: nothing is changed. */
public final class KeptBoundariesTest {
    private static final int NONE = Boundaries.NONE;
    private static final int FAR_BELOW = Boundaries.FAR_BELOW;
    private static final int FAR_ABOVE = Boundaries.FAR_ABOVE;
    private static final int[] ODD = {FAR_BELOW, -100000, -1, 0, 1, 2, 5, 8, 10, 64, 100000, FAR_ABOVE};

    public static void main(String[] args) throws Exception {
        Boundaries.run(KeptBoundariesTest.class, 34, 35);
    }

    private static void due(String what, long got, long want) {
        Boundaries.due(what, got, want);
    }

    private static void due(String what, boolean got, boolean want) {
        Boundaries.due(what, got, want);
    }

    // ---- promise 34

    @Boundaries.Sentence(promise = 34, says = "is kept as k, 0 to 2: true; false for another k")
    static void imageNumbers() {
        StaggerRadar x = Boundaries.one();
        for (int k : new int[] {FAR_BELOW, -1, 3, 4, 256, FAR_ABOVE}) {
            due("image " + k, x.image(k), false);
            due("there is none such, " + k, x.again(k), false);
        }
        for (int k = 0; k < 3; k++) {
            due("none yet, " + k, x.again(k), false);
            due("image " + k, x.image(k), true);
        }
        for (int k = 0; k < 3; k++) {
            due("there is one, " + k, x.again(k), true);
        }
    }

    @Boundaries.Sentence(promise = 34, says = "All that there is (THE TEXT, the FAULT, too) is kept")
    static void allIsKept() {
        StaggerRadar x = Boundaries.busy();
        int[] before = Boundaries.told(x);
        due("image", x.image(2), true);
        Boundaries.dueSame("image() changes nothing", Boundaries.told(x), before);
        x.read();
        for (int what = 0; what < 7; what++) {
            x.set(what, Boundaries.LEAST[what]);
        }
        x.move(1000);
        x.look();
        x.read();
        Boundaries.typeAll(x, "gap 3;");
        x.read();
        x.gap(50, true);
        before[17] = 0;
        due("again", x.again(2), true);
        Boundaries.dueSame("all but what can be UNDONE", Boundaries.told(x), before);
        Boundaries.typeAll(x, "gap 60;");
        due("THE TEXT's bytes, too", x.read(), 2);
        due("9", x.gapOf(0, 0), 9);
    }

    @Boundaries.Sentence(promise = 34, says = "THE TEXT, the FAULT, too (another one, none, in its place)")
    static void faultIsKept() {
        StaggerRadar x = new StaggerRadar();
        x.image(0);
        Boundaries.read(x, "wave 7;gap 10;gap 10;");
        Boundaries.typeAll(x, "gap 44;");
        x.image(1);
        Boundaries.typeAll(x, " gap 45");
        x.read();
        due("1, the end", x.fault(false) * 100 + x.fault(true), 114);
        due("again", x.again(1), true);
        due("3", x.fault(false), 3);
        due("at 18", x.fault(true), 18);
        due("bytes", x.count(18), 7);
        due("again", x.again(0), true);
        due("none", x.fault(false), 0);
        due("no place", x.fault(true), NONE);
        due("no bytes", x.count(18), 0);
        due("again", x.again(1), true);
        due("3", x.fault(false), 3);
        due("gap 44", x.read(), 1);
        due("44", x.gapOf(0, 0), 44);
        due("no FAULT", x.fault(false), 0);
    }

    @Boundaries.Sentence(promise = 34, says = "is kept as k (each by itself, the later one in place of the earlier one)")
    static void eachByItself() {
        StaggerRadar x = new StaggerRadar();
        for (int k = 0; k < 3; k++) {
            x.gap(10 + k, false);
            x.image(k);
        }
        x.gap(10, true);
        x.image(1);
        int[] gaps = {1, 2, 3};
        for (int k = 2; k >= 0; k--) {
            x.again(k);
            due("GAPS of " + k, x.count(0), gaps[k]);
        }
        x.again(1);
        due("the later one", x.gapOf(0, 0), 11);
        x.again(0);
        due("the first one stands", x.gapOf(0, 0), 10);
    }

    @Boundaries.Sentence(promise = 34, says = "but for what can be UNDONE (image() is no ACT and takes none away)")
    static void noAct() {
        StaggerRadar x = new StaggerRadar();
        x.gap(10, false);
        x.image(0);
        x.image(3);
        due("ACTS", x.count(17), 1);
        due("UNDONE", x.undo(), 0);
        due("the image has it", x.again(0), true);
        due("GAPS", x.count(0), 1);
        due("none to UNDO", x.count(17), 0);
    }

    @Boundaries.Sentence(promise = 34, says = "All that there is (nothing, too) is kept")
    static void nothingKept() {
        StaggerRadar x = new StaggerRadar();
        x.image(0);
        x.gap(10, false);
        x.target(1, 1, 1);
        x.move(5);
        x.look();
        Boundaries.typeAll(x, "gap");
        due("again", x.again(0), true);
        Boundaries.dueSame("as at first", Boundaries.told(x), Boundaries.told(new StaggerRadar()));
    }

    // ---- promise 35

    @Boundaries.Sentence(promise = 35, says = "false if there is none such")
    static void noneSuch() {
        StaggerRadar x = Boundaries.busy();
        x.image(1);
        x.set(Boundaries.WAVE, 99);
        int[] before = Boundaries.told(x);
        for (int k : new int[] {FAR_BELOW, -1, 0, 2, 3, 256, FAR_ABOVE}) {
            due("again " + k, x.again(k), false);
        }
        Boundaries.dueSame("refused, what can be UNDONE, too", Boundaries.told(x), before);
        due("UNDONE", x.undo(), 7);
        due("WAVE", x.count(1), 61);
    }

    @Boundaries.Sentence(promise = 35, says = "All is as it was kept as k: true (as often as one likes)")
    static void often() {
        StaggerRadar x = Boundaries.one();
        x.image(0);
        for (int i = 0; i < 3; i++) {
            x.gap(20 + i, false);
            x.leave(0);
            x.move(7);
            x.look();
            due("again", x.again(0), true);
            due("GAPS", x.count(0), 2);
            due("TARGETS", x.count(8), 1);
            due("NOW", x.count(9), 0);
            due("LOOKS", x.count(19), 0);
        }
        due("just as it is", x.again(0), true);
    }

    @Boundaries.Sentence(promise = 35, says = "again() leaves none to UNDO")
    static void noneToUndo() {
        StaggerRadar x = Boundaries.one();
        for (int i = 0; i < 9; i++) {
            x.set(Boundaries.WAVE, 100 + i);
        }
        x.image(0);
        due("eight", x.count(17), 8);
        x.again(0);
        due("none", x.count(17), 0);
        due("none", x.undo(), NONE);
        due("WAVE", x.count(1), 108);
        for (int i = 0; i < 8; i++) {
            x.set(Boundaries.WAVE, 200 + i);
        }
        for (int left = 7; left >= 0; left--) {
            due("new ones", x.undo(), left);
        }
        due("WAVE", x.count(1), 108);
        due("no more", x.undo(), NONE);
    }

    // ---- all calls

    @Boundaries.Sentence(promise = 12, says = "Questions change nothing.")
    static void plainQuestions() {
        StaggerRadar x = Boundaries.busy();
        int[] before = Boundaries.told(x);
        for (int number : ODD) {
            x.count(number);
            Boundaries.gapOf(x, 1, number);
            Boundaries.gapOf(x, number, 1);
            Boundaries.targetOf(x, 1, number);
            Boundaries.targetOf(x, number, 6);
            x.blind(number);
            x.doppler(number, 1);
            x.doppler(7, number);
            x.dark(number);
            x.reach(number, 1);
            x.reach(3, number);
        }
        x.period();
        x.fault(true);
        x.fault(false);
        Boundaries.dueSame("questions", Boundaries.told(x), before);
    }

    @Boundaries.Sentence(promise = 20, says = "Questions change nothing.")
    static void rangeQuestions() {
        StaggerRadar x = Boundaries.busy();
        int[] before = Boundaries.told(x);
        for (int number : ODD) {
            x.joined(number, 1, 2, 3, 4);
            x.joined(1, 2, number, number, number);
            x.at(number, 1, false);
            x.at(1, number, true);
            x.hits(number);
            x.found(number, false);
            x.found(number, true);
            x.makers(number);
            x.picture(number, false);
            x.picture(number, true);
            x.pairs(number);
            x.track(number, 0);
            x.track(0, number);
            x.track(NONE, number);
        }
        Boundaries.dueSame("questions", Boundaries.told(x), before);
    }

    @Boundaries.Sentence(promise = 28, says = "Questions change nothing.")
    static void futureQuestions() {
        StaggerRadar x = Boundaries.busy();
        int[] before = Boundaries.told(x);
        for (int number : ODD) {
            x.order(number, 0);
            x.order(3, number);
            x.choose(number, 10, 20, 0);
            x.choose(2, number, 20, 0);
            x.choose(2, 10, number, 0);
            x.choose(2, 10, 20, number);
            x.shaken(number, true);
            x.dwell(number, 9, 1, 0);
            x.dwell(9, number, 1, 1);
            x.dwell(9, 9, number, 2);
            x.dwell(9, 9, 1, number);
            x.until(number, 20);
            x.until(0, number);
        }
        x.more(false);
        x.more(true);
        Boundaries.dueSame("questions", Boundaries.told(x), before);
        x.gap(51, true);
        x.more(false);
        x.more(true);
        due("GAPS", x.count(0), 4);
        due("UNDONE", x.undo(), 7);
        before[17] = 7;
        Boundaries.dueSame("questions about one GAP more", Boundaries.told(x), before);
    }

    private static final int QUESTIONS = 42;

    private static int ask(StaggerRadar x, int question) {
        switch (question) {
            case 0: return x.count(11);
            case 1: return x.count(12);
            case 2: return x.count(13);
            case 3: return x.count(14);
            case 4: return x.count(15);
            case 5: return x.count(16);
            case 6: return Boundaries.gapOf(x, 0, 1);
            case 7: return Boundaries.gapOf(x, 1, 2);
            case 8: return Boundaries.gapOf(x, 0, 3);
            case 9: return Boundaries.targetOf(x, 0, 4);
            case 10: return Boundaries.targetOf(x, 0, 5);
            case 11: return Boundaries.targetOf(x, 0, 6);
            case 12: return x.blind(6);
            case 13: return x.dark(1);
            case 14: return x.period();
            case 15: return x.reach(3, 1);
            case 16: return x.joined(3, 5, -1, 2, 1);
            case 17: return x.joined(-1, 5, 3, -1, -1);
            case 18: return x.at(0, 3, false);
            case 19: return x.at(1, 5, true);
            case 20: return x.hits(53);
            case 21: return x.found(1, false);
            case 22: return x.found(1, true);
            case 23: return x.makers(53);
            case 24: return x.picture(0, false);
            case 25: return x.picture(1, true);
            case 26: return x.pairs(0);
            case 27: return x.pairs(1);
            case 28: return x.pairs(2);
            case 29: return x.track(NONE, 0);
            case 30: return x.order(9, 0);
            case 31: return x.order(9, 10);
            case 32: return x.choose(3, 10, 20, 0);
            case 33: return x.choose(2, 10, 20, 1);
            case 34: return x.choose(4, 10, 20, 13);
            case 35: return x.more(false);
            case 36: return x.more(true);
            case 37: return x.shaken(1, true);
            case 38: return x.dwell(7, 9, 2, 3);
            case 39: return x.dwell(8, 20, 1, 1);
            case 40: return x.dwell(9, 5, 3, 4);
            default: return x.until(0, 50);
        }
    }

    @Boundaries.Sentence(promise = 30, says = "Questions change nothing (what was asked earlier, of whatever there was, is of no matter).")
    static void askedInAnyOrder() {
        String[] texts = {"gap 10;gap 12;go 53 7 20;come 113 6 3;", "gap 11;gap 13;gap 15;gap 17;need 3;go 60 3 9;go 71 2 9;",
            "", "gap 30;need 1;limit 1000;pulse 0;go 60 7 9;", "gap 4;gap 9;gap 20;gap 44;gap 60;notch 5;go 53 1 1;",
            "span 200;wave 97;need 1;go 53 7 1;go 62 5 1;go 171 7 1;", "gap 5;gap 7;floor 9;limit 60;go 33 7 4;go 68 7 5;"};
        for (int i = 0; i < texts.length; i++) {
            for (int j = 0; j < texts.length; j++) {
                StaggerRadar x = Boundaries.radarOf(texts[i]);
                for (int question = 0; question < QUESTIONS; question++) {
                    ask(x, question);
                }
                Boundaries.read(x, texts[j]);
                for (int question = QUESTIONS - 1; question >= 0; question--) {
                    int alone = ask(Boundaries.radarOf(texts[j]), question);
                    due("question " + question + " of " + texts[j], ask(x, question), alone);
                }
                for (int question = 0; question < QUESTIONS; question += 5) {
                    int alone = ask(Boundaries.radarOf(texts[j]), question);
                    due("once more, question " + question + " of " + texts[j], ask(x, question), alone);
                }
            }
        }
    }

    @Boundaries.Sentence(promise = 5, says = "Refused calls change nothing.")
    static void refusedActs() {
        StaggerRadar x = Boundaries.busy();
        x.gap(4, false);
        x.look();
        int[] before = Boundaries.told(x);
        for (int number : new int[] {FAR_BELOW, -1, 61, 100000, FAR_ABOVE}) {
            due("gap", x.gap(number, false), NONE);
            due("gap off", x.gap(number, true), NONE);
            due("set what", x.set(number, 3), false);
            due("target range", x.target(number == 61 ? 3000 : number, 7, 9), NONE);
            due("leave", x.leave(number), NONE);
            due("move", x.move(number == 61 ? 0 : number), NONE);
            due("look", x.look(), NONE);
            due("image", x.image(number), false);
            due("again", x.again(number), false);
        }
        Boundaries.dueSame("refused", Boundaries.told(x), before);
    }

    @Boundaries.Sentence(promise = 2, says = "Refused calls change nothing.")
    static void refusedText() {
        StaggerRadar x = Boundaries.busy();
        Boundaries.typeAll(x, Boundaries.many(" ", 393));
        int[] before = Boundaries.told(x);
        due("399 and two", x.type(Boundaries.eight("; ")), NONE);
        due("399 and eight", x.type(-1L), NONE);
        Boundaries.dueSame("refused", Boundaries.told(x), before);
        due("399 and one", x.type(Boundaries.eight(" ")), 400);
        due("gap 9 alone was told", x.read(), 1);
    }

    private static void askAll(StaggerRadar x, int a, int b) {
        x.gap(a, b < 0);
        x.set(a, b);
        x.target(a, b, a);
        x.leave(a);
        x.move(a);
        x.count(a);
        Boundaries.gapOf(x, a, b);
        Boundaries.targetOf(x, a, b);
        x.blind(a);
        x.doppler(a, b);
        x.dark(a);
        x.reach(a, b);
        x.joined(a, b, a, b, a);
        x.at(a, b, a < b);
        x.hits(a);
        x.found(a, b < 0);
        x.makers(a);
        x.picture(a, b < 0);
        x.pairs(a);
        x.track(a, b);
        x.order(a, b);
        x.choose(a, b, a, b);
        x.choose(2, a, b, 0);
        x.shaken(a, b < 0);
        x.dwell(a, b, a, b);
        x.dwell(a, 5, 2, b);
        x.until(a, b);
        x.image(a);
        x.again(b);
    }

    @Boundaries.Sentence(promise = 35, says = "No call may ever throw by itself (LANGUAGE.md, rule 7)")
    static void neverThrows() {
        for (int a : ODD) {
            for (int b : ODD) {
                askAll(new StaggerRadar(), a, b);
                askAll(Boundaries.busy(), a, b);
            }
        }
        due("all came back", 1, 1);
    }
}
