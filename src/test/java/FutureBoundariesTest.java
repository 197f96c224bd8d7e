/** Boundary cases of promises 28 to 33: what would be. */
public final class FutureBoundariesTest {
    private static final int NONE = Boundaries.NONE;
    private static final int FAR_BELOW = Boundaries.FAR_BELOW;
    private static final int FAR_ABOVE = Boundaries.FAR_ABOVE;
    private static final int WAVE = Boundaries.WAVE, NOTCH = Boundaries.NOTCH, PULSE = Boundaries.PULSE;
    private static final int LIMIT = Boundaries.LIMIT, NEED = Boundaries.NEED, SPAN = Boundaries.SPAN;

    public static void main(String[] args) throws Exception {
        Boundaries.run(FutureBoundariesTest.class, 28, 33);
    }

    private static void due(String what, long got, long want) {
        Boundaries.due(what, got, want);
    }

    private static StaggerRadar radarOf(String text) {
        return Boundaries.radarOf(text);
    }

    private static StaggerRadar full() {
        return Boundaries.full();
    }

    // ---- promise 28

    @Boundaries.Sentence(promise = 28, says = "ORDER of n PULSES, 1 to 64: NONE: another n")
    static void orderPulses() {
        StaggerRadar x = radarOf("gap 10;go 10 7 1;");
        for (int n : new int[] {FAR_BELOW, -1, 0, 65, 66, 256, FAR_ABOVE}) {
            due("n " + n, x.order(n, 0), NONE);
            due("n " + n, x.order(n, 10), NONE);
        }
        due("one PULSE", x.order(1, 0), 0);
        due("two", x.order(2, 0), 1);
        due("63", x.order(63, 0), 62);
        due("64", x.order(64, 0), 63);
        due("the GAP", x.order(1, 10), 10);
        due("the GAP", x.order(64, 10), 10);
    }

    @Boundaries.Sentence(promise = 28, says = "what 0: how many are HIDDEN, 10 + i: the i-th GAP: NONE: another what")
    static void orderWhats() {
        StaggerRadar x = full();
        for (int what : new int[] {FAR_BELOW, -1, 1, 2, 9, 15, 16, 256, FAR_ABOVE}) {
            due("what " + what, x.order(3, what), NONE);
        }
        due("the fifth", x.order(3, 14), 54);
        due("the second of one", radarOf("gap 10;").order(3, 11), NONE);
        due("the third of two", Boundaries.one().order(3, 12), NONE);
        due("the second of two", Boundaries.one().order(3, 11), 12);
    }

    @Boundaries.Sentence(promise = 28, says = "NONE: there are no GAPS")
    static void orderOfNone() {
        StaggerRadar x = radarOf("go 10 7 1;");
        due("what 0", x.order(1, 0), NONE);
        due("what 10", x.order(64, 10), NONE);
        x.gap(10, false);
        x.gap(10, true);
        due("none any more", x.order(1, 0), NONE);
    }

    @Boundaries.Sentence(promise = 28, says = "fewest HIDDEN ECHOES (none, all)")
    static void orderNoneAndAll() {
        StaggerRadar x = radarOf("gap 9;gap 5;gap 7;");
        due("without TARGETS", x.order(64, 0), 0);
        for (int t = 0; t < 8; t++) {
            x.target(0, 7, 1);
        }
        due("all: at its own PULSE", x.order(64, 0), 512);
        due("rising", x.order(64, 10) * 100 + x.order(64, 11) * 10 + x.order(64, 12), 579);
        due("2999 is far behind", radarOf("gap 4;go 2999 7 1;").order(64, 0), 0);
    }

    @Boundaries.Sentence(promise = 28, says = "of several the first by its first GAP, its second one, and so on")
    static void firstOfSeveral() {
        StaggerRadar x = full();
        for (int i = 0; i < 5; i++) {
            due("nothing is HIDDEN: rising", x.order(64, 10 + i), 50 + i);
        }
        StaggerRadar y = radarOf("gap 5;gap 7;gap 9;gap 11;gap 13;go 5 7 1;");
        // A PULSE 5 behind another one hides: 5 may stand where no PULSE follows, at the end of four.
        int[] four = {7, 9, 11, 5, 13};
        int[] five = {7, 9, 11, 13, 5};
        for (int i = 0; i < 5; i++) {
            due("of 4 PULSES", y.order(4, 10 + i), four[i]);
            due("of 5 PULSES", y.order(5, 10 + i), five[i]);
        }
        due("the last order of all: falling", radarOf("gap 4;gap 6;go 4 7 1;").order(2, 10), 6);
    }

    @Boundaries.Sentence(promise = 28, says = "of all orders of the GAPS (the last one, too)")
    static void lastOrder() {
        StaggerRadar x = radarOf("gap 4;gap 6;gap 8;gap 11;gap 12;pulse 5;go 36 7 1;go 70 7 1;");
        int[] falling = {12, 11, 8, 6, 4};
        for (int i = 0; i < 5; i++) {
            due("GAP " + i, x.order(12, 10 + i), falling[i]);
        }
        due("HIDDEN", x.order(12, 0), 3);
    }

    @Boundaries.Sentence(promise = 28, says = "HIDDEN, if any PULSE was sent at that time, or less than PULSE ahead of it")
    static void orderHidden() {
        StaggerRadar x = radarOf("gap 10;go 12 7 1;");
        int[] due = {0, 0, 0, 1, 1, 1, 1, 1, 1, 1};
        for (int pulse = 0; pulse <= 9; pulse++) {
            x.set(PULSE, pulse);
            due("12 behind the first is 2 behind the second, PULSE " + pulse, x.order(2, 0), due[pulse]);
            due("12 behind the last", x.order(1, 0), 0);
        }
    }

    // ---- promise 29

    /** All sets are FIT: nothing is BLIND, REACH is enough. */
    private static StaggerRadar easy() {
        return radarOf("wave 61;limit 1;span 1;");
    }

    @Boundaries.Sentence(promise = 29, says = "k GAPS, 2 to 4: NONE: others")
    static void chooseSizes() {
        StaggerRadar x = easy();
        for (int k : new int[] {FAR_BELOW, -1, 0, 1, 5, 6, 256, FAR_ABOVE}) {
            due("k " + k, x.choose(k, 10, 20, 0), NONE);
            due("k " + k, x.choose(k, 10, 20, 1), NONE);
            due("k " + k, x.choose(k, 10, 20, 10), NONE);
        }
        due("2 of 21", x.choose(2, 4, 24, 0), 210);
        due("3 of 21", x.choose(3, 4, 24, 0), 1330);
        due("4 of 21", x.choose(4, 4, 24, 0), 5985);
    }

    @Boundaries.Sentence(promise = 29, says = "from low to high (4 to 60, high 0 to 20 more than low): NONE: others")
    static void chooseSpans() {
        StaggerRadar x = easy();
        int[][] refused = {{3, 10}, {3, 3}, {0, 20}, {-4, 4}, {50, 61}, {61, 61}, {60, 80}, {10, 9}, {60, 40}, {4, 25},
            {39, 60}, {FAR_BELOW, 4}, {4, FAR_ABOVE}, {FAR_BELOW, FAR_ABOVE}, {FAR_ABOVE, FAR_BELOW}};
        for (int[] span : refused) {
            for (int what : new int[] {0, 1, 10}) {
                due(span[0] + " to " + span[1], x.choose(2, span[0], span[1], what), NONE);
            }
        }
        due("4 to 24", x.choose(2, 4, 24, 1), 9);
        due("40 to 60", x.choose(2, 40, 60, 0), 210);
        due("40 to 60", x.choose(2, 40, 60, 1), 81);
        due("one alone", x.choose(2, 4, 4, 0), 0);
        due("one alone", x.choose(2, 60, 60, 1), NONE);
        due("59 and 60", x.choose(2, 59, 60, 0), 1);
        due("59 and 60", x.choose(2, 59, 60, 10) * 100 + x.choose(2, 59, 60, 11), 5960);
        due("4 and 5", x.choose(2, 4, 5, 10) * 100 + x.choose(2, 4, 5, 11), 405);
        due("just as many as are asked for", x.choose(4, 57, 60, 0), 1);
        due("one too few", x.choose(4, 58, 60, 0), 0);
    }

    @Boundaries.Sentence(promise = 29, says = "what 0, 1, 10 + i: its i-th GAP: NONE: others")
    static void chooseWhats() {
        StaggerRadar x = easy();
        for (int k = 2; k <= 4; k++) {
            for (int what : new int[] {FAR_BELOW, -1, 2, 3, 9, 10 + k, 11 + k, 256, FAR_ABOVE}) {
                due("what " + what + " of " + k, x.choose(k, 30, 40, what), NONE);
            }
            for (int i = 0; i < k; i++) {
                due("GAP " + i + " of " + k, x.choose(k, 30, 40, 10 + i), 30 + i);
            }
        }
    }

    @Boundaries.Sentence(promise = 29, says = "NONE: none is FIT (0: 0)")
    static void noneFit() {
        StaggerRadar x = radarOf("wave 61;limit 1;span 61;");
        for (int k = 2; k <= 4; k++) {
            due("how many of " + k, x.choose(k, 10, 20, 0), 0);
            due("together", x.choose(k, 10, 20, 1), NONE);
            due("the first", x.choose(k, 10, 20, 10), NONE);
            due("the last", x.choose(k, 10, 20, 9 + k), NONE);
        }
        x.set(SPAN, 60);
        due("by 60 all are", x.choose(2, 10, 20, 0), 55);
        x.set(NOTCH, 49);
        due("all BLIND", x.choose(2, 10, 20, 0), 0);
    }

    @Boundaries.Sentence(promise = 29, says = "FIT, if their REACH is LIMIT or more")
    static void fitByReach() {
        StaggerRadar x = easy();
        x.set(LIMIT, 992);
        // 31, 32: 992; 31, 33: 1023; 32, 33: 1056.
        due("992", x.choose(2, 31, 33, 0), 3);
        due("63 together", x.choose(2, 31, 33, 1), 63);
        x.set(LIMIT, 993);
        due("993", x.choose(2, 31, 33, 0), 2);
        due("64 together", x.choose(2, 31, 33, 1), 64);
        x.set(LIMIT, 1000);
        due("1000", x.choose(2, 31, 33, 0), 2);
        due("the first", x.choose(2, 31, 33, 10), 31);
        x.set(LIMIT, 120);
        due("4 to 8, four of five: 420, 120, 280, 168, 840", x.choose(4, 4, 8, 0), 5);
        x.set(LIMIT, 121);
        due("4, 5, 6, 8 no more", x.choose(4, 4, 8, 0), 4);
        x.set(LIMIT, 169);
        due("4, 6, 7, 8 is 168", x.choose(4, 4, 8, 0), 3);
    }

    @Boundaries.Sentence(promise = 29, says = "each SPEED from 1 to SPAN is not BLIND by NEED of them or more")
    static void fitBySpan() {
        StaggerRadar x = radarOf("limit 1;span 14;");
        // By 8, 15 is BLIND, by 9, 20; by 7 none up to 59.
        due("to 14", x.choose(2, 7, 9, 0), 3);
        x.set(SPAN, 15);
        due("to 15", x.choose(2, 7, 9, 0), 1);
        x.set(SPAN, 19);
        due("to 19", x.choose(2, 7, 9, 11), 9);
        x.set(SPAN, 20);
        due("to 20", x.choose(2, 7, 9, 0), 0);
        due("to 20, two of three", x.choose(3, 7, 9, 0), 1);
        x.set(NEED, 3);
        due("to 20, three of three", x.choose(3, 7, 9, 0), 0);
        x.set(NEED, 1);
        due("to 20, one of two", x.choose(2, 7, 9, 0), 3);
        x.set(SPAN, 200);
        due("60 is BLIND by all", x.choose(2, 7, 9, 0), 0);
        x.set(SPAN, 1);
        x.set(NOTCH, 4);
        due("1 by 4 is BLIND, by 5 not", x.choose(2, 4, 5, 0), 1);
        x.set(NEED, 2);
        due("1 by 4 is BLIND, by 5 not", x.choose(2, 4, 5, 0), 0);
        due("1 by 5 and 6", x.choose(2, 5, 6, 0), 1);
    }

    @Boundaries.Sentence(promise = 29, says = "each SPEED from 1 to SPAN, 1 to 200 (the one SPEED that is BLIND is SPAN, one more)")
    static void fitBySpeeds() {
        // A WAVE above 60 that nothing goes into: WAVE is the least SPEED above 0 that is BLIND, by all.
        for (int wave : new int[] {61, 67, 71, 97, 101, 127, 131, 157, 191, 193, 197, 199}) {
            StaggerRadar x = radarOf("limit 1;wave " + wave + ";");
            for (int need = 1; need <= 5; need += 2) {
                x.set(NEED, need);
                for (int k = 2; k <= 4; k++) {
                    x.set(SPAN, wave - 1);
                    due("WAVE " + wave + ", one less", x.choose(k, 40, 44, 0), k == 2 || k == 3 ? 10 : 5);
                    x.set(SPAN, wave);
                    due("WAVE " + wave, x.choose(k, 40, 44, 0), 0);
                }
            }
        }
        StaggerRadar all = radarOf("limit 1;wave 211;span 200;");
        due("none up to 200", all.choose(4, 40, 60, 0), 5985);
    }

    @Boundaries.Sentence(promise = 29, says = "FIT, each SPEED from 1 to SPAN is not BLIND by NEED of them or more (each set by itself)")
    static void fitOneByOne() {
        for (int wave : new int[] {60, 66, 90, 130, 180, 198, 200}) {
            for (int span : new int[] {63, 64, 65, 127, 128, 129, 191, 192, 193, 200}) {
                for (int need = 1; need <= 4; need++) {
                    dueFit(wave, span, need);
                }
            }
        }
    }

    private static void dueFit(int wave, int span, int need) {
        StaggerRadar x = radarOf("limit 100;wave " + wave + ";span " + span + ";need " + need + ";notch 1;");
        for (int k = 2; k <= 4; k++) {
            int size = 0;
            int least = FAR_ABOVE;
            for (int bits = 0; bits < 1 << 8; bits++) {
                if (Integer.bitCount(bits) == k && isFit(bits, wave, span, Math.min(need, k))) {
                    size++;
                    int sum = 0;
                    for (int i = 0; i < 8; i++) {
                        sum += (bits >> i & 1) * (13 + i);
                    }
                    least = Math.min(least, sum);
                }
            }
            String what = k + " of WAVE " + wave + ", SPAN " + span + ", NEED " + need;
            due(what, x.choose(k, 13, 20, 0), size);
            due(what + " together", x.choose(k, 13, 20, 1), size == 0 ? NONE : least);
        }
    }

    /** GAPS 13 to 20 as bits, LIMIT 100, NOTCH 1. */
    private static boolean isFit(int bits, int wave, int span, int need) {
        int reach = 1;
        while (reach < 100 && !allGoInto(bits, reach)) {
            reach++;
        }
        boolean fit = reach >= 100;
        for (int v = 1; v <= span; v++) {
            int open = 0;
            for (int i = 0; i < 8; i++) {
                int shift = v * (13 + i) % wave;
                open += (bits >> i & 1) != 0 && shift > 1 && shift < wave - 1 ? 1 : 0;
            }
            fit &= open >= need;
        }
        return fit;
    }

    private static boolean allGoInto(int bits, int number) {
        boolean all = true;
        for (int i = 0; i < 8; i++) {
            all &= (bits >> i & 1) == 0 || number % (13 + i) == 0;
        }
        return all;
    }

    @Boundaries.Sentence(promise = 29, says = "(by all, if there are fewer than NEED)")
    static void fitByAll() {
        StaggerRadar x = radarOf("limit 1;span 15;");
        for (int need = 2; need <= 5; need++) {
            x.set(NEED, need);
            due("7, 9 of NEED " + need, x.choose(2, 7, 9, 0), 1);
            due("7, 8, 9 of NEED " + need, x.choose(3, 7, 9, 0), need == 2 ? 1 : 0);
            due("7, 9, 11, 13 of NEED " + need, x.choose(4, 7, 13, 0), countFit(need));
        }
    }

    /** Fours of 7 to 13 that are not BLIND to each of 1 to 15 by NEED of them, or by all of them. */
    private static int countFit(int need) {
        int size = 0;
        for (int bits = 0; bits < 128; bits++) {
            boolean fit = Integer.bitCount(bits) == 4;
            for (int v = 1; v <= 15; v++) {
                int open = 0;
                for (int i = 0; i < 7; i++) {
                    open += (bits >> i & 1) != 0 && v * (7 + i) % 60 != 0 ? 1 : 0;
                }
                fit &= open >= Math.min(need, 4);
            }
            size += fit ? 1 : 0;
        }
        return size;
    }

    @Boundaries.Sentence(promise = 29, says = "BEST: those that together are least; of several the first by the first one, the second one, and so on")
    static void best() {
        StaggerRadar x = easy();
        x.set(LIMIT, 150);
        // 11, 12: 132; 11, 13: 143; 11, 14: 154; 12, 13: 156.
        due("together", x.choose(2, 11, 14, 1), 25);
        due("11 ahead of 12", x.choose(2, 11, 14, 10) * 100 + x.choose(2, 11, 14, 11), 1114);
        // 15 to 17 together: 60, 140, 40, 84 at most; of 18 together 4, 5, 9 is 180, 4, 6, 8 is 24, 5, 6, 7 is 210.
        due("18 together", x.choose(3, 4, 9, 1), 18);
        due("4, 5, 9 ahead of 5, 6, 7", chosen(x, 3, 4, 9), 459);
        due("5, 6, 7", chosen(x, 3, 5, 9), 567);
    }

    private static int chosen(StaggerRadar x, int k, int low, int high) {
        int row = 0;
        for (int i = 0; i < k; i++) {
            row = row * 10 + x.choose(k, low, high, 10 + i);
        }
        return row;
    }

    // ---- promise 30

    @Boundaries.Sentence(promise = 30, says = "NONE: there are 5 already")
    static void moreOfFive() {
        StaggerRadar x = full();
        due("five", x.more(false), NONE);
        due("five", x.more(true), NONE);
        x.gap(54, true);
        due("four: all but 61, 122, .. are DARK or not alike", x.more(false), 4);
        due("four", x.more(true) == NONE ? 1 : 0, 0);
        StaggerRadar four = radarOf("gap 10;gap 11;gap 12;gap 13;");
        due("four, no TARGETS", four.more(true), 4);
    }

    @Boundaries.Sentence(promise = 30, says = "The GAP, 4 to 60, that is not there; of several the least")
    static void leastNotThere() {
        StaggerRadar x = new StaggerRadar();
        for (int gap = 4; gap <= 8; gap++) {
            due("GHOSTS", x.more(true), gap);
            x.gap(gap, false);
        }
        StaggerRadar y = radarOf("wave 61;");
        for (int gap = 4; gap <= 8; gap++) {
            due("DARK", y.more(false), gap);
            y.gap(gap, false);
        }
        due("60", radarOf("need 1;span 5;wave 123;notch 49;").more(false), 60);
        due("not beyond 60", radarOf("need 1;span 1;wave 122;notch 49;").more(false), 50);
        due("not below 4", radarOf("need 1;span 1;wave 120;notch 3;").more(false), 4);
        due("none is enough: the least", radarOf("need 1;wave 2;notch 1;").more(false), 4);
    }

    private static void dueBest(String text) {
        StaggerRadar x = radarOf(text);
        int[] best = {NONE, NONE};
        int[] fewest = new int[2];
        for (int gap = 4; gap <= 60; gap++) {
            if (x.gap(gap, false) != NONE) {
                int[] counts = {x.count(11), x.count(14)};
                x.undo();
                for (int i = 0; i < 2; i++) {
                    if (best[i] == NONE || counts[i] < fewest[i]) {
                        best[i] = gap;
                        fewest[i] = counts[i];
                    }
                }
            }
        }
        due("DARK of " + text, x.more(false), best[0]);
        due("GHOSTS of " + text, x.more(true), best[1]);
    }

    @Boundaries.Sentence(promise = 30, says = "by which, were it there, too, there would be fewest DARK SPEEDS, or (ghosts) fewest GHOSTS")
    static void fewest() {
        dueBest("need 1;notch 5;go 53 7 20;");
        dueBest("need 1;gap 10;notch 3;limit 1000;go 53 7 20;go 11 6 9;");
        dueBest("gap 10;notch 4;go 53 7 20;go 130 5 3;");
        dueBest("gap 10;gap 12;floor 20;go 53 7 15;go 113 1 9;come 47 8 40;");
        dueBest("gap 10;gap 12;gap 15;gap 20;need 3;go 53 7 20;go 71 3 4;come 300 7 9;");
        dueBest("gap 60;gap 30;pulse 0;limit 100;go 0 7 1;go 60 7 1;go 30 1 1;");
        dueBest("need 2;gap 4;limit 1;pulse 0;go 8 1 1;");
        dueBest("need 5;gap 10;gap 12;gap 15;gap 16;span 200;go 5 7 20;go 7 3 4;");
        // Each gap makes GHOSTS; by 59 both are heard at 10, by 60 they are not at one place.
        dueBest("wave 61;need 1;limit 1000;go 10 7 1;go 69 7 1;");
    }

    @Boundaries.Sentence(promise = 30, says = "The GAP, 4 to 60 (asked first, asked again, asked when all is other)")
    static void moreAskedAgain() {
        String ghosts = "wave 61;need 1;limit 1000;go 10 7 1;go 69 7 1;";
        due("asked first", radarOf(ghosts).more(true), 59);
        StaggerRadar x = radarOf(ghosts);
        due("none is DARK by 4", x.more(false), 4);
        due("asked then", x.more(true), 59);
        due("asked again", x.more(true), 59);
        due("none is DARK by 4 still", x.more(false), 4);
        x.set(NEED, 2);
        due("of none, by NEED 2, no GHOSTS", x.more(true), 4);
        x.gap(59, false);
        due("10 and 69 are at 10", x.more(true), radarOf(ghosts + "need 2;gap 59;").more(true));
        StaggerRadar y = radarOf("need 1;notch 5;span 5;");
        int first = y.more(false);
        due("asked again", y.more(false), first);
        y.set(NOTCH, 20);
        due("as if asked first", y.more(false), radarOf("need 1;notch 20;span 5;").more(false));
        y.set(NOTCH, 0);
        due("as if asked first", y.more(false), radarOf("need 1;span 5;").more(false));
    }

    // ---- promise 31

    @Boundaries.Sentence(promise = 31, says = "SHAKEN by j, 0 to 3: NONE: another j")
    static void shakes() {
        StaggerRadar x = Boundaries.one();
        for (int j : new int[] {FAR_BELOW, -1, 4, 5, 256, FAR_ABOVE}) {
            due("j " + j, x.shaken(j, false), NONE);
            due("j " + j, x.shaken(j, true), NONE);
            due("without GAPS, j " + j, new StaggerRadar().shaken(j, true), NONE);
        }
        due("j 0", x.shaken(0, false), 67);
        due("j 0", x.shaken(0, true), 67);
        for (int j = 0; j <= 3; j++) {
            due("without GAPS", new StaggerRadar().shaken(j, false), 0);
            due("without GAPS", new StaggerRadar().shaken(j, true), 0);
        }
    }

    @Boundaries.Sentence(promise = 31, says = "a GAP may be up to j less or more (below 4 and beyond 60, too)")
    static void shakenOut() {
        StaggerRadar most = radarOf("wave 61;gap 60;need 1;span 200;");
        due("60 by 0", most.shaken(0, false), 197);
        due("61 is BLIND to all", most.shaken(1, false), 0);
        due("59 and 60 are not", most.shaken(1, true), 197);
        StaggerRadar near = radarOf("wave 61;gap 58;need 1;span 200;");
        due("60 at most", near.shaken(2, false), 197);
        due("61", near.shaken(3, false), 0);
        StaggerRadar least = radarOf("wave 999;notch 1;gap 4;need 1;span 1;");
        due("2 at least", least.shaken(2, false), 1);
        due("1 is BLIND to 1", least.shaken(3, false), 0);
        due("2 is not", least.shaken(3, true), 1);
        StaggerRadar low = radarOf("wave 7;gap 4;need 1;span 200;");
        due("2 to 6: all but 7, 14, .. 196", low.shaken(2, false), 172);
        due("1 to 7", low.shaken(3, false), 0);
        due("1 to 7", low.shaken(3, true), 172);
    }

    @Boundaries.Sentence(promise = 31, says = "SURE, if it is not BLIND by any of these, POSSIBLE, if it is not BLIND by some")
    static void sureAndPossible() {
        // SPEED 1: DOPPLER is the GAP itself. 17 to 23 by 3; BLIND up to NOTCH.
        StaggerRadar x = radarOf("wave 999;gap 20;need 1;span 1;notch 16;");
        int[][] due = {{16, 1, 1}, {17, 0, 1}, {22, 0, 1}, {23, 0, 0}};
        for (int[] one : due) {
            x.set(NOTCH, one[0]);
            due("STEADY by NOTCH " + one[0], x.shaken(3, false), one[1]);
            due("LOOSE by NOTCH " + one[0], x.shaken(3, true), one[2]);
        }
        int[][] less = {{19, 1, 1}, {20, 0, 0}};
        for (int[] one : less) {
            x.set(NOTCH, one[0]);
            due("STEADY by 0, NOTCH " + one[0], x.shaken(0, false), one[1]);
            due("LOOSE by 0, NOTCH " + one[0], x.shaken(0, true), one[2]);
        }
    }

    @Boundaries.Sentence(promise = 31, says = "STEADY: SPEEDS 1 to SPAN that are SURE by NEED GAPS or more; LOOSE: POSSIBLE by NEED or more")
    static void steadyByNeed() {
        StaggerRadar x = full();
        x.set(SPAN, 61);
        due("by five of five", x.shaken(0, false), 60);
        x.gap(54, true);
        due("by five of four", x.shaken(0, false), 0);
        due("by five of four", x.shaken(3, true), 0);
        x.set(NEED, 4);
        due("by four of four", x.shaken(0, true), 60);
        x.set(SPAN, 60);
        due("to 60", x.shaken(0, true), 60);
        x.set(SPAN, 1);
        due("to 1", x.shaken(3, false), 1);
    }

    // ---- promise 32

    @Boundaries.Sentence(promise = 32, says = "A DWELL of n PULSES, 1 to 64: NONE: others")
    static void dwellPulses() {
        StaggerRadar x = radarOf("gap 10;gap 12;go 5 7 1;");
        for (int what = 0; what <= 4; what++) {
            for (int n : new int[] {FAR_BELOW, -1, 0, 65, 256, FAR_ABOVE}) {
                due("n " + n + ", what " + what, x.dwell(1, n, 0, what), NONE);
            }
        }
        due("1", x.dwell(1, 1, 0, 0), 0);
        due("2", x.dwell(1, 2, 0, 0), 10);
        due("63", x.dwell(1, 63, 0, 0), 31 * 22);
        due("64", x.dwell(1, 64, 0, 0), 31 * 22 + 10);
        due("64", x.dwell(1, 64, 0, 1), 64);
    }

    @Boundaries.Sentence(promise = 32, says = "SHAKEN by j, 0 to 3: NONE: others")
    static void dwellShakes() {
        StaggerRadar x = radarOf("gap 10;gap 12;go 5 7 1;");
        for (int j : new int[] {FAR_BELOW, -1, 4, 5, FAR_ABOVE}) {
            for (int what = 0; what <= 4; what++) {
                due("j " + j + ", what " + what, x.dwell(1, 3, j, what), NONE);
            }
        }
        for (int j = 0; j <= 3; j++) {
            due("j " + j, x.dwell(1, 2, j, 0), 10 - j + draw(1, 2 * j + 1));
        }
    }

    @Boundaries.Sentence(promise = 32, says = "what 0 to 4: NONE: others, there are no GAPS")
    static void dwellWhats() {
        for (int what : new int[] {FAR_BELOW, -1, 5, 6, 10, 256, FAR_ABOVE}) {
            due("what " + what, full().dwell(1, 3, 0, what), NONE);
        }
        for (int what = 0; what <= 4; what++) {
            due("no GAPS, what " + what, radarOf("go 5 7 1;").dwell(1, 3, 0, what), NONE);
        }
        StaggerRadar x = radarOf("gap 10;gap 12;");
        due("no TARGETS", x.dwell(1, 64, 0, 1) + x.dwell(1, 64, 0, 2) + x.dwell(1, 64, 0, 3), 0);
    }

    /** The first draw of a seed, by arithmetic without sign. */
    private static int draw(int seed, int below) {
        long x = ((seed & 0xffffffffL) * 1103515245L + 12345L) & 0xffffffffL;
        return (int) ((x >> 16) % below);
    }

    @Boundaries.Sentence(promise = 32, says = "x becomes x * 1103515245 + 12345 (of 32 bits); the DRAW is x shifted right by 16 without sign, remainder by that")
    static void draws() {
        StaggerRadar x = radarOf("gap 20;");
        int[] seeds = {0, 1, -1, 2, 12345, FAR_BELOW, FAR_BELOW + 1, FAR_ABOVE, FAR_ABOVE - 1, 65535, 65536, -65536, 77777777};
        for (int seed : seeds) {
            for (int j = 0; j <= 3; j++) {
                long y = seed;
                int sent = 0;
                for (int i = 0; i < 3; i++) {
                    y = (y * 1103515245L + 12345L) & 0xffffffffL;
                    sent += 20 + (int) (y / 65536 % (2 * j + 1)) - j;
                }
                due("seed " + seed + ", j " + j, x.dwell(seed, 4, j, 0), sent);
            }
        }
        int least = 99;
        int most = 0;
        for (int seed = 0; seed < 100; seed++) {
            least = Math.min(least, x.dwell(seed, 2, 3, 0));
            most = Math.max(most, x.dwell(seed, 2, 3, 0));
        }
        due("3 less", least, 17);
        due("3 more", most, 23);
    }

    @Boundaries.Sentence(promise = 32, says = "the next one behind PULSE i by the GAP i modulo how many GAPS")
    static void gapsInTurn() {
        StaggerRadar x = full();
        int[] due = {0, 50, 101, 153, 206, 260, 310, 361};
        for (int n = 1; n <= due.length; n++) {
            due("PULSE " + n, x.dwell(0, n, 0, 0), due[n - 1]);
        }
        due("12 rounds and 4", x.dwell(0, 64, 0, 0), 12 * 260 + 153);
        due("one GAP", radarOf("gap 4;").dwell(0, 64, 0, 0), 252);
    }

    @Boundaries.Sentence(promise = 32, says = "CLEAR, if it comes ahead of the next PULSE (of the last one: of when a next one would be sent); LATE, if not")
    static void clearAndLate() {
        StaggerRadar x = radarOf("gap 10;gap 12;go 9 7 1;");
        due("9: all", x.dwell(1, 3, 0, 1), 3);
        due("9: none", x.dwell(1, 3, 0, 2), 0);
        x.leave(0);
        x.target(10, 7, 1);
        due("10: of the 12 alone", x.dwell(1, 3, 0, 1), 1);
        due("10: of the 10s", x.dwell(1, 3, 0, 2), 2);
        x.leave(0);
        x.target(11, 7, 1);
        due("11, the last one's is 12", x.dwell(1, 2, 0, 1), 1);
        due("11, the last one's is 10", x.dwell(1, 1, 0, 1), 0);
        x.leave(0);
        x.target(12, 7, 1);
        due("12: none", x.dwell(1, 2, 0, 1), 0);
        due("12: all", x.dwell(1, 64, 0, 2), 64);
        StaggerRadar shaking = radarOf("gap 10;");
        for (int range = 7; range <= 13; range++) {
            shaking.target(range, 7, 1);
        }
        for (int seed = -9; seed < 9; seed++) {
            due("the one that would be sent is SHAKEN, too", shaking.dwell(seed, 1, 3, 1), draw(seed, 7));
            due("the others", shaking.dwell(seed, 1, 3, 2), 7 - draw(seed, 7));
        }
    }

    @Boundaries.Sentence(promise = 32, says = "HIDDEN, CLEAR or LATE, if any PULSE (0 to n - 1) was sent at that time, or less than PULSE ahead of it")
    static void hidden() {
        StaggerRadar x = radarOf("gap 20;go 3 7 1;go 23 7 1;");
        // 3 is CLEAR, 3 behind its own PULSE; 23 is LATE, 3 behind the next one, if that is sent.
        int[] due = {0, 0, 0, 0, 5, 5, 5, 5, 5, 5};
        for (int pulse = 0; pulse <= 9; pulse++) {
            x.set(PULSE, pulse);
            due("PULSE " + pulse, x.dwell(1, 3, 0, 3), due[pulse]);
        }
        StaggerRadar y = radarOf("gap 20;go 20 7 1;pulse 0;");
        due("at that time, PULSE 0", y.dwell(1, 3, 0, 3), 2);
        due("no next one is sent", y.dwell(1, 1, 0, 3), 0);
        y.set(PULSE, 1);
        due("at that time, PULSE 1", y.dwell(1, 3, 0, 3), 2);
        y.leave(0);
        y.target(19, 7, 1);
        y.set(PULSE, 9);
        due("ahead of the PULSE", y.dwell(1, 3, 0, 3), 0);
        y.leave(0);
        y.target(0, 7, 1);
        y.set(PULSE, 0);
        due("RANGE 0", y.dwell(1, 3, 0, 3), 3);
        StaggerRadar all = radarOf("gap 4;pulse 9;" + Boundaries.many("go 5 7 1;", 8));
        due("all: 5 behind its own", all.dwell(1, 64, 0, 3), 512);
        due("all are LATE", all.dwell(1, 64, 0, 2), 512);
    }

    @Boundaries.Sentence(promise = 32, says = "HIDDEN: less than PULSE ahead of it (each PULSE, 0 to 9)")
    static void hiddenJust() {
        for (int pulse = 0; pulse <= 9; pulse++) {
            for (int behind = 0; behind <= 10; behind++) {
                StaggerRadar x = radarOf("gap 20;pulse " + pulse + ";go " + behind + " 7 1;");
                int due = behind == 0 || behind < pulse ? 1 : 0;
                due(behind + " behind its own, PULSE " + pulse, x.dwell(1, 1, 0, 3), due);
                x.leave(0);
                x.target(20 + behind, 7, 1);
                due(behind + " behind the next one, PULSE " + pulse, x.dwell(1, 2, 0, 3), due);
                due("as for an ORDER", x.order(2, 0), due);
                due("the last one's next is not sent", x.dwell(1, 1, 0, 3), 0);
            }
        }
    }

    @Boundaries.Sentence(promise = 32, says = "HIDDEN, if any PULSE (0 to n - 1): one that would be sent has no ECHO and hides none")
    static void hiddenByThoseSent() {
        for (int range = 0; range <= 24; range++) {
            StaggerRadar x = radarOf("gap 4;pulse 9;go " + range + " 7 1;");
            for (int n = 1; n <= 3; n++) {
                // Sent at 0, 4, 8; the latest one hides what comes less than 9 behind it.
                int due = 0;
                for (int i = 0; i < n; i++) {
                    due += 4 * i + range < 4 * (n - 1) + 9 ? 1 : 0;
                }
                due(range + " of " + n, x.dwell(1, n, 0, 3), due);
                due(range + " of " + n + ", an ORDER", x.order(n, 0), due);
            }
        }
    }

    @Boundaries.Sentence(promise = 32, says = "4: the longest time between two PULSES (0 of one)")
    static void longest() {
        StaggerRadar x = full();
        int[] due = {0, 50, 51, 52, 53, 54, 54, 54};
        for (int n = 1; n <= due.length; n++) {
            due("of " + n, x.dwell(1, n, 0, 4), due[n - 1]);
        }
        due("of 64", x.dwell(1, 64, 0, 4), 54);
        StaggerRadar y = radarOf("gap 60;");
        due("one", y.dwell(1, 1, 3, 4), 0);
        for (int seed = 0; seed < 7; seed++) {
            due("SHAKEN", y.dwell(seed, 2, 3, 4), 57 + draw(seed, 7));
        }
    }

    // ---- promise 33

    @Boundaries.Sentence(promise = 33, says = "from 0 to most (0 to 200): NONE: another most")
    static void mosts() {
        StaggerRadar x = Boundaries.one();
        for (int most : new int[] {FAR_BELOW, -1, 201, 202, 1000, FAR_ABOVE}) {
            due("most " + most, x.until(0, most), NONE);
        }
        due("most 0", x.until(0, 0), 0);
        due("most 200", x.until(0, 200), 0);
    }

    @Boundaries.Sentence(promise = 33, says = "NONE: there is none such")
    static void noSuchTarget() {
        due("without TARGETS", new StaggerRadar().until(0, 9), NONE);
        StaggerRadar x = full();
        for (int target : new int[] {FAR_BELOW, -1, 8, 9, FAR_ABOVE}) {
            due("TARGET " + target, x.until(target, 200), NONE);
        }
        due("the first", x.until(0, 0), 0);
        due("the last", x.until(7, 0), 0);
        due("without GAPS", radarOf("go 53 7 1;").until(0, 200), NONE);
    }

    @Boundaries.Sentence(promise = 33, says = "How much time must go by, from 0 to most: NONE: not by then")
    static void byThen() {
        // 16 a time: 253 is below LIMIT, at 53, behind 200.
        StaggerRadar x = radarOf("gap 10;gap 12;limit 54;come 253 16 1;come 254 16 1;go 60 7 1;");
        due("at 200", x.until(0, 200), 200);
        due("not by 199", x.until(0, 199), NONE);
        due("at 201", x.until(1, 200), NONE);
        StaggerRadar y = radarOf("gap 10;gap 12;go 60 7 1;");
        due("at 3", y.until(0, 3), 3);
        due("not by 2", y.until(0, 2), NONE);
        due("not by 0", y.until(0, 0), NONE);
        due("first at 3", y.until(0, 200), 3);
    }

    @Boundaries.Sentence(promise = 33, says = "(all go on as by move(); if it is GONE: never)")
    static void gone() {
        due("GONE at 1", radarOf("gap 10;gap 12;come 0 1 1;").until(0, 200), NONE);
        due("at 0 just, it is there", radarOf("gap 10;gap 12;pulse 0;limit 1;come 1 16 5;").until(0, 200), 1);
        due("at -1 it is GONE", radarOf("gap 10;gap 12;pulse 0;limit 1;come 1 17 5;").until(0, 200), NONE);
        due("GONE beyond 47999", radarOf("gap 10;gap 12;go 2999 16 5;").until(0, 200), NONE);
        StaggerRadar two = radarOf("gap 10;gap 12;floor 30;go 53 1 20;come 55 16 10;");
        due("by another one that comes there", two.until(0, 200), 2);
        due("the other one, too", two.until(1, 200), 2);
        StaggerRadar out = radarOf("gap 10;gap 12;floor 30;pulse 2;go 1 1 20;come 1 17 10;");
        due("another one that is GONE is not heard", out.until(0, 200), NONE);
        StaggerRadar beyond = radarOf("gap 10;gap 12;floor 2;need 1;limit 1000;go 2999 16 1;go 1 7 1;");
        due("one that is GONE above is not heard", beyond.until(1, 1), NONE);
        StaggerRadar behind = radarOf("gap 10;gap 12;come 0 3 1;come 0 3 1;go 60 7 1;");
        due("those ahead of it are GONE", behind.until(2, 200), 3);
        due("nothing is other", behind.count(8) * 10 + behind.count(9), 30);
    }

    @Boundaries.Sentence(promise = 33, says = "till a TARGET's RANGE is FOUND first (below LIMIT, by NEED, by FLOOR)")
    static void foundFirst() {
        StaggerRadar x = Boundaries.one();
        x.set(LIMIT, 54);
        due("just below LIMIT", x.until(0, 0), 0);
        x.set(LIMIT, 53);
        due("at LIMIT", x.until(0, 0), NONE);
        x.set(LIMIT, 54);
        x.set(NEED, 3);
        due("NEED 3 of two", x.until(0, 200), NONE);
        x.set(NEED, 1);
        x.set(Boundaries.FLOOR, 20);
        due("FLOOR 20", x.until(0, 0), 0);
        x.set(Boundaries.FLOOR, 21);
        due("FLOOR 21", x.until(0, 200), NONE);
        StaggerRadar pulse = radarOf("gap 20;gap 25;pulse 9;wave 61;go 0 16 1;");
        due("at PULSE", pulse.until(0, 200), 9);
        due("one less", pulse.until(0, 8), NONE);
        StaggerRadar blind = Boundaries.one();
        blind.set(WAVE, 7);
        due("BLIND by both", blind.until(0, 200), NONE);
    }
}
