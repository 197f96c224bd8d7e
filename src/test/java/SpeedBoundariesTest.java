/** Boundary cases of promises 12 to 18: what there is, and speeds. */
public final class SpeedBoundariesTest {
    private static final int NONE = Boundaries.NONE;
    private static final int THROWN = Boundaries.THROWN;
    private static final int FAR_BELOW = Boundaries.FAR_BELOW;
    private static final int FAR_ABOVE = Boundaries.FAR_ABOVE;
    private static final int WAVE = Boundaries.WAVE, NOTCH = Boundaries.NOTCH, PULSE = Boundaries.PULSE;
    private static final int LIMIT = Boundaries.LIMIT, NEED = Boundaries.NEED, SPAN = Boundaries.SPAN;
    private static final int FLOOR = Boundaries.FLOOR;

    public static void main(String[] args) throws Exception {
        Boundaries.run(SpeedBoundariesTest.class, 12, 18);
    }

    private static void due(String what, long got, long want) {
        Boundaries.due(what, got, want);
    }

    private static StaggerRadar radarOf(String text) {
        return Boundaries.radarOf(text);
    }

    private static StaggerRadar full() {
        return Boundaries.full();
    }

    // ---- promise 12

    @Boundaries.Sentence(promise = 12, says = "NONE for another what")
    static void anotherCount() {
        for (int what : new int[] {FAR_BELOW, -2, -1, 20, 21, 256, FAR_ABOVE}) {
            due("empty, what " + what, new StaggerRadar().count(what), NONE);
            due("full, what " + what, full().count(what), NONE);
        }
    }

    private static void dueCounts(StaggerRadar x, int... counts) {
        for (int what = 0; what < counts.length; what++) {
            due("count(" + what + ")", x.count(what), counts[what]);
        }
    }

    @Boundaries.Sentence(promise = 12, says = "What 0 to 19 (of nothing)")
    static void emptyCounts() {
        dueCounts(new StaggerRadar(), 0, 60, 0, 1, 500, 2, 100, 1, 0, 0, 0, 100, 0, 0, 0, 0, 0, 0, 0, 0);
    }

    @Boundaries.Sentence(promise = 12, says = "What 0 to 19 (5 GAPS, 8 TARGETS)")
    static void fullCounts() {
        dueCounts(full(), 5, 61, 0, 1, 500, 5, 100, 1, 8, 0, 0, 1, 40, 12, 4, 0, 8, 8, 0, 0);
    }

    @Boundaries.Sentence(promise = 12, says = "12: ECHOES: STRENGTHS of TARGETS SEEN there are FLOOR or more together")
    static void echoesByFloor() {
        StaggerRadar x = radarOf("wave 61;gap 50;gap 51;go 20 7 99;go 20 7 99;go 20 7 2;go 30 7 99;");
        due("1 is enough", x.count(12), 4);
        x.set(FLOOR, 99);
        due("99 is enough", x.count(12), 4);
        x.set(FLOOR, 100);
        due("99 is not enough", x.count(12), 2);
        x.set(FLOOR, 200);
        due("200 is enough together", x.count(12), 2);
        x.leave(2);
        due("198 is not enough together", x.count(12), 0);
    }

    @Boundaries.Sentence(promise = 12, says = "13: FOUND: numbers from 0 on below LIMIT that have NEED HITS or more")
    static void foundByLimit() {
        StaggerRadar x = full();
        x.set(LIMIT, 69);
        due("all 12", x.count(13), 12);
        x.set(LIMIT, 68);
        due("68 is not below", x.count(13), 11);
        x.set(LIMIT, 12);
        due("11 alone", x.count(13), 1);
        x.set(LIMIT, 11);
        due("none", x.count(13), 0);
        x.set(LIMIT, 1);
        due("none", x.count(13), 0);
        due("0 alone", radarOf("pulse 0;gap 10;gap 12;limit 1;go 0 7 1;").count(13), 1);
        due("39, 99, .. 999", radarOf("gap 10;gap 12;limit 1000;go 999 7 1;").count(13), 17);
        due("39, 99, .. 939", radarOf("gap 10;gap 12;limit 999;go 999 7 1;").count(13), 16);
    }

    @Boundaries.Sentence(promise = 12, says = "13: FOUND: NEED HITS or more (just as many as there are GAPS, more than those)")
    static void foundByNeed() {
        StaggerRadar x = Boundaries.one();
        due("NEED 2 of 2", x.count(13), 8);
        x.set(NEED, 3);
        due("NEED 3 of 2", x.count(13), 0);
        due("nor MISSED none", x.count(15), 1);
        x.set(NEED, 1);
        // 3, 13, .. 493: 50; 5, 17, .. 497: 42; both: 8.
        due("NEED 1 of 2", x.count(13), 84);
        StaggerRadar y = full();
        y.gap(54, true);
        due("NEED 5 of 4", y.count(13), 0);
        due("NEED 5 of 4", y.count(16), 0);
    }

    @Boundaries.Sentence(promise = 12, says = "15: MISSED (bits): TARGETS of a RANGE below LIMIT that is not FOUND")
    static void missed() {
        StaggerRadar x = full();
        x.set(FLOOR, 200);
        due("all", x.count(15), 255);
        x.set(LIMIT, 18);
        due("18 is not below", x.count(15), 127);
        x.set(LIMIT, 11);
        due("none is below", x.count(15), 0);
        x.set(FLOOR, 12);
        x.set(LIMIT, 500);
        due("11 has no ECHO", x.count(15), 1);
        x.set(FLOOR, 18);
        due("18 has one alone", x.count(15), 127);
    }

    @Boundaries.Sentence(promise = 12, says = "11: DARK SPEEDS (none, all)")
    static void darkCounts() {
        StaggerRadar x = full();
        x.set(SPAN, 60);
        due("none to 60", x.count(11), 0);
        x.set(SPAN, 61);
        due("61", x.count(11), 1);
        x.set(SPAN, 200);
        due("61, 122, 183", x.count(11), 3);
        x.set(NOTCH, 49);
        due("all", x.count(11), 200);
        x.set(SPAN, 1);
        due("all of 1", x.count(11), 1);
    }

    @Boundaries.Sentence(promise = 12, says = "10: GONE, 17: ACTS that can be UNDONE, 18: bytes of THE TEXT, 19: LOOKS (as many as there can be)")
    static void fullest() {
        StaggerRadar x = new StaggerRadar();
        for (int t = 0; t < 8; t++) {
            x.target(0, -1, 1);
        }
        for (int i = 0; i < 5; i++) {
            x.look();
            x.move(1);
        }
        Boundaries.typeAll(x, Boundaries.many(" ", 400));
        due("NOW", x.count(9), 5);
        due("GONE", x.count(10), 8);
        due("ACTS", x.count(17), 8);
        due("bytes", x.count(18), 400);
        due("LOOKS", x.count(19), 4);
    }

    // ---- promise 13

    @Boundaries.Sentence(promise = 13, says = "NoSuchElementException: there is none such")
    static void noSuchGap() {
        for (int what = 0; what < 4; what++) {
            due("without GAPS", Boundaries.gapOf(new StaggerRadar(), 0, what), THROWN);
            for (int k : new int[] {FAR_BELOW, -1, 5, 6, 256, FAR_ABOVE}) {
                due("GAP " + k + " of five, what " + what, Boundaries.gapOf(full(), k, what), THROWN);
            }
            due("GAP 2 of two, what " + what, Boundaries.gapOf(Boundaries.one(), 2, what), THROWN);
        }
        StaggerRadar x = full();
        due("the first", Boundaries.gapOf(x, 0, 0), 50);
        due("the last", Boundaries.gapOf(x, 4, 0), 54);
        x.gap(54, true);
        due("it went", Boundaries.gapOf(x, 4, 0), THROWN);
        x.undo();
        due("it is back", Boundaries.gapOf(x, 4, 0), 54);
    }

    @Boundaries.Sentence(promise = 13, says = "NoSuchElementException: another what")
    static void noSuchGapWhat() {
        for (int what : new int[] {FAR_BELOW, -1, 4, 5, 256, FAR_ABOVE}) {
            due("what " + what, Boundaries.gapOf(full(), 0, what), THROWN);
        }
    }

    @Boundaries.Sentence(promise = 13, says = "1: ECHOES of it, 2: TARGETS SEEN by it (bits) (none, all)")
    static void seenByGap() {
        StaggerRadar x = full();
        for (int k = 0; k < 5; k++) {
            due("ECHOES", x.gapOf(k, 1), 8);
            due("SEEN", x.gapOf(k, 2), 255);
        }
        x.set(FLOOR, 200);
        due("no ECHOES", x.gapOf(4, 1), 0);
        due("SEEN all the same", x.gapOf(4, 2), 255);
        StaggerRadar none = radarOf("gap 60;");
        due("no TARGETS", none.gapOf(0, 1) + none.gapOf(0, 2), 0);
    }

    @Boundaries.Sentence(promise = 13, says = "SEEN: the PLACE of its RANGE is PULSE or more")
    static void seenByPulse() {
        StaggerRadar x = radarOf("gap 10;go 9 1 1;go 10 1 1;go 11 1 1;go 18 1 1;go 19 1 1;");
        int[] due = {31, 29, 25, 25, 25, 25, 25, 25, 25, 17};
        for (int pulse = 0; pulse < 10; pulse++) {
            x.set(PULSE, pulse);
            due("PULSE " + pulse, x.gapOf(0, 2), due[pulse]);
        }
        due("a GAP of less than PULSE", radarOf("gap 4;pulse 4;go 3 1 1;go 7 1 1;").gapOf(0, 2), 0);
        due("a GAP of one more", radarOf("gap 4;pulse 3;go 3 1 1;go 6 1 1;").gapOf(0, 2), 1);
    }

    @Boundaries.Sentence(promise = 13, says = "3: SPEEDS 1 to SPAN that are BLIND by it")
    static void blindInSpan() {
        StaggerRadar x = full();
        int[][] due = {{1, 0}, {60, 0}, {61, 1}, {121, 1}, {122, 2}, {182, 2}, {183, 3}, {200, 3}};
        for (int[] one : due) {
            x.set(SPAN, one[0]);
            due("SPAN " + one[0], x.gapOf(0, 3), one[1]);
        }
        x.set(NOTCH, 49);
        due("all", x.gapOf(0, 3), 200);
        StaggerRadar first = radarOf("gap 10;notch 10;span 1;");
        due("1 is BLIND", first.gapOf(0, 3), 1);
    }

    // ---- promise 14

    @Boundaries.Sentence(promise = 14, says = "NoSuchElementException: there is none such")
    static void noSuchTarget() {
        for (int what = 0; what < 7; what++) {
            due("without TARGETS", Boundaries.targetOf(new StaggerRadar(), 0, what), THROWN);
            for (int target : new int[] {FAR_BELOW, -1, 8, 9, 256, FAR_ABOVE}) {
                due("TARGET " + target + " of eight, what " + what, Boundaries.targetOf(full(), target, what), THROWN);
            }
            due("TARGET 1 of one, what " + what, Boundaries.targetOf(Boundaries.one(), 1, what), THROWN);
        }
        StaggerRadar x = full();
        due("the first", Boundaries.targetOf(x, 0, 0), 11);
        due("the last", Boundaries.targetOf(x, 7, 0), 18);
        x.leave(0);
        due("one less", Boundaries.targetOf(x, 7, 0), THROWN);
    }

    @Boundaries.Sentence(promise = 14, says = "NoSuchElementException: another what")
    static void noSuchTargetWhat() {
        for (int what : new int[] {FAR_BELOW, -1, 7, 8, 256, FAR_ABOVE}) {
            due("what " + what, Boundaries.targetOf(full(), 0, what), THROWN);
        }
    }

    @Boundaries.Sentence(promise = 14, says = "4: GAPS by which it is SEEN (bits), 5: GAPS by which its SPEED is BLIND (bits) (none, all)")
    static void seenAndBlind() {
        StaggerRadar x = full();
        due("SEEN by all", x.targetOf(7, 4), 31);
        due("BLIND by none", x.targetOf(7, 5), 0);
        x.leave(7);
        x.target(18, -61, 1);
        due("SEEN by none", x.targetOf(7, 4), 0);
        due("BLIND by all", x.targetOf(7, 5), 31);
        StaggerRadar y = Boundaries.one();
        y.target(60, 7, 1);
        due("behind the pulse: SEEN by none", y.targetOf(1, 4), 0);
        due("behind the pulse: not BLIND", y.targetOf(1, 5), 0);
        y.gap(12, true);
        y.gap(10, true);
        due("without GAPS", y.targetOf(0, 4) + y.targetOf(0, 5) + y.targetOf(0, 6), 0);
    }

    @Boundaries.Sentence(promise = 14, says = "6: 1 if its RANGE is FOUND, 0 if not, 2 if it is LIMIT or more")
    static void standing() {
        StaggerRadar x = Boundaries.one();
        x.set(LIMIT, 54);
        due("just below LIMIT, FOUND", x.targetOf(0, 6), 1);
        x.set(LIMIT, 53);
        due("LIMIT", x.targetOf(0, 6), 2);
        x.set(LIMIT, 52);
        due("above LIMIT", x.targetOf(0, 6), 2);
        x.set(FLOOR, 21);
        due("above LIMIT, no ECHO", x.targetOf(0, 6), 2);
        x.set(LIMIT, 54);
        due("just below LIMIT, not FOUND", x.targetOf(0, 6), 0);
        due("999", radarOf("gap 10;gap 12;limit 1000;go 999 7 1;").targetOf(0, 6), 1);
        due("1000", radarOf("gap 10;gap 12;limit 1000;go 1003 7 1;").targetOf(0, 6), 2);
        due("0", radarOf("pulse 0;gap 10;gap 12;limit 1;go 0 7 1;").targetOf(0, 6), 1);
    }

    @Boundaries.Sentence(promise = 14, says = "0: RANGE, 1: SPOT, 2: SPEED, 3: STRENGTH (the least, the most)")
    static void outermost() {
        StaggerRadar x = new StaggerRadar();
        x.target(0, -500, 1);
        x.target(2999, 500, 99);
        int[][] due = {{0, 0, -500, 1}, {2999, 47984, 500, 99}};
        for (int t = 0; t < 2; t++) {
            for (int what = 0; what < 4; what++) {
                due("TARGET " + t + ", what " + what, x.targetOf(t, what), due[t][what]);
            }
        }
    }

    // ---- promise 15

    @Boundaries.Sentence(promise = 15, says = "a SPEED, -500 to 500: NONE: another one")
    static void blindSpeeds() {
        StaggerRadar x = Boundaries.one();
        for (int speed : new int[] {FAR_BELOW, -501, 501, 1000, FAR_ABOVE}) {
            due("SPEED " + speed, x.blind(speed), NONE);
            due("SPEED " + speed + " without GAPS", new StaggerRadar().blind(speed), NONE);
        }
        due("-500: 5000 of 60, 6000", x.blind(-500), 2);
        due("500", x.blind(500), 2);
        due("-499", x.blind(-499), 0);
        due("499", x.blind(499), 0);
        due("0", x.blind(0), 3);
    }

    @Boundaries.Sentence(promise = 15, says = "GAPS by which a SPEED is BLIND, as bits (none, all)")
    static void blindBits() {
        due("without GAPS", new StaggerRadar().blind(0), 0);
        due("all five", full().blind(61), 31);
        due("all five", full().blind(-488), 31);
        due("none of five", full().blind(60), 0);
        due("the last of five", radarOf("gap 7;gap 11;gap 13;gap 17;gap 20;").blind(3), 16);
    }

    @Boundaries.Sentence(promise = 15, says = "It is BLIND by g, if that is NOTCH or less, or WAVE less that is NOTCH or less.")
    static void notches() {
        StaggerRadar x = radarOf("gap 7;");
        due("0 by NOTCH 0", x.blind(60), 1);
        due("7 by NOTCH 0", x.blind(1), 0);
        due("53 by NOTCH 0", x.blind(-1), 0);
        x.set(NOTCH, 6);
        due("7 by NOTCH 6", x.blind(1), 0);
        due("53 by NOTCH 6", x.blind(-1), 0);
        x.set(NOTCH, 7);
        due("7 by NOTCH 7", x.blind(1), 1);
        due("53 by NOTCH 7", x.blind(-1), 1);
        due("14 by NOTCH 7", x.blind(2), 0);
        StaggerRadar y = radarOf("wave 100;notch 49;gap 7;gap 10;gap 17;");
        due("49", y.blind(7) & 1, 1);
        due("50", y.blind(5) >> 1 & 1, 0);
        due("51", y.blind(3) >> 2, 1);
        y.set(WAVE, 99);
        due("50 of 99", y.blind(5) >> 1 & 1, 1);
        StaggerRadar two = radarOf("wave 2;gap 5;");
        due("1 of 2", two.blind(1), 0);
        due("0 of 2", two.blind(2), 1);
        two.set(NOTCH, 1);
        due("1 of 2 by NOTCH 1", two.blind(1), 1);
    }

    // ---- promise 16

    @Boundaries.Sentence(promise = 16, says = "NONE: there is none such (of either)")
    static void noDoppler() {
        StaggerRadar x = full();
        for (int k : new int[] {FAR_BELOW, -1, 5, 256, FAR_ABOVE}) {
            due("GAP " + k, x.doppler(7, k), NONE);
        }
        for (int speed : new int[] {FAR_BELOW, -501, 501, FAR_ABOVE}) {
            due("SPEED " + speed, x.doppler(speed, 0), NONE);
        }
        due("both", x.doppler(501, 5), NONE);
        due("without GAPS", new StaggerRadar().doppler(0, 0), NONE);
        due("the first", x.doppler(1, 0), 50);
        due("the last", x.doppler(1, 4), 54);
        due("-500 by 50: 25000 is 409 times 61 and 51", x.doppler(-500, 0), 10);
        due("500 by 50", x.doppler(500, 0), 51);
    }

    @Boundaries.Sentence(promise = 16, says = "the remainder of v times g by WAVE that is not below 0")
    static void remainders() {
        StaggerRadar x = radarOf("wave 999;gap 60;gap 4;");
        due("30000 of 999", x.doppler(500, 1), 30);
        due("-30000 of 999", x.doppler(-500, 1), 969);
        due("-4 of 999", x.doppler(-1, 0), 995);
        due("0", x.doppler(0, 0), 0);
        x.set(WAVE, 4);
        due("4 of 4", x.doppler(1, 0), 0);
        due("-4 of 4", x.doppler(-1, 0), 0);
        due("-500 times 4 of 4", x.doppler(-500, 0), 0);
        x.set(WAVE, 2);
        x.gap(5, false);
        due("-5 of 2", x.doppler(-1, 1), 1);
        x.set(WAVE, 5);
        due("WAVE less 1", x.doppler(1, 0), 4);
        due("1", x.doppler(-1, 0), 1);
    }

    // ---- promise 17

    @Boundaries.Sentence(promise = 17, says = "The k-th DARK SPEED, rising. NONE: not so many.")
    static void darkOnes() {
        StaggerRadar x = full();
        x.set(SPAN, 200);
        due("0", x.dark(0), 61);
        due("2", x.dark(2), 183);
        for (int k : new int[] {FAR_BELOW, -1, 3, 4, FAR_ABOVE}) {
            due("dark " + k, x.dark(k), NONE);
        }
        StaggerRadar all = radarOf("span 200;");
        due("the first of all", all.dark(0), 1);
        due("the last of all", all.dark(199), 200);
        due("one more", all.dark(200), NONE);
        x.set(SPAN, 60);
        due("none", x.dark(0), NONE);
    }

    @Boundaries.Sentence(promise = 17, says = "DARK: SPEEDS 1 to SPAN")
    static void darkBySpan() {
        StaggerRadar x = Boundaries.one();
        x.set(SPAN, 4);
        due("none to 4", x.dark(0), NONE);
        x.set(SPAN, 5);
        due("5", x.dark(0), 5);
        due("5 alone", x.dark(1), NONE);
        StaggerRadar one = radarOf("span 1;");
        due("1", one.dark(0), 1);
        due("1 alone", one.dark(1), NONE);
    }

    @Boundaries.Sentence(promise = 17, says = "DARK: not BLIND by fewer GAPS than NEED")
    static void darkByNeed() {
        // 60 is BLIND by all; 6, 5, 10 by some of 10, 12: not BLIND by both, one, or none of them.
        StaggerRadar x = radarOf("gap 10;gap 12;gap 7;span 6;");
        due("not BLIND by two: not DARK by NEED 2", x.dark(0), NONE);
        x.set(NEED, 3);
        due("not BLIND by two: DARK by NEED 3", x.dark(0), 5);
        due("not BLIND by two: DARK by NEED 3", x.dark(1), 6);
        due("no other", x.dark(2), NONE);
        x.set(NEED, 4);
        due("more than there are GAPS: all", x.count(11), 6);
        x.set(NEED, 5);
        due("all", x.dark(5), 6);
        x.set(SPAN, 60);
        x.set(NEED, 1);
        due("BLIND by all alone", x.dark(0), 60);
    }

    // ---- promise 18

    @Boundaries.Sentence(promise = 18, says = "PERIOD: the least SPEED above 0 of which DOPPLER is 0 by all GAPS (1 without GAPS)")
    static void periods() {
        StaggerRadar x = new StaggerRadar();
        due("without GAPS", x.period(), 1);
        x.gap(37, false);
        x.set(WAVE, 999);
        due("999 is 27 times 37", x.period(), 27);
        x.set(WAVE, 37);
        due("a GAP that is WAVE", x.period(), 1);
        x.set(WAVE, 2);
        due("37 of 2", x.period(), 2);
        x.set(WAVE, 997);
        due("no common part", x.period(), 997);
        x.gap(37, true);
        due("without GAPS again", x.period(), 1);
        due("all five", full().period(), 61);
        due("NOTCH is of no matter", radarOf("gap 10;notch 49;").period(), 6);
        due("SPAN is of no matter", radarOf("gap 10;gap 12;span 1;").period(), 30);
        due("12 of 24, 8 of 24", radarOf("wave 24;gap 8;gap 12;").period(), 6);
        due("4 to 60 all go into", radarOf("wave 4;gap 4;gap 60;").period(), 1);
        due("the most", radarOf("wave 999;gap 4;gap 5;gap 7;gap 8;gap 10;").period(), 999);
    }
}
