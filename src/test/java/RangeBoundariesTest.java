/** Boundary cases of promises 19 to 27: ranges, echoes, what is found, the picture, pairings, tracks. */
public final class RangeBoundariesTest {
    private static final int NONE = Boundaries.NONE;
    private static final int NO_INT = Boundaries.NO_INT;
    private static final int NO_TRACK = Boundaries.NO_TRACK;
    private static final int FAR_BELOW = Boundaries.FAR_BELOW;
    private static final int FAR_ABOVE = Boundaries.FAR_ABOVE;
    private static final int PULSE = Boundaries.PULSE, LIMIT = Boundaries.LIMIT, NEED = Boundaries.NEED;
    private static final int FLOOR = Boundaries.FLOOR;

    public static void main(String[] args) throws Exception {
        Boundaries.run(RangeBoundariesTest.class, 19, 27);
    }

    private static void due(String what, long got, long want) {
        Boundaries.due(what, got, want);
    }

    private static StaggerRadar radarOf(String text) {
        return Boundaries.radarOf(text);
    }

    private static StaggerRadar one() {
        return Boundaries.one();
    }

    private static StaggerRadar full() {
        return Boundaries.full();
    }

    // ---- promise 19

    @Boundaries.Sentence(promise = 19, says = "REACH of some GAPS: the least number that all go into (1 of none)")
    static void reachOfSome() {
        due("of none, without GAPS", new StaggerRadar().reach(0, 1), 1);
        due("of none of five", full().reach(0, 1), 1);
        StaggerRadar x = radarOf("gap 4;gap 6;gap 8;gap 9;gap 60;");
        due("4", x.reach(1, 1), 4);
        due("60", x.reach(16, 1), 60);
        due("4, 8", x.reach(5, 1), 8);
        due("4, 6", x.reach(3, 1), 12);
        due("8, 9", x.reach(12, 1), 72);
        due("all", x.reach(31, 1), 360);
    }

    @Boundaries.Sentence(promise = 19, says = "Integer.MIN_VALUE: there are no such GAPS")
    static void noSuchGaps() {
        for (int scale : new int[] {-1, 0, 1, 7}) {
            due("without GAPS", new StaggerRadar().reach(1, scale), NO_INT);
            due("a third of two", one().reach(4, scale), NO_INT);
            due("a third of two, among others", one().reach(7, scale), NO_INT);
            for (int bits : new int[] {FAR_BELOW, -32, -1, 32, 33, 1 << 30, FAR_ABOVE}) {
                due("bits " + bits, full().reach(bits, scale), NO_INT);
            }
        }
        due("all of two", one().reach(3, 1), 60);
        due("all of five", full().reach(31, 0), 0);
    }

    @Boundaries.Sentence(promise = 19, says = "Integer.MIN_VALUE: it is no int")
    static void noInt() {
        StaggerRadar x = radarOf("gap 4;gap 60;");
        due("4 times 2^29 - 1", x.reach(1, 536870911), 2147483644);
        due("4 times 2^29", x.reach(1, 536870912), NO_INT);
        due("-4 times 2^29 - 1", x.reach(1, -536870911), -2147483644);
        due("-4 times 2^29 + 1", x.reach(1, -536870913), NO_INT);
        due("60 times as many as can be", x.reach(3, 35791394), 2147483640);
        due("one more", x.reach(3, 35791395), NO_INT);
        due("60 times as few as can be", x.reach(3, -35791394), -2147483640);
        due("one less", x.reach(3, -35791395), NO_INT);
        due("wraps round to 0", x.reach(1, 1 << 30), NO_INT);
        due("wraps round to 4", x.reach(1, (1 << 30) + 1), NO_INT);
        due("the most of 60", x.reach(3, FAR_ABOVE), NO_INT);
        due("the least of 60", x.reach(3, FAR_BELOW), NO_INT);
        due("the most of none", x.reach(0, FAR_ABOVE), FAR_ABOVE);
        due("one above the least of none", x.reach(0, FAR_BELOW + 1), FAR_BELOW + 1);
        StaggerRadar large = radarOf("gap 59;gap 58;gap 57;gap 55;gap 53;");
        due("five", large.reach(31, 1), 568582410);
        due("five times 3", large.reach(31, 3), 1705747230);
        due("five times 4", large.reach(31, 4), NO_INT);
        due("five times -3", large.reach(31, -3), -1705747230);
        due("five times -4", large.reach(31, -4), NO_INT);
        due("no part of the way is beyond an int", large.reach(30, 1), 10727970);
    }

    // ---- promise 20

    @Boundaries.Sentence(promise = 20, says = "The least number, 0 on, of which PLACES by GAPS 0 to 4 are a to e")
    static void joinedAtEnds() {
        StaggerRadar x = radarOf("gap 4;gap 5;gap 7;gap 9;gap 11;");
        due("all 0", x.joined(0, 0, 0, 0, 0), 0);
        due("all the last: 13860 less 1", x.joined(3, 4, 6, 8, 10), 13859);
        due("all 3", x.joined(3, 3, 3, 3, 3), 3);
        due("the first alone", x.joined(1, 0, 0, 0, 0), 3465);
        due("the last alone: 1260 times 2 is 1 by 11", x.joined(0, 0, 0, 0, 1), 2520);
        StaggerRadar large = radarOf("gap 59;gap 58;gap 57;gap 55;gap 53;");
        due("the farthest", large.joined(52, 54, 56, 57, 58), 568582409);
        due("the nearest", large.joined(0, 0, 0, 0, 0), 0);
    }

    @Boundaries.Sentence(promise = 20, says = "(a number below 0: of that GAP whatever it is)")
    static void joinedWhatever() {
        StaggerRadar x = radarOf("gap 4;gap 5;gap 7;gap 9;gap 11;");
        due("all below 0", x.joined(-1, -1, -1, -1, -1), 0);
        due("far below", x.joined(FAR_BELOW, FAR_BELOW, FAR_BELOW, FAR_BELOW, FAR_BELOW), 0);
        due("a", x.joined(3, -1, -1, -1, -1), 3);
        due("b", x.joined(-1, 4, -1, -1, -1), 4);
        due("c", x.joined(-1, -1, 6, -1, -1), 6);
        due("d", x.joined(-1, -1, -1, 8, -1), 8);
        due("e", x.joined(-1, -1, -1, -1, 10), 10);
        due("a, e: 10, 21, 32, 43", x.joined(3, -9, -9, -9, 10), 43);
    }

    @Boundaries.Sentence(promise = 20, says = "(.. and of one that is not there, whatever it is)")
    static void joinedNotThere() {
        due("without GAPS", new StaggerRadar().joined(7, 70, 700, FAR_ABOVE, FAR_BELOW), 0);
        StaggerRadar x = one();
        due("53", x.joined(3, 5, 0, 0, 0), 53);
        due("53", x.joined(3, 5, FAR_ABOVE, 99, -1), 53);
        due("53", x.joined(3, 5, -1, FAR_BELOW, 60), 53);
        due("b is not there", radarOf("gap 10;").joined(9, 9, 8, 7, 6), 9);
    }

    @Boundaries.Sentence(promise = 20, says = "NONE: there is none.")
    static void joinedNone() {
        StaggerRadar x = radarOf("gap 4;gap 5;gap 7;gap 9;gap 11;");
        due("a is no PLACE", x.joined(4, -1, -1, -1, -1), NONE);
        due("b is no PLACE", x.joined(-1, 5, -1, -1, -1), NONE);
        due("c is no PLACE", x.joined(-1, -1, 7, -1, -1), NONE);
        due("d is no PLACE", x.joined(-1, -1, -1, 9, -1), NONE);
        due("e is no PLACE", x.joined(-1, -1, -1, -1, 11), NONE);
        due("far off", x.joined(-1, -1, -1, -1, FAR_ABOVE), NONE);
        due("odd and even", one().joined(3, 4, -1, -1, -1), NONE);
        due("even and odd", one().joined(4, 3, -1, -1, -1), NONE);
        due("of 30 and 60: apart", radarOf("gap 30;gap 60;").joined(1, 2, -1, -1, -1), NONE);
        due("of 30 and 60: 59", radarOf("gap 30;gap 60;").joined(29, 59, -1, -1, -1), 59);
        StaggerRadar four = radarOf("gap 4;gap 6;gap 7;gap 9;");
        for (int place = -1; place < 9; place++) {
            due("1 of 4 and 2 of 6, whatever the others are", four.joined(1, 2, place, place, place), NONE);
            due("4 of 4, whatever the others are", four.joined(4, place, place, -1, place), NONE);
            due("1 of 6 and 2 of 9, whatever the others are", four.joined(-1, 1, place, 2, place), NONE);
        }
    }

    // ---- promise 21

    @Boundaries.Sentence(promise = 21, says = "NONE: there is none such (of either)")
    static void noSuchPlace() {
        StaggerRadar x = full();
        for (int k : new int[] {FAR_BELOW, -1, 5, 256, FAR_ABOVE}) {
            due("GAP " + k, x.at(k, 11, false), NONE);
            due("GAP " + k, x.at(k, 11, true), NONE);
        }
        for (int k = 0; k < 5; k++) {
            for (int place : new int[] {FAR_BELOW, -1, 50 + k, 51 + k, 60, FAR_ABOVE}) {
                due("PLACE " + place, x.at(k, place, false), NONE);
                due("PLACE " + place, x.at(k, place, true), NONE);
            }
            due("the last PLACE", x.at(k, 49 + k, false), 0);
            due("the first PLACE", x.at(k, 0, true), 0);
        }
        due("without GAPS", new StaggerRadar().at(0, 0, false), NONE);
        due("60 has a PLACE 59", radarOf("wave 61;gap 60;go 59 7 5;").at(0, 59, true), 5);
        due("and no 60", radarOf("wave 61;gap 60;go 59 7 5;").at(0, 60, true), NONE);
        due("4 has a PLACE 3", radarOf("gap 4;go 7 7 5;").at(0, 3, false), 1);
    }

    @Boundaries.Sentence(promise = 21, says = "TARGETS SEEN at a PLACE (bits), or (loud) their STRENGTHS together (none, all)")
    static void noneAndAll() {
        StaggerRadar x = radarOf("gap 10;" + Boundaries.many("go 53 7 99;", 8));
        due("all eight", x.at(0, 3, false), 255);
        due("together", x.at(0, 3, true), 792);
        due("none", x.at(0, 4, false), 0);
        due("none", x.at(0, 4, true), 0);
        due("the last of eight", full().at(4, 18, false), 128);
        due("its STRENGTH", full().at(4, 18, true), 18);
        x.set(FLOOR, 200);
        x.leave(0);
        due("FLOOR is of no matter", one().at(0, 3, true), 20);
    }

    @Boundaries.Sentence(promise = 21, says = "TARGETS SEEN at a PLACE (no more when they went, moved or are SEEN no more)")
    static void seenNoMore() {
        StaggerRadar x = one();
        due("at 3", x.at(0, 3, false), 1);
        x.move(3);
        due("at 3 no more", x.at(0, 3, false), 0);
        due("54, at 4", x.at(0, 4, false), 1);
        x.set(PULSE, 5);
        due("hidden", x.at(0, 4, false), 0);
        due("hidden", x.at(0, 4, true), 0);
        x.undo();
        due("seen again", x.at(0, 4, false), 1);
        x.leave(0);
        due("it went", x.at(0, 4, false), 0);
        due("it went", x.at(0, 4, true), 0);
        due("it went", x.makers(54), 0);
    }

    @Boundaries.Sentence(promise = 21, says = "SEEN: the PLACE is PULSE or more")
    static void atPulse() {
        for (int pulse = 0; pulse <= 9; pulse++) {
            StaggerRadar x = radarOf("gap 20;pulse " + pulse + ";go " + (40 + pulse) + " 7 9;");
            due("at PULSE", x.at(0, pulse, true), 9);
            if (pulse < 9) {
                x.set(PULSE, pulse + 1);
                due("one less than PULSE", x.at(0, pulse, true), 0);
            }
        }
    }

    // ---- promise 22

    @Boundaries.Sentence(promise = 22, says = "HITS of a number, 0 to 9999: NONE: another one")
    static void hitNumbers() {
        StaggerRadar x = radarOf("pulse 0;gap 10;gap 12;go 60 7 1;go 63 7 1;");
        for (int number : new int[] {FAR_BELOW, -60, -1, 10000, 10020, FAR_ABOVE}) {
            due("number " + number, x.hits(number), NONE);
        }
        due("0", x.hits(0), 3);
        due("9999 is 9 and 3", x.hits(9999), 2);
        due("9983 is 3 and 11", x.hits(9983), 1);
        due("9960", x.hits(9960), 3);
        due("LIMIT is of no matter", x.hits(540), 3);
        due("without GAPS", new StaggerRadar().hits(9999), 0);
        due("without GAPS, another one", new StaggerRadar().hits(10000), NONE);
        due("all five", full().hits(18), 31);
        due("none of five", full().hits(10), 0);
    }

    @Boundaries.Sentence(promise = 22, says = "An ECHO: STRENGTHS of TARGETS SEEN there are FLOOR or more together")
    static void hitsByFloor() {
        StaggerRadar x = one();
        x.target(53, 7, 99);
        x.target(53, 6, 80);
        // By 10, SPEED 6 is BLIND: 119; by 12 it is not: 199.
        x.set(FLOOR, 119);
        due("119 is enough", x.hits(53), 3);
        x.set(FLOOR, 120);
        due("119 is not enough", x.hits(53), 2);
        x.set(FLOOR, 199);
        due("199 is enough", x.hits(53), 2);
        x.set(FLOOR, 200);
        due("199 is not enough", x.hits(53), 0);
    }

    @Boundaries.Sentence(promise = 22, says = "An ECHO: a PLACE of a GAP (0, too, and the last one)")
    static void echoAtFirstAndLastPlace() {
        StaggerRadar x = radarOf("pulse 0;wave 61;gap 10;gap 60;go 60 7 1;go 119 7 1;");
        due("0 and 9 of 10", x.gapOf(0, 1), 2);
        due("0 and 59 of 60", x.gapOf(1, 1), 2);
        due("in all", x.count(12), 4);
        due("PAIRINGS", x.pairs(0), 4);
        due("0", x.hits(0), 3);
        due("59", x.hits(59), 3);
        due("9", x.hits(9), 1);
        x.set(PULSE, 1);
        due("9 of 10", x.gapOf(0, 1), 1);
        due("in all", x.count(12), 2);
    }

    // ---- promise 23

    @Boundaries.Sentence(promise = 23, says = "The k-th that is FOUND, rising, or (ghosts) the k-th GHOST. NONE: not so many.")
    static void foundOnes() {
        StaggerRadar x = full();
        int[] all = {11, 12, 13, 14, 15, 16, 17, 18, 65, 66, 67, 68};
        for (int k = 0; k < all.length; k++) {
            due("found " + k, x.found(k, false), all[k]);
        }
        for (int k = 0; k < 4; k++) {
            due("ghost " + k, x.found(k, true), 65 + k);
        }
        for (int k : new int[] {FAR_BELOW, -1, 12, 13, FAR_ABOVE}) {
            due("found " + k, x.found(k, false), NONE);
        }
        for (int k : new int[] {FAR_BELOW, -1, 4, 5, FAR_ABOVE}) {
            due("ghost " + k, x.found(k, true), NONE);
        }
        due("of nothing", new StaggerRadar().found(0, false), NONE);
        due("of nothing", new StaggerRadar().found(0, true), NONE);
        x.set(LIMIT, 65);
        due("no GHOST", x.found(0, true), NONE);
    }

    @Boundaries.Sentence(promise = 23, says = "FOUND: numbers from 0 on below LIMIT")
    static void foundBelowLimit() {
        StaggerRadar x = radarOf("gap 10;gap 12;limit 1000;go 999 7 1;");
        due("the last one", x.found(16, false), 999);
        due("no more", x.found(17, false), NONE);
        due("the last GHOST", x.found(15, true), 939);
        x.set(LIMIT, 999);
        due("939 is the last one", x.found(15, false), 939);
        due("no more", x.found(16, false), NONE);
        StaggerRadar zero = radarOf("pulse 0;gap 10;gap 12;limit 1;go 0 7 1;");
        due("0", zero.found(0, false), 0);
        due("0 alone", zero.found(1, false), NONE);
        due("0 is TRUE", zero.found(0, true), NONE);
        due("0 is a GHOST", radarOf("pulse 0;gap 10;gap 12;limit 1;go 60 7 1;").found(0, true), 0);
    }

    @Boundaries.Sentence(promise = 23, says = "TRUE, if it is the RANGE of any TARGET (SEEN or not), else a GHOST")
    static void trueOnes() {
        StaggerRadar x = one();
        due("a GHOST", x.found(0, true), 113);
        x.target(113, 0, 1);
        due("a BLIND one makes it TRUE", x.found(0, true), 173);
        x.target(172, 30, 1);
        x.target(174, -30, 1);
        due("RANGES beside it do not", x.found(0, true), 173);
        x.move(1);
        due("by moving there it is TRUE", x.found(0, true), 233);
    }

    @Boundaries.Sentence(promise = 23, says = "that have NEED HITS or more")
    static void foundByNeed() {
        StaggerRadar x = full();
        x.leave(0);
        // Without 11 the four GHOSTS lose 54's, 53's, 52's, 51's ECHO at 11: 65 has four HITS, as has 11 none.
        due("four of five", x.found(7, false), 66);
        x.set(NEED, 4);
        due("65 by NEED 4", x.hits(65), 15);
        int k = 0;
        while (k < 500 && x.found(k, false) != 65 && x.found(k, false) != NONE) {
            k++;
        }
        due("it is FOUND", x.found(k, false), 65);
        x.set(NEED, 1);
        due("12 is the least by NEED 1", x.found(0, false), 12);
    }

    // ---- promise 24

    @Boundaries.Sentence(promise = 24, says = "MAKERS of a number, 0 to 9999, FOUND or not: NONE: another one")
    static void makersNumbers() {
        StaggerRadar x = radarOf("pulse 0;gap 10;gap 12;go 60 7 1;go 63 7 1;");
        for (int number : new int[] {FAR_BELOW, -60, -1, 10000, 10020, FAR_ABOVE}) {
            due("number " + number, x.makers(number), NONE);
        }
        due("0", x.makers(0), 1);
        due("9999 is 9 and 3", x.makers(9999), 2);
        due("9960", x.makers(9960), 1);
        due("not FOUND", x.makers(13), 2);
        due("none", x.makers(5), 0);
        due("all five by one each", full().makers(65), 31);
        due("the last of eight", full().makers(18), 128);
        due("without GAPS", new StaggerRadar().makers(0), 0);
    }

    @Boundaries.Sentence(promise = 24, says = "TARGETS SEEN at its PLACES where there is an ECHO")
    static void makersByFloor() {
        StaggerRadar x = one();
        x.target(63, 7, 3);
        x.set(FLOOR, 20);
        due("23 at 3 of 10, 20 at 5 of 12", x.makers(53), 3);
        due("20 at 5 of 12 is enough", x.makers(5), 1);
        x.set(FLOOR, 21);
        due("20 at 5 of 12 is not", x.makers(5), 0);
        due("23 at 3 of 10 is", x.makers(53), 3);
        x.set(FLOOR, 24);
        due("nothing is", x.makers(53), 0);
        x.set(FLOOR, 1);
        x.target(53, 6, 1);
        due("by 12 alone it is SEEN", x.makers(5), 5);
        due("by 10 it is BLIND", x.makers(13), 3);
    }

    // ---- promise 25

    @Boundaries.Sentence(promise = 25, says = "The k-th in the PICTURE, or (hits) how many HITS it took. NONE: not so many.")
    static void pictureOnes() {
        StaggerRadar x = full();
        for (int k = 0; k < 8; k++) {
            due("number " + k, x.picture(k, false), 11 + k);
            due("its HITS " + k, x.picture(k, true), 5);
        }
        for (int k : new int[] {FAR_BELOW, -1, 8, 9, FAR_ABOVE}) {
            due("number " + k, x.picture(k, false), NONE);
            due("its HITS " + k, x.picture(k, true), NONE);
        }
        due("of nothing", new StaggerRadar().picture(0, false), NONE);
        due("of nothing", new StaggerRadar().picture(0, true), NONE);
    }

    @Boundaries.Sentence(promise = 25, says = "as long as any number below LIMIT has NEED HITS or more that are free")
    static void pictureByNeedAndLimit() {
        StaggerRadar x = full();
        x.set(LIMIT, 18);
        due("18 is not below", x.picture(7, false), NONE);
        due("17 is", x.picture(6, false), 17);
        x.set(LIMIT, 11);
        due("none is", x.picture(0, false), NONE);
        StaggerRadar y = one();
        y.target(63, 7, 3);
        // 3 takes PLACE 3 of both, so 5 of 12 alone is free.
        due("by NEED 2: both at 3", y.picture(0, false), 3);
        due("one that is free is too few", y.picture(1, false), NONE);
        y.set(NEED, 1);
        due("by NEED 1: 5 of 12", y.picture(1, false), 5);
        due("one HIT", y.picture(1, true), 1);
        y.set(LIMIT, 5);
        due("5 is not below", y.picture(1, false), NONE);
        y.set(NEED, 3);
        due("more than there are GAPS", y.picture(0, false), NONE);
    }

    @Boundaries.Sentence(promise = 25, says = "that which has most, of several the least, is the next one")
    static void mostThenLeast() {
        StaggerRadar three = radarOf("gap 10;gap 11;gap 13;go 7 7 1;go 3 6 1;");
        due("three HITS ahead of two", three.picture(0, false), 7);
        due("two", three.picture(1, false), 3);
        StaggerRadar alike = radarOf("gap 50;gap 51;go 30 7 1;go 20 7 1;");
        due("the least of two alike", alike.picture(0, false), 20);
        due("then the other", alike.picture(1, false), 30);
        due("0 is the least of all", radarOf("pulse 0;gap 10;gap 12;go 60 7 1;").picture(0, false), 0);
    }

    @Boundaries.Sentence(promise = 25, says = "any number below LIMIT (1 to 1000)")
    static void pictureByLargestLimit() {
        // By 59 and 60, 999 is alone below 3540.
        StaggerRadar x = radarOf("wave 61;gap 59;gap 60;limit 1000;go 999 7 1;");
        due("999", x.picture(0, false), 999);
        due("999 alone", x.picture(1, false), NONE);
        x.set(LIMIT, 999);
        due("it is not below", x.picture(0, false), NONE);
        StaggerRadar y = radarOf("pulse 0;need 1;gap 4;gap 10;limit 1000;go 1000 7 1;");
        due("0", y.picture(0, false), 0);
        due("by both", y.picture(0, true), 2);
        due("1000 is not below", y.picture(1, false), NONE);
        due("1000 is 0 of 4 and 10, FOUND: 250 and 100 less 50", y.count(13), 300);
        StaggerRadar z = radarOf("wave 61;gap 59;gap 60;limit 300;go 299 7 1;");
        due("299", z.picture(0, false), 299);
        z.set(LIMIT, 299);
        due("299 is not below 299", z.picture(0, false), NONE);
    }

    @Boundaries.Sentence(promise = 25, says = "its HITS are free no more (those that are taken are not counted to another one)")
    static void takenHits() {
        // 7 is heard by all three; 17 at 7 of 10 like it, and by 11 and 13 at 6 and 4.
        StaggerRadar x = radarOf("wave 61;gap 10;gap 11;gap 13;limit 20;go 7 7 1;go 17 7 1;");
        due("HITS of 17", x.hits(17), 7);
        due("7 comes first", x.picture(0, false), 7);
        due("it takes three", x.picture(0, true), 3);
        due("17 comes next", x.picture(1, false), 17);
        due("two are free", x.picture(1, true), 2);
        due("no more", x.picture(2, false), NONE);
        x.set(NEED, 3);
        due("two are too few", x.picture(1, false), NONE);
        due("though it is FOUND", x.found(1, false), 17);
        StaggerRadar y = radarOf("wave 61;need 1;gap 10;gap 11;limit 20;go 7 7 1;go 17 7 1;");
        due("7 by both", y.picture(0, true), 2);
        due("6 of 11 is free: 6 ahead of 17", y.picture(1, false), 6);
        y.set(LIMIT, 6);
        due("6 is not below", y.count(16), 0);
    }

    @Boundaries.Sentence(promise = 25, says = "PICTURE: one number for each ECHO (40 of them)")
    static void forty() {
        // Each is heard at five places below 56, no place like another: number and place are the same there.
        int[] ranges = {74, 156, 433, 445, 1510, 1907, 2133, 2843};
        StaggerRadar x = radarOf("wave 61;need 1;limit 56;gap 56;gap 57;gap 58;gap 59;gap 60;");
        boolean[] heard = new boolean[56];
        for (int range : ranges) {
            x.target(range, 7, 1);
            for (int gap = 56; gap <= 60; gap++) {
                heard[range % gap] = true;
            }
        }
        due("in the PICTURE", x.count(16), 40);
        int k = 0;
        for (int n = 0; n < 56; n++) {
            if (heard[n]) {
                due("number " + k, x.picture(k, false), n);
                due("its HITS " + k, x.picture(k, true), 1);
                k++;
            }
        }
        due("40 there are", k, 40);
        due("no 41st", x.picture(40, false), NONE);
        due("no 41st", x.picture(40, true), NONE);
    }

    @Boundaries.Sentence(promise = 25, says = "its HITS are free no more (as many as there can be: one number for each ECHO)")
    static void oneForEachEcho() {
        // By NEED 1 and below 50, ranges from 200 on are heard at five unlike places each.
        StaggerRadar x = radarOf("wave 61;need 1;limit 60;gap 56;gap 57;gap 58;gap 59;gap 60;");
        for (int t = 0; t < 8; t++) {
            x.target(1000 + 6 * t, 7, 1);
        }
        int size = x.count(16);
        int hits = 0;
        for (int k = 0; k < size; k++) {
            hits += x.picture(k, true);
        }
        due("all ECHOES were taken once", hits, x.count(12));
        due("40 at most", size <= 40 ? 1 : 0, 1);
        due("not so many", x.picture(size, true), NONE);
    }

    // ---- promise 26

    @Boundaries.Sentence(promise = 26, says = "NONE: another what")
    static void noSuchPairs() {
        for (int what : new int[] {FAR_BELOW, -1, 3, 4, 256, FAR_ABOVE}) {
            due("full, what " + what, full().pairs(what), NONE);
            due("empty, what " + what, new StaggerRadar().pairs(what), NONE);
        }
    }

    @Boundaries.Sentence(promise = 26, says = "What 0: PAIRINGS (0 without GAPS)")
    static void pairings() {
        for (int what = 0; what < 3; what++) {
            due("without GAPS, what " + what, new StaggerRadar().pairs(what), 0);
            due("without GAPS, with a TARGET, what " + what, radarOf("go 0 0 1;").pairs(what), 0);
            due("without ECHOES, what " + what, radarOf("gap 10;gap 12;").pairs(what), 0);
        }
        due("8 by 8 by 8 by 8 by 8", full().pairs(0), 32768);
        StaggerRadar x = one();
        x.target(54, 6, 1);
        due("one of 10, two of 12", x.pairs(0), 2);
        x.leave(0);
        due("none of 10, one of 12", x.pairs(0), 0);
        due("of one GAP", radarOf("gap 10;go 3 7 1;go 5 7 1;").pairs(0), 2);
    }

    @Boundaries.Sentence(promise = 26, says = "1: those that are JOINED to a number below LIMIT, 2: GHOSTS of these")
    static void joinedPairs() {
        StaggerRadar x = full();
        due("JOINED", x.pairs(1), 12);
        due("GHOSTS", x.pairs(2), 4);
        x.set(LIMIT, 66);
        due("65 is below", x.pairs(1), 9);
        due("65 is below", x.pairs(2), 1);
        x.set(LIMIT, 65);
        due("65 is not below", x.pairs(1), 8);
        due("65 is not below", x.pairs(2), 0);
        x.set(LIMIT, 11);
        due("none is below", x.pairs(1), 0);
        x.set(NEED, 1);
        x.set(LIMIT, 500);
        due("NEED is of no matter", x.pairs(1), 12);
    }

    @Boundaries.Sentence(promise = 26, says = "It is JOINED to the least number of which these are the PLACES, if there is one.")
    static void leastNumber() {
        StaggerRadar x = radarOf("gap 4;gap 6;limit 1000;go 37 7 1;");
        // PLACE 1 of both: 1, 13, 25, .. of which 1 is the least.
        due("JOINED once", x.pairs(1), 1);
        due("to 1, which is no RANGE", x.pairs(2), 1);
        x.target(1, 0, 1);
        due("to 1, which is one", x.pairs(2), 0);
        StaggerRadar y = radarOf("gap 4;gap 6;go 1 7 1;go 2 7 1;");
        due("four PAIRINGS", y.pairs(0), 4);
        due("1 and 2, 2 and 1 are never JOINED", y.pairs(1), 2);
        due("0 below LIMIT 1", radarOf("pulse 0;gap 4;gap 6;limit 1;go 12 7 1;").pairs(1), 1);
    }

    @Boundaries.Sentence(promise = 26, says = "JOINED to the least number, below LIMIT (of numbers beyond REACH none is the least)")
    static void joinedBelowReach() {
        due("of one GAP", radarOf("gap 10;go 3 7 1;").pairs(1), 1);
        due("33 of 5 and 7, REACH 35", radarOf("wave 61;gap 5;gap 7;go 33 7 1;").pairs(1), 1);
        due("34, the last below REACH", radarOf("wave 61;gap 5;gap 7;limit 35;go 34 7 1;").pairs(1), 1);
        due("34 is not below 34", radarOf("wave 61;gap 5;gap 7;limit 34;go 34 7 1;").pairs(1), 0);
        due("0, not REACH, too", radarOf("pulse 0;wave 61;gap 5;gap 7;go 35 7 1;").pairs(1), 1);
        due("0 is a GHOST", radarOf("pulse 0;wave 61;gap 5;gap 7;go 35 7 1;").pairs(2), 1);
        due("999", radarOf("wave 61;gap 59;gap 60;limit 1000;go 999 7 1;").pairs(1), 1);
        due("999 is not below", radarOf("wave 61;gap 59;gap 60;limit 999;go 999 7 1;").pairs(1), 0);
        due("1000 is not below", radarOf("wave 61;gap 59;gap 60;limit 1000;go 1000 7 1;").pairs(1), 0);
        due("300", radarOf("wave 61;gap 59;gap 58;limit 301;go 300 7 1;").pairs(1), 1);
    }

    // ---- promise 27

    /** One target, at that range, and a look. */
    private static void lookAt(StaggerRadar x, int range) {
        x.leave(0);
        x.target(range, 7, 9);
        x.look();
    }

    private static StaggerRadar line() {
        return radarOf("wave 61;gap 49;gap 50;");
    }

    @Boundaries.Sentence(promise = 27, says = "A TRACK, if there are two LOOKS or more")
    static void fewLooks() {
        StaggerRadar x = line();
        due("no LOOKS", x.track(NONE, 0), 0);
        due("no LOOKS", x.track(0, 0), NO_TRACK);
        due("no LOOKS", x.track(0, 10), NO_TRACK);
        lookAt(x, 20);
        due("one LOOK", x.track(NONE, 0), 0);
        due("one LOOK", x.track(0, 0), NO_TRACK);
        due("one LOOK", x.track(0, 10), NO_TRACK);
        x.move(1);
        lookAt(x, 21);
        due("two LOOKS", x.track(NONE, 0), 1);
        due("two LOOKS", x.track(0, 0), 20);
        x.move(1);
        x.leave(0);
        due("a LOOK without numbers", x.look(), 0);
        due("one number of each LOOK: none", x.track(NONE, 0), 0);
        due("one number of each LOOK: none", x.track(0, 0), NO_TRACK);
    }

    @Boundaries.Sentence(promise = 27, says = "-100000: not so many")
    static void notSoMany() {
        StaggerRadar x = radarOf("wave 61;gap 49;gap 50;go 20 7 1;go 30 7 1;");
        x.look();
        x.move(1);
        x.look();
        due("TRACKS", x.track(NONE, 0), 4);
        due("the first", x.track(0, 0) * 100 + x.track(0, 1), 2020);
        due("the last", x.track(3, 0) * 100 + x.track(3, 1), 3030);
        for (int k : new int[] {FAR_BELOW, -2, 4, 5, FAR_ABOVE}) {
            due("TRACK " + k, x.track(k, 0), NO_TRACK);
            due("TRACK " + k, x.track(k, 10), NO_TRACK);
        }
    }

    @Boundaries.Sentence(promise = 27, says = "-100000: another what (how many: k NONE, what 0)")
    static void noSuchTrackWhat() {
        StaggerRadar x = line();
        for (int i = 0; i < 4; i++) {
            lookAt(x, 20 + i);
            x.move(1);
        }
        for (int what = 0; what < 4; what++) {
            due("what " + what, x.track(0, what), 20 + what);
        }
        due("what 10", x.track(0, 10), 16);
        for (int what : new int[] {FAR_BELOW, -1, 4, 5, 9, 11, FAR_ABOVE}) {
            due("what " + what, x.track(0, what), NO_TRACK);
        }
        for (int what : new int[] {FAR_BELOW, -1, 1, 2, 3, 9, 10, 11, FAR_ABOVE}) {
            due("k NONE, what " + what, x.track(NONE, what), NO_TRACK);
        }
    }

    @Boundaries.Sentence(promise = 27, says = "are apart by the time from the first LOOK to the last one at most")
    static void apart() {
        // First, middle, last at 0, 1, 2: 2 (middle - first) and last - first are apart by 2 at most.
        int[][] due = {{20, 21, 20, 1}, {20, 22, 20, 0}, {20, 19, 20, 1}, {20, 18, 20, 0}, {20, 22, 22, 1},
            {20, 22, 21, 0}, {20, 20, 22, 1}, {20, 20, 23, 0}, {20, 20, 18, 1}, {20, 20, 17, 0}, {20, 18, 18, 1},
            {20, 18, 19, 0}, {1, 24, 48, 1}, {1, 24, 49, 0}, {48, 24, 2, 1}};
        for (int[] one : due) {
            StaggerRadar x = line();
            for (int i = 0; i < 3; i++) {
                lookAt(x, one[i]);
                x.move(1);
            }
            int size = one[2] < 49 ? one[3] : 0;
            due(one[0] + ", " + one[1] + ", " + one[2], x.track(NONE, 0), size);
        }
    }

    @Boundaries.Sentence(promise = 27, says = "for each of them (the third of four, too; unlike times)")
    static void apartOfFour() {
        // At 0, 1, 3, 1003: 1003 (number - first) and (last - first) by 1 or by 3 are apart by 1003 at most.
        int[][] due = {{20, 20, 20, 40, 1}, {20, 21, 20, 20, 1}, {20, 21, 21, 21, 1}, {20, 22, 21, 40, 0},
            {20, 21, 22, 40, 0}, {20, 19, 21, 20, 1}, {20, 19, 21, 21, 0}, {20, 21, 19, 19, 0}, {20, 21, 19, 20, 1},
            {20, 21, 21, 19, 0}};
        int[] times = {1, 2, 1000, 1};
        for (int[] one : due) {
            StaggerRadar x = line();
            for (int i = 0; i < 4; i++) {
                lookAt(x, one[i]);
                x.leave(0);
                x.move(times[i]);
            }
            due(one[0] + ", " + one[1] + ", " + one[2] + ", " + one[3], x.track(NONE, 0), one[4]);
        }
    }

    @Boundaries.Sentence(promise = 27, says = "TRACKS: how many (four LOOKS of 12 numbers)")
    static void mostTracks() {
        // Eight targets at 16 places below 40: 1 to 12 are the first ones.
        StaggerRadar x = radarOf("need 1;limit 40;gap 40;gap 41;");
        for (int t = 0; t < 8; t++) {
            x.target(42 + 2 * t, 1, 1);
        }
        for (int i = 0; i < 4; i++) {
            due("numbers", x.look(), 12);
            x.move(1);
        }
        int size = 0;
        int middle = 0;
        for (int row = 0; row < 12 * 12 * 12 * 12; row++) {
            int a = row / 1728, b = row / 144 % 12, c = row / 12 % 12, d = row % 12;
            if (Math.abs(3 * (b - a) - (d - a)) <= 3 && Math.abs(3 * (c - a) - 2 * (d - a)) <= 3) {
                middle = size == 300 ? 1000000 * (a + 1) + 10000 * (b + 1) + 100 * (c + 1) + d + 1 : middle;
                size++;
            }
        }
        due("TRACKS", x.track(NONE, 0), size);
        due("TRACK 300", x.track(300, 0) * 1000000 + x.track(300, 1) * 10000 + x.track(300, 2) * 100 + x.track(300, 3), middle);
        for (int look = 0; look < 4; look++) {
            due("the first", x.track(0, look), 1);
            due("the last", x.track(size - 1, look), 12);
        }
        due("no more", x.track(size, 0), NO_TRACK);
    }

    @Boundaries.Sentence(promise = 27, says = "In order: as the numbers come in the first LOOK, then in the second one, and so on")
    static void trackOrder() {
        StaggerRadar x = radarOf("need 1;limit 40;gap 40;gap 41;go 42 1 1;go 44 1 1;");
        // 1, 2, 3, 4 at 0, 1, 2.
        for (int i = 0; i < 3; i++) {
            due("numbers", x.look(), 4);
            x.move(1);
        }
        // 2 (b - a) and c - a are apart by 2 at most.
        int k = 0;
        for (int a = 1; a <= 4; a++) {
            for (int b = 1; b <= 4; b++) {
                for (int c = 1; c <= 4; c++) {
                    if (Math.abs(2 * (b - a) - (c - a)) <= 2) {
                        due("TRACK " + k, x.track(k, 0) * 100 + x.track(k, 1) * 10 + x.track(k, 2), 100 * a + 10 * b + c);
                        k++;
                    }
                }
            }
        }
        due("TRACKS", x.track(NONE, 0), k);
        due("no more", x.track(k, 0), NO_TRACK);
    }

    @Boundaries.Sentence(promise = 27, says = "Its PACE: 16 times the difference of the last one from the first one, by that time, cut to an int")
    static void paces() {
        int[][] due = {{20, 21, 1, 16}, {20, 21, 3, 5}, {20, 19, 3, -5}, {20, 21, 16, 1}, {20, 21, 17, 0}, {20, 19, 16, -1},
            {20, 19, 17, 0}, {20, 20, 1, 0}, {1, 48, 1, 752}, {48, 1, 1, -752}, {1, 48, 1000, 0}, {1, 48, 47, 16}};
        for (int[] one : due) {
            StaggerRadar x = line();
            lookAt(x, one[0]);
            x.leave(0);
            x.move(one[2]);
            x.target(1, 7, 1);
            lookAt(x, one[1]);
            due(one[0] + ", " + one[1] + " by " + one[2], x.track(0, 10), one[3]);
        }
        StaggerRadar later = line();
        later.move(1000);
        lookAt(later, 20);
        later.move(2);
        lookAt(later, 30);
        due("the first LOOK is not at 0", later.track(0, 10), 80);
        later.move(6);
        lookAt(later, 61);
        due("30 and 61 are in line", later.track(NONE, 0), 1);
        due("41 by 8, from the first one to the last one", later.track(0, 10), 82);
    }

    /** Targets at those ranges alone, a look, and time goes on. */
    private static void lookAtAll(StaggerRadar x, int time, int... ranges) {
        while (x.count(8) > 0) {
            x.leave(0);
        }
        for (int range : ranges) {
            x.target(range, 7, 9);
        }
        due("numbers", x.look(), ranges.length);
        x.move(time);
    }

    /** Each way to take one number of each look, in order, that is in line; asks x for each of them. */
    private static void dueTracks(StaggerRadar x, int[] times, int[]... looks) {
        int last = looks.length - 1;
        int[] path = new int[looks.length];
        int k = 0;
        int all = 1;
        for (int[] look : looks) {
            all *= look.length;
        }
        for (int i = 0; i < all; i++) {
            int rest = i;
            for (int look = last; look >= 0; look--) {
                path[look] = looks[look][rest % looks[look].length];
                rest /= looks[look].length;
            }
            int whole = times[last] - times[0];
            boolean straight = true;
            for (int look = 0; look <= last; look++) {
                int apart = (path[look] - path[0]) * whole - (path[last] - path[0]) * (times[look] - times[0]);
                straight &= Math.abs(apart) <= whole;
            }
            if (straight) {
                for (int look = 0; look <= last; look++) {
                    due("TRACK " + k + ", LOOK " + look, x.track(k, look), path[look]);
                }
                due("PACE of " + k, x.track(k, 10), 16 * (path[last] - path[0]) / whole);
                k++;
            }
        }
        due("TRACKS", x.track(NONE, 0), k);
        due("no more", x.track(k, 0), NO_TRACK);
    }

    @Boundaries.Sentence(promise = 27, says = "one number of each LOOK (unlike many of each; the oldest one gone)")
    static void unlikeLooks() {
        int[][] looks = {{20, 21}, {19, 21, 22}, {20}, {18, 20, 21, 22, 25}, {21, 22, 24}, {20, 30}, {22, 23, 24, 26}};
        int[] times = {5, 6, 8, 9, 13, 14, 20};
        for (int from = 0; from < looks.length; from++) {
            for (int size = 2; size <= 4 && from + size <= looks.length; size++) {
                StaggerRadar x = line();
                int first = size == 4 ? 0 : from;
                x.move(times[first]);
                for (int i = first; i < from + size; i++) {
                    int next = i + 1 < looks.length ? times[i + 1] - times[i] : 1;
                    lookAtAll(x, next, looks[i]);
                }
                int[][] some = java.util.Arrays.copyOfRange(looks, from, from + size);
                dueTracks(x, java.util.Arrays.copyOfRange(times, from, from + size), some);
            }
        }
    }
}
