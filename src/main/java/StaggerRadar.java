import java.util.Arrays;
import java.util.NoSuchElementException;

/**
 * A radar whose pulses follow at unlike gaps. The document DOC.md says what each call promises;
 * words in capitals in the comments are its terms.
 */
public final class StaggerRadar {
    /** There is none. */
    public static final int NONE = -1;

    private static final int MOST_GAPS = 5;
    private static final int LEAST_GAP = 4;
    private static final int MOST_GAP = 60;
    private static final int MOST_TARGETS = 8;
    private static final int MOST_RANGE = 2999;
    private static final int SPOTS_A_RANGE = 16;
    private static final int MOST_SPOT = 47999;
    private static final int MOST_SPEED = 500;
    private static final int MOST_STRENGTH = 99;
    private static final int MOST_NUMBER = 9999;
    private static final int MOST_LIMIT = 1000;
    private static final int MOST_STEP = 1000;
    private static final int MOST_TIME = 999999;
    private static final int MOST_LOOKS = 4;
    private static final int LOOK_NUMBERS = 12;
    private static final int MOST_UNDONE = 8;
    private static final int IMAGES = 3;
    private static final int MOST_BYTES = 400;
    private static final int MOST_SHAKE = 3;
    private static final int MOST_PULSES = 64;
    private static final int MOST_WAIT = 200;
    private static final int LEAST_CHOSEN = 2;
    private static final int MOST_CHOSEN = 4;
    private static final int MOST_WIDTH = 20;
    private static final int NO_TRACK = -100000;
    private static final int PACE = 10;
    private static final int FIRST_OF_ROW = 10;

    // The settings stand in the order in which set() and count() number them.
    private static final int WAVE = 0;
    private static final int NOTCH = 1;
    private static final int PULSE = 2;
    private static final int LIMIT = 3;
    private static final int NEED = 4;
    private static final int SPAN = 5;
    private static final int FLOOR = 6;
    private static final int SETTINGS = 7;
    private static final int[] LEAST = {2, 0, 0, 1, 1, 1, 1};
    private static final int[] MOST = {999, 49, 9, 1000, 5, 200, 200};
    private static final int[] AT_FIRST = {60, 0, 1, 500, 2, 100, 1};

    private final Radar radar;
    private final Radar draft;
    private final Text text;
    private final Reader reader;
    private final History history;
    private final Radar[] keptRadars;
    private final Text[] keptTexts;
    private final boolean[] kept;
    private final Echoes echoes;
    private final Tracks tracks;
    private final Dwell dwelling;
    private final Chooser chooser;
    private final Adviser adviser;
    private final int[] places;

    public StaggerRadar() {
        radar = new Radar();
        draft = new Radar();
        text = new Text();
        reader = new Reader();
        history = new History();
        keptRadars = new Radar[IMAGES];
        keptTexts = new Text[IMAGES];
        kept = new boolean[IMAGES];
        for (int k = 0; k < IMAGES; k++) {
            keptRadars[k] = new Radar();
            keptTexts[k] = new Text();
        }
        echoes = new Echoes();
        tracks = new Tracks();
        dwelling = new Dwell();
        chooser = new Chooser();
        adviser = new Adviser();
        places = new int[MOST_GAPS];
    }

    public int type(long eight) {
        int size = 0;
        while (size < 8 && byteOf(eight, size) != 0) {
            size++;
        }
        if (text.size + size > MOST_BYTES) {
            return NONE;
        }
        for (int i = 0; i < size; i++) {
            text.append(byteOf(eight, i));
        }
        return text.size;
    }

    public int read() {
        reader.readInto(text, draft);
        text.size = 0;
        text.faultKind = reader.faultKind;
        text.faultPlace = reader.faultPlace;
        if (reader.faultKind != 0) {
            return NONE;
        }
        radar.copyFrom(draft);
        history.forget();
        return radar.gapCount;
    }

    public int fault(boolean place) {
        return place ? text.faultPlace : text.faultKind;
    }

    // ---- acts

    public int gap(int gap, boolean off) {
        int index = radar.indexOfGap(gap);
        if (off) {
            if (index == NONE) {
                return NONE;
            }
            history.save(radar);
            radar.dropGap(index);
            return radar.gapCount;
        }
        if (!isGap(gap) || index != NONE || radar.gapCount >= MOST_GAPS) {
            return NONE;
        }
        history.save(radar);
        radar.addGap(gap);
        return radar.gapCount;
    }

    public boolean set(int what, int number) {
        if (!isWithin(what, 0, SETTINGS - 1) || !isWithin(number, LEAST[what], MOST[what])) {
            return false;
        }
        if (radar.settings[what] == number) {
            return false;
        }
        history.save(radar);
        radar.settings[what] = number;
        return true;
    }

    public int target(int range, int speed, int strength) {
        if (!isWithin(range, 0, MOST_RANGE) || !isSpeed(speed) || !isWithin(strength, 1, MOST_STRENGTH)) {
            return NONE;
        }
        if (radar.targetCount >= MOST_TARGETS) {
            return NONE;
        }
        history.save(radar);
        radar.addTarget(range, speed, strength);
        return radar.targetCount - 1;
    }

    public int leave(int target) {
        if (!radar.hasTarget(target)) {
            return NONE;
        }
        history.save(radar);
        radar.dropTarget(target);
        return radar.targetCount;
    }

    public int move(int time) {
        if (!isWithin(time, 1, MOST_STEP) || radar.time + time > MOST_TIME) {
            return NONE;
        }
        history.save(radar);
        return radar.pass(time);
    }

    public int look() {
        if (radar.lookCount > 0 && radar.lookTimes[radar.lookCount - 1] == radar.time) {
            return NONE;
        }
        history.save(radar);
        echoes.listen(radar);
        echoes.paint(radar);
        int size = Math.min(echoes.shownCount, LOOK_NUMBERS);
        radar.addLook(echoes.shown, size);
        return size;
    }

    public int undo() {
        if (history.size == 0) {
            return NONE;
        }
        history.restore(radar);
        return history.size;
    }

    // ---- what there is

    public int count(int what) {
        if (isWithin(what, 1, SETTINGS)) {
            return radar.settings[what - 1];
        }
        switch (what) {
            case 0: return radar.gapCount;
            case 8: return radar.targetCount;
            case 9: return radar.time;
            case 10: return radar.gone;
            case 11: return Speeds.countDark(radar);
            case 17: return history.size;
            case 18: return text.size;
            case 19: return radar.lookCount;
            default: return countHeard(what);
        }
    }

    private int countHeard(int what) {
        echoes.listen(radar);
        switch (what) {
            case 12: return echoes.countAll(radar);
            case 13: return echoes.countFound(radar, false);
            case 14: return echoes.countFound(radar, true);
            case 15: return echoes.missedTargets(radar);
            case 16:
                echoes.paint(radar);
                return echoes.shownCount;
            default: return NONE;
        }
    }

    public int gapOf(int k, int what) throws NoSuchElementException {
        if (!radar.hasGap(k) || !isWithin(what, 0, 3)) {
            throw new NoSuchElementException();
        }
        int gap = radar.gaps[k];
        switch (what) {
            case 0: return gap;
            case 1:
                echoes.listen(radar);
                return echoes.countOfGap(radar, k);
            case 2: return radar.targetsSeenBy(gap);
            default: return Speeds.countBlind(radar, gap);
        }
    }

    public int targetOf(int target, int what) throws NoSuchElementException {
        if (!radar.hasTarget(target) || !isWithin(what, 0, 6)) {
            throw new NoSuchElementException();
        }
        switch (what) {
            case 0: return radar.rangeOf(target);
            case 1: return radar.spots[target];
            case 2: return radar.speeds[target];
            case 3: return radar.strengths[target];
            case 4: return radar.gapsThatSee(target);
            case 5: return Speeds.blindGaps(radar, radar.speeds[target]);
            default:
                echoes.listen(radar);
                return echoes.standingOf(radar, target);
        }
    }

    // ---- speeds

    public int blind(int speed) {
        return isSpeed(speed) ? Speeds.blindGaps(radar, speed) : NONE;
    }

    public int doppler(int speed, int k) {
        return isSpeed(speed) && radar.hasGap(k) ? rest(speed * radar.gaps[k], radar.settings[WAVE]) : NONE;
    }

    public int dark(int k) {
        return k >= 0 ? Speeds.darkAt(radar, k) : NONE;
    }

    public int period() {
        return Speeds.leastUnshifted(radar);
    }

    // ---- ranges

    public int reach(int gaps, int scale) {
        if (!isWithin(gaps, 0, (1 << radar.gapCount) - 1)) {
            return Integer.MIN_VALUE;
        }
        int least = 1;
        for (int k = 0; k < radar.gapCount; k++) {
            if ((gaps >> k & 1) != 0) {
                least = leastCommon(least, radar.gaps[k]);
            }
        }
        long scaled = (long) least * scale;
        return scaled == (int) scaled ? (int) scaled : Integer.MIN_VALUE;
    }

    public int joined(int a, int b, int c, int d, int e) {
        places[0] = a;
        places[1] = b;
        places[2] = c;
        places[3] = d;
        places[4] = e;
        int number = 0;
        int step = 1;
        for (int k = 0; k < radar.gapCount; k++) {
            if (places[k] >= 0) {
                number = nextAtPlace(number, step, radar.gaps[k], places[k]);
                if (number == NONE) {
                    return NONE;
                }
                step = leastCommon(step, radar.gaps[k]);
            }
        }
        return number;
    }

    public int at(int k, int place, boolean loud) {
        if (!radar.hasGap(k) || !isWithin(place, 0, radar.gaps[k] - 1)) {
            return NONE;
        }
        echoes.listen(radar);
        return loud ? echoes.loudAt(k, place) : echoes.targetsAt(k, place);
    }

    public int hits(int number) {
        if (!isWithin(number, 0, MOST_NUMBER)) {
            return NONE;
        }
        echoes.listen(radar);
        return echoes.hitsOf(radar, number);
    }

    public int found(int k, boolean ghosts) {
        if (k < 0) {
            return NONE;
        }
        echoes.listen(radar);
        return echoes.foundAt(radar, k, ghosts);
    }

    public int makers(int number) {
        if (!isWithin(number, 0, MOST_NUMBER)) {
            return NONE;
        }
        echoes.listen(radar);
        return echoes.makersOf(radar, number);
    }

    public int picture(int k, boolean hits) {
        echoes.listen(radar);
        echoes.paint(radar);
        if (!isWithin(k, 0, echoes.shownCount - 1)) {
            return NONE;
        }
        return hits ? echoes.took[k] : echoes.shown[k];
    }

    public int pairs(int what) {
        if (!isWithin(what, 0, 2)) {
            return NONE;
        }
        echoes.listen(radar);
        return what == 0 ? echoes.countPairings(radar) : echoes.countJoined(radar, what == 2);
    }

    public int track(int k, int what) {
        if (k == NONE) {
            return what == 0 ? tracks.countAll(radar) : NO_TRACK;
        }
        if (k < 0 || what != PACE && !isWithin(what, 0, radar.lookCount - 1)) {
            return NO_TRACK;
        }
        if (!tracks.seek(radar, k)) {
            return NO_TRACK;
        }
        return what == PACE ? tracks.paceOf(radar) : tracks.numberIn(radar, what);
    }

    // ---- what would be

    public int order(int n, int what) {
        if (!isWithin(n, 1, MOST_PULSES) || radar.gapCount == 0) {
            return NONE;
        }
        if (what != 0 && !isWithin(what, FIRST_OF_ROW, FIRST_OF_ROW + radar.gapCount - 1)) {
            return NONE;
        }
        dwelling.arrange(radar, n);
        return what == 0 ? dwelling.fewest : dwelling.best[what - FIRST_OF_ROW];
    }

    public int choose(int k, int low, int high, int what) {
        if (!isWithin(k, LEAST_CHOSEN, MOST_CHOSEN) || !isGap(low) || !isGap(high)) {
            return NONE;
        }
        if (!isWithin(high - low, 0, MOST_WIDTH)) {
            return NONE;
        }
        if (!isWithin(what, 0, 1) && !isWithin(what, FIRST_OF_ROW, FIRST_OF_ROW + k - 1)) {
            return NONE;
        }
        chooser.searchAll(radar, k, low, high);
        if (what == 0) {
            return chooser.fitCount;
        }
        if (chooser.fitCount == 0) {
            return NONE;
        }
        return what == 1 ? chooser.leastSum : chooser.best[what - FIRST_OF_ROW];
    }

    public int more(boolean ghosts) {
        if (radar.gapCount >= MOST_GAPS) {
            return NONE;
        }
        if (ghosts) {
            echoes.listen(radar);
            adviser.weighGhosts(radar, echoes);
        } else {
            adviser.weighDark(radar);
        }
        return adviser.bestGap(radar);
    }

    public int shaken(int j, boolean loose) {
        return isWithin(j, 0, MOST_SHAKE) ? Speeds.countShaken(radar, j, loose) : NONE;
    }

    public int dwell(int seed, int n, int j, int what) {
        if (!isWithin(n, 1, MOST_PULSES) || !isWithin(j, 0, MOST_SHAKE) || radar.gapCount == 0) {
            return NONE;
        }
        dwelling.takeGaps(radar);
        dwelling.send(n, seed, j);
        switch (what) {
            case 0: return dwelling.lastSent();
            case 1: return dwelling.countClear(radar);
            case 2: return n * radar.targetCount - dwelling.countClear(radar);
            case 3: return dwelling.countHidden(radar, Integer.MAX_VALUE);
            case 4: return dwelling.longestGap();
            default: return NONE;
        }
    }

    public int until(int target, int most) {
        if (!radar.hasTarget(target) || !isWithin(most, 0, MOST_WAIT)) {
            return NONE;
        }
        for (int time = 0; time <= most; time++) {
            if (radar.findsAfter(target, time)) {
                return time;
            }
        }
        return NONE;
    }

    // ---- kept

    public boolean image(int k) {
        if (!isWithin(k, 0, IMAGES - 1)) {
            return false;
        }
        keptRadars[k].copyFrom(radar);
        keptTexts[k].copyFrom(text);
        kept[k] = true;
        return true;
    }

    public boolean again(int k) {
        if (!isWithin(k, 0, IMAGES - 1) || !kept[k]) {
            return false;
        }
        radar.copyFrom(keptRadars[k]);
        text.copyFrom(keptTexts[k]);
        history.forget();
        return true;
    }

    // ---- numbers

    private static boolean isWithin(int number, int least, int most) {
        return number >= least && number <= most;
    }

    private static boolean isSpeed(int speed) {
        return isWithin(speed, -MOST_SPEED, MOST_SPEED);
    }

    private static boolean isGap(int gap) {
        return isWithin(gap, LEAST_GAP, MOST_GAP);
    }

    private static int byteOf(long eight, int i) {
        return (int) (eight >>> 56 - 8 * i) & 255;
    }

    /** The remainder that is not below 0; 0 by a number that is not above 0. */
    private static int rest(int number, int by) {
        if (by <= 0) {
            return 0;
        }
        int left = number % by;
        return left < 0 ? left + by : left;
    }

    private static int commonDivisor(int a, int b) {
        int x = a;
        int y = b;
        for (int i = 0; i < 64 && y > 0; i++) {
            int left = x % y;
            x = y;
            y = left;
        }
        return x;
    }

    /** Five unlike gaps up to 60 have a common multiple below 2^31, so an int holds it. */
    private static int leastCommon(int a, int b) {
        int divisor = commonDivisor(a, b);
        return divisor > 0 ? a / divisor * b : 0;
    }

    /** The first of number, number + step, .. that falls on a place of a gap; NONE if none does. */
    private static int nextAtPlace(int number, int step, int gap, int place) {
        // The last sums can go beyond an int.
        long sum = number;
        for (int i = 0; i < gap; i++) {
            if (sum % gap == place) {
                return (int) sum;
            }
            sum += step;
        }
        return NONE;
    }

    /** All that an act can change: gaps, settings, targets, NOW, GONE, LOOKS. */
    private static final class Radar {
        final int[] gaps = new int[MOST_GAPS];
        final int[] settings = new int[SETTINGS];
        final int[] spots = new int[MOST_TARGETS];
        final int[] speeds = new int[MOST_TARGETS];
        final int[] strengths = new int[MOST_TARGETS];
        final int[] lookTimes = new int[MOST_LOOKS];
        final int[] lookSizes = new int[MOST_LOOKS];
        final int[] lookNumbers = new int[MOST_LOOKS * LOOK_NUMBERS];
        int gapCount;
        int targetCount;
        int lookCount;
        int time;
        int gone;

        Radar() {
            System.arraycopy(AT_FIRST, 0, settings, 0, SETTINGS);
        }

        void begin() {
            System.arraycopy(AT_FIRST, 0, settings, 0, SETTINGS);
            gapCount = 0;
            targetCount = 0;
            lookCount = 0;
            time = 0;
            gone = 0;
        }

        void copyFrom(Radar other) {
            System.arraycopy(other.gaps, 0, gaps, 0, MOST_GAPS);
            System.arraycopy(other.settings, 0, settings, 0, SETTINGS);
            System.arraycopy(other.spots, 0, spots, 0, MOST_TARGETS);
            System.arraycopy(other.speeds, 0, speeds, 0, MOST_TARGETS);
            System.arraycopy(other.strengths, 0, strengths, 0, MOST_TARGETS);
            System.arraycopy(other.lookTimes, 0, lookTimes, 0, MOST_LOOKS);
            System.arraycopy(other.lookSizes, 0, lookSizes, 0, MOST_LOOKS);
            System.arraycopy(other.lookNumbers, 0, lookNumbers, 0, MOST_LOOKS * LOOK_NUMBERS);
            gapCount = other.gapCount;
            targetCount = other.targetCount;
            lookCount = other.lookCount;
            time = other.time;
            gone = other.gone;
        }

        boolean hasGap(int k) {
            return k >= 0 && k < gapCount;
        }

        boolean hasTarget(int target) {
            return target >= 0 && target < targetCount;
        }

        int indexOfGap(int gap) {
            for (int k = 0; k < gapCount; k++) {
                if (gaps[k] == gap) {
                    return k;
                }
            }
            return NONE;
        }

        void addGap(int gap) {
            if (gapCount >= MOST_GAPS) {
                return;
            }
            int k = gapCount;
            while (k > 0 && gaps[k - 1] > gap) {
                gaps[k] = gaps[k - 1];
                k--;
            }
            gaps[k] = gap;
            gapCount++;
        }

        void dropGap(int index) {
            if (!hasGap(index)) {
                return;
            }
            gapCount--;
            for (int k = index; k < gapCount; k++) {
                gaps[k] = gaps[k + 1];
            }
        }

        void addTarget(int range, int speed, int strength) {
            if (targetCount >= MOST_TARGETS) {
                return;
            }
            spots[targetCount] = range * SPOTS_A_RANGE;
            speeds[targetCount] = speed;
            strengths[targetCount] = strength;
            targetCount++;
        }

        void dropTarget(int target) {
            if (!hasTarget(target)) {
                return;
            }
            targetCount--;
            for (int t = target; t < targetCount; t++) {
                spots[t] = spots[t + 1];
                speeds[t] = speeds[t + 1];
                strengths[t] = strengths[t + 1];
            }
        }

        int spotAfter(int target, int passed) {
            return spots[target] + speeds[target] * passed;
        }

        /** Time goes by; answers how many targets are gone by it. */
        int pass(int passed) {
            int before = targetCount;
            for (int t = before - 1; t >= 0; t--) {
                int spot = spotAfter(t, passed);
                if (isWithin(spot, 0, MOST_SPOT)) {
                    spots[t] = spot;
                } else {
                    dropTarget(t);
                }
            }
            time += passed;
            gone += before - targetCount;
            return before - targetCount;
        }

        void addLook(int[] numbers, int size) {
            if (lookCount == MOST_LOOKS) {
                dropOldestLook();
            }
            lookTimes[lookCount] = time;
            lookSizes[lookCount] = size;
            for (int i = 0; i < size && i < LOOK_NUMBERS && i < numbers.length; i++) {
                lookNumbers[lookCount * LOOK_NUMBERS + i] = numbers[i];
            }
            lookCount++;
        }

        private void dropOldestLook() {
            lookCount = MOST_LOOKS - 1;
            System.arraycopy(lookTimes, 1, lookTimes, 0, lookCount);
            System.arraycopy(lookSizes, 1, lookSizes, 0, lookCount);
            System.arraycopy(lookNumbers, LOOK_NUMBERS, lookNumbers, 0, lookCount * LOOK_NUMBERS);
        }

        int rangeOf(int target) {
            return spots[target] / SPOTS_A_RANGE;
        }

        boolean isRange(int number) {
            for (int t = 0; t < targetCount; t++) {
                if (rangeOf(t) == number) {
                    return true;
                }
            }
            return false;
        }

        /** BLIND. */
        boolean hides(int speed, int gap) {
            int shift = rest(speed * gap, settings[WAVE]);
            return shift <= settings[NOTCH] || settings[WAVE] - shift <= settings[NOTCH];
        }

        /** SEEN. */
        boolean sees(int target, int gap) {
            return rest(rangeOf(target), gap) >= settings[PULSE] && !hides(speeds[target], gap);
        }

        int targetsSeenBy(int gap) {
            int bits = 0;
            for (int t = 0; t < targetCount; t++) {
                if (sees(t, gap)) {
                    bits |= 1 << t;
                }
            }
            return bits;
        }

        int gapsThatSee(int target) {
            int bits = 0;
            for (int k = 0; k < gapCount; k++) {
                if (sees(target, gaps[k])) {
                    bits |= 1 << k;
                }
            }
            return bits;
        }

        /** Whether a target is still there and its range is FOUND, had so much time gone by. */
        boolean findsAfter(int target, int passed) {
            int spot = spotAfter(target, passed);
            if (!isWithin(spot, 0, MOST_SPOT) || spot / SPOTS_A_RANGE >= settings[LIMIT]) {
                return false;
            }
            int heard = 0;
            for (int k = 0; k < gapCount; k++) {
                int place = rest(spot / SPOTS_A_RANGE, gaps[k]);
                if (loudAfter(gaps[k], place, passed) >= settings[FLOOR]) {
                    heard++;
                }
            }
            return heard >= settings[NEED];
        }

        private int loudAfter(int gap, int place, int passed) {
            if (place < settings[PULSE]) {
                return 0;
            }
            int loud = 0;
            for (int t = 0; t < targetCount; t++) {
                int spot = spotAfter(t, passed);
                boolean there = isWithin(spot, 0, MOST_SPOT);
                if (there && rest(spot / SPOTS_A_RANGE, gap) == place && !hides(speeds[t], gap)) {
                    loud += strengths[t];
                }
            }
            return loud;
        }
    }

    /** THE TEXT and what the latest reading found wrong. */
    private static final class Text {
        final int[] bytes = new int[MOST_BYTES];
        int size;
        int faultKind;
        int faultPlace = NONE;

        void append(int sign) {
            if (size < MOST_BYTES) {
                bytes[size] = sign;
                size++;
            }
        }

        void copyFrom(Text other) {
            System.arraycopy(other.bytes, 0, bytes, 0, MOST_BYTES);
            size = other.size;
            faultKind = other.faultKind;
            faultPlace = other.faultPlace;
        }
    }

    /** The radars as they were ahead of the latest acts, in a ring. */
    private static final class History {
        private final Radar[] ring = new Radar[MOST_UNDONE];
        private int oldest;
        int size;

        History() {
            for (int i = 0; i < MOST_UNDONE; i++) {
                ring[i] = new Radar();
            }
        }

        void save(Radar radar) {
            if (size == MOST_UNDONE) {
                oldest = (oldest + 1) % MOST_UNDONE;
                size--;
            }
            ring[(oldest + size) % MOST_UNDONE].copyFrom(radar);
            size++;
        }

        void restore(Radar radar) {
            if (size > 0) {
                size--;
                radar.copyFrom(ring[(oldest + size) % MOST_UNDONE]);
            }
        }

        void forget() {
            size = 0;
        }
    }

    /** Reads a text, sentence by sentence, into a radar. */
    private static final class Reader {
        private static final int END = 0;
        private static final int WORD = 1;
        private static final int NUMBER = 2;
        private static final int SEMICOLON = 3;
        private static final int NO_TOKEN = 4;

        // The words of the settings bear the settings' own numbers, 0 to 6.
        private static final int GAP = 7;
        private static final int COME = 8;
        private static final int GO = 9;
        private static final int WORDS = 10;

        private static final int WRONG_TOKEN = 1;
        private static final int WRONG_NUMBER = 2;
        private static final int GAP_TWICE = 3;
        private static final int TOO_MANY = 4;

        private static final int MOST_DIGITS = 4;

        private final int[] numbers = new int[3];
        private int next;
        private int kind;
        private int start;
        private int value;
        int faultKind;
        int faultPlace;

        /** The radar is of use only if no fault was found. */
        void readInto(Text text, Radar radar) {
            faultKind = 0;
            faultPlace = NONE;
            next = 0;
            radar.begin();
            step(text);
            for (int i = 0; i < MOST_BYTES && kind != END && faultKind != WRONG_TOKEN; i++) {
                readSentence(text, radar);
            }
        }

        private void readSentence(Text text, Radar radar) {
            int word = kind == WORD ? wordOf(text) : NONE;
            if (word == NONE) {
                refuseToken();
                return;
            }
            if (isFull(radar, word)) {
                noteFault(TOO_MANY);
            }
            step(text);
            int size = word == COME || word == GO ? numbers.length : 1;
            for (int i = 0; i < size; i++) {
                if (kind != NUMBER) {
                    refuseToken();
                    return;
                }
                checkNumber(radar, word, i);
                numbers[i] = value;
                step(text);
            }
            if (kind != SEMICOLON) {
                refuseToken();
                return;
            }
            step(text);
            if (faultKind == 0) {
                apply(radar, word);
            }
        }

        /** A wrong token outranks every other fault, wherever those are. */
        private void refuseToken() {
            faultKind = WRONG_TOKEN;
            faultPlace = start;
        }

        /** Faults come up in the order of their places, so the first one stays. */
        private void noteFault(int fault) {
            if (faultKind == 0) {
                faultKind = fault;
                faultPlace = start;
            }
        }

        private static boolean isFull(Radar radar, int word) {
            if (word == GAP) {
                return radar.gapCount >= MOST_GAPS;
            }
            return (word == COME || word == GO) && radar.targetCount >= MOST_TARGETS;
        }

        private void checkNumber(Radar radar, int word, int i) {
            if (!canBe(word, i)) {
                noteFault(WRONG_NUMBER);
            } else if (word == GAP && radar.indexOfGap(value) != NONE) {
                noteFault(GAP_TWICE);
            }
        }

        private boolean canBe(int word, int i) {
            if (word == GAP) {
                return isGap(value);
            }
            if (word < SETTINGS) {
                return isWithin(value, LEAST[word], MOST[word]);
            }
            switch (i) {
                case 0: return isWithin(value, 0, MOST_RANGE);
                case 1: return isWithin(value, 0, MOST_SPEED);
                default: return isWithin(value, 1, MOST_STRENGTH);
            }
        }

        private void apply(Radar radar, int word) {
            if (word == GAP) {
                radar.addGap(numbers[0]);
            } else if (word < SETTINGS) {
                radar.settings[word] = numbers[0];
            } else {
                int speed = word == COME ? -numbers[1] : numbers[1];
                radar.addTarget(numbers[0], speed, numbers[2]);
            }
        }

        /** Goes on to the next token. */
        private void step(Text text) {
            while (next < text.size && isBlank(text.bytes[next])) {
                next++;
            }
            start = next;
            if (next >= text.size) {
                kind = END;
            } else if (isLetter(text.bytes[next])) {
                kind = WORD;
                while (next < text.size && isLetter(text.bytes[next])) {
                    next++;
                }
            } else if (isDigit(text.bytes[next])) {
                stepOverDigits(text);
            } else {
                kind = text.bytes[next] == ';' ? SEMICOLON : NO_TOKEN;
                next++;
            }
        }

        private void stepOverDigits(Text text) {
            value = 0;
            while (next < text.size && isDigit(text.bytes[next])) {
                if (next - start < MOST_DIGITS) {
                    value = value * 10 + text.bytes[next] - '0';
                }
                next++;
            }
            kind = next - start <= MOST_DIGITS ? NUMBER : NO_TOKEN;
        }

        private static boolean isBlank(int sign) {
            return sign == 32 || sign == 10;
        }

        private static boolean isLetter(int sign) {
            return sign >= 'a' && sign <= 'z';
        }

        private static boolean isDigit(int sign) {
            return sign >= '0' && sign <= '9';
        }

        private int wordOf(Text text) {
            for (int word = 0; word < WORDS; word++) {
                if (isSpelled(text, lettersOf(word))) {
                    return word;
                }
            }
            return NONE;
        }

        private boolean isSpelled(Text text, String letters) {
            int size = next - start;
            if (size != letters.length()) {
                return false;
            }
            for (int i = 0; i < size; i++) {
                if (text.bytes[start + i] != letters.charAt(i)) {
                    return false;
                }
            }
            return true;
        }

        private static String lettersOf(int word) {
            switch (word) {
                case WAVE: return "wave";
                case NOTCH: return "notch";
                case PULSE: return "pulse";
                case LIMIT: return "limit";
                case NEED: return "need";
                case SPAN: return "span";
                case FLOOR: return "floor";
                case GAP: return "gap";
                case COME: return "come";
                default: return "go";
            }
        }
    }

    /** What a radar is blind to. */
    private static final class Speeds {
        private Speeds() {
        }

        static int blindGaps(Radar radar, int speed) {
            int bits = 0;
            for (int k = 0; k < radar.gapCount; k++) {
                if (radar.hides(speed, radar.gaps[k])) {
                    bits |= 1 << k;
                }
            }
            return bits;
        }

        static int countBlind(Radar radar, int gap) {
            int size = 0;
            for (int speed = 1; speed <= radar.settings[SPAN]; speed++) {
                if (radar.hides(speed, gap)) {
                    size++;
                }
            }
            return size;
        }

        /** By how many gaps a speed is not BLIND. */
        static int countOpen(Radar radar, int speed) {
            return radar.gapCount - Integer.bitCount(blindGaps(radar, speed));
        }

        static int countDark(Radar radar) {
            int size = 0;
            for (int speed = 1; speed <= radar.settings[SPAN]; speed++) {
                if (countOpen(radar, speed) < radar.settings[NEED]) {
                    size++;
                }
            }
            return size;
        }

        static int darkAt(Radar radar, int k) {
            int left = k;
            for (int speed = 1; speed <= radar.settings[SPAN]; speed++) {
                if (countOpen(radar, speed) < radar.settings[NEED]) {
                    if (left == 0) {
                        return speed;
                    }
                    left--;
                }
            }
            return NONE;
        }

        /** PERIOD: WAVE goes into the speed times each gap just when it goes into the speed times what divides them all. */
        static int leastUnshifted(Radar radar) {
            int divisor = radar.settings[WAVE];
            for (int k = 0; k < radar.gapCount; k++) {
                divisor = commonDivisor(divisor, radar.gaps[k]);
            }
            return divisor > 0 ? radar.settings[WAVE] / divisor : 1;
        }

        static int countShaken(Radar radar, int shake, boolean loose) {
            int size = 0;
            for (int speed = 1; speed <= radar.settings[SPAN]; speed++) {
                int good = 0;
                for (int k = 0; k < radar.gapCount; k++) {
                    int open = countOpenShaken(radar, speed, radar.gaps[k], shake);
                    if (loose ? open > 0 : open > 2 * shake) {
                        good++;
                    }
                }
                if (good >= radar.settings[NEED]) {
                    size++;
                }
            }
            return size;
        }

        private static int countOpenShaken(Radar radar, int speed, int gap, int shake) {
            int open = 0;
            for (int by = -shake; by <= shake; by++) {
                if (!radar.hides(speed, gap + by)) {
                    open++;
                }
            }
            return open;
        }
    }

    /** What is heard at each place of each gap, and what numbers that speaks for. */
    private static final class Echoes {
        private static final int PLACES = 60;
        private static final int MOST_ECHOES = 40;

        private final int[] targets = new int[MOST_GAPS * PLACES];
        private final int[] loud = new int[MOST_GAPS * PLACES];
        // By number below LIMIT: the gaps that have an echo at its place (that is free, in the picture).
        private final int[] hitBits = new int[MOST_LIMIT];
        final int[] shown = new int[MOST_ECHOES];
        final int[] took = new int[MOST_ECHOES];
        int shownCount;

        /** Must come ahead of all other questions. */
        void listen(Radar radar) {
            for (int k = 0; k < radar.gapCount; k++) {
                listenBy(radar, k, radar.gaps[k]);
            }
        }

        /** A row is one of the radar's gaps, or the one behind them for a gap that might come. */
        void listenBy(Radar radar, int row, int gap) {
            if (!isWithin(row, 0, MOST_GAPS - 1) || !isGap(gap)) {
                return;
            }
            int first = row * PLACES;
            for (int place = 0; place < PLACES; place++) {
                targets[first + place] = 0;
                loud[first + place] = 0;
            }
            for (int t = 0; t < radar.targetCount; t++) {
                if (radar.sees(t, gap)) {
                    int cell = first + rest(radar.rangeOf(t), gap);
                    targets[cell] |= 1 << t;
                    loud[cell] += radar.strengths[t];
                }
            }
        }

        int targetsAt(int k, int place) {
            return targets[k * PLACES + place];
        }

        int loudAt(int k, int place) {
            return loud[k * PLACES + place];
        }

        boolean isEcho(Radar radar, int row, int place) {
            return loud[row * PLACES + place] >= radar.settings[FLOOR];
        }

        int countOfGap(Radar radar, int k) {
            int size = 0;
            for (int place = 0; place < radar.gaps[k]; place++) {
                if (isEcho(radar, k, place)) {
                    size++;
                }
            }
            return size;
        }

        int countAll(Radar radar) {
            int size = 0;
            for (int k = 0; k < radar.gapCount; k++) {
                size += countOfGap(radar, k);
            }
            return size;
        }

        int hitsOf(Radar radar, int number) {
            int bits = 0;
            for (int k = 0; k < radar.gapCount; k++) {
                if (isEcho(radar, k, rest(number, radar.gaps[k]))) {
                    bits |= 1 << k;
                }
            }
            return bits;
        }

        int makersOf(Radar radar, int number) {
            int bits = 0;
            for (int k = 0; k < radar.gapCount; k++) {
                int place = rest(number, radar.gaps[k]);
                if (isEcho(radar, k, place)) {
                    bits |= targetsAt(k, place);
                }
            }
            return bits;
        }

        boolean isFound(Radar radar, int number) {
            return number < radar.settings[LIMIT]
                && Integer.bitCount(hitsOf(radar, number)) >= radar.settings[NEED];
        }

        /** 1: its range is FOUND, 0: it is not, 2: it is LIMIT or more. */
        int standingOf(Radar radar, int target) {
            int range = radar.rangeOf(target);
            if (range >= radar.settings[LIMIT]) {
                return 2;
            }
            return isFound(radar, range) ? 1 : 0;
        }

        int missedTargets(Radar radar) {
            int bits = 0;
            for (int t = 0; t < radar.targetCount; t++) {
                if (standingOf(radar, t) == 0) {
                    bits |= 1 << t;
                }
            }
            return bits;
        }

        /** Steps from echo to the numbers it speaks for: far fewer than all numbers by all gaps. */
        void markHits(Radar radar) {
            Arrays.fill(hitBits, 0);
            for (int k = 0; k < radar.gapCount; k++) {
                for (int place = 0; place < radar.gaps[k]; place++) {
                    if (isEcho(radar, k, place)) {
                        markEcho(radar, k, place);
                    }
                }
            }
        }

        private void markEcho(Radar radar, int k, int place) {
            int step = Math.max(radar.gaps[k], LEAST_GAP);
            for (int n = place; n < radar.settings[LIMIT]; n += step) {
                hitBits[n] |= 1 << k;
            }
        }

        private void takeEcho(Radar radar, int k, int place) {
            int step = Math.max(radar.gaps[k], LEAST_GAP);
            for (int n = place; n < radar.settings[LIMIT]; n += step) {
                hitBits[n] &= ~(1 << k);
            }
        }

        int countFound(Radar radar, boolean ghosts) {
            markHits(radar);
            int size = 0;
            for (int n = 0; n < radar.settings[LIMIT]; n++) {
                if (isListed(radar, n, ghosts)) {
                    size++;
                }
            }
            return size;
        }

        int foundAt(Radar radar, int k, boolean ghosts) {
            markHits(radar);
            int left = k;
            for (int n = 0; n < radar.settings[LIMIT]; n++) {
                if (isListed(radar, n, ghosts)) {
                    if (left == 0) {
                        return n;
                    }
                    left--;
                }
            }
            return NONE;
        }

        private boolean isListed(Radar radar, int n, boolean ghosts) {
            return Integer.bitCount(hitBits[n]) >= radar.settings[NEED] && !(ghosts && radar.isRange(n));
        }

        /**
         * The PICTURE. What a number has free only grows less, so one walk from 0 on for each number of hits,
         * from most down to NEED, comes on them in the order that is asked for.
         */
        void paint(Radar radar) {
            markHits(radar);
            shownCount = 0;
            for (int size = radar.gapCount; size >= radar.settings[NEED]; size--) {
                for (int n = 0; n < radar.settings[LIMIT]; n++) {
                    if (Integer.bitCount(hitBits[n]) == size && shownCount < MOST_ECHOES) {
                        show(radar, n, size);
                    }
                }
            }
        }

        private void show(Radar radar, int n, int size) {
            shown[shownCount] = n;
            took[shownCount] = size;
            shownCount++;
            int bits = hitBits[n];
            for (int k = 0; k < radar.gapCount; k++) {
                if ((bits >> k & 1) != 0) {
                    takeEcho(radar, k, rest(n, radar.gaps[k]));
                }
            }
        }

        int countPairings(Radar radar) {
            if (radar.gapCount == 0) {
                return 0;
            }
            int product = 1;
            for (int k = 0; k < radar.gapCount; k++) {
                product *= countOfGap(radar, k);
            }
            return product;
        }

        /**
         * Numbers below REACH have each a pairing of places of their own, so those that all gaps hit there
         * are as many as the pairings that are joined to them.
         */
        int countJoined(Radar radar, boolean ghosts) {
            if (radar.gapCount == 0) {
                return 0;
            }
            markHits(radar);
            int reach = 1;
            for (int k = 0; k < radar.gapCount; k++) {
                reach = leastCommon(reach, radar.gaps[k]);
            }
            int all = (1 << radar.gapCount) - 1;
            int size = 0;
            for (int n = 0; n < radar.settings[LIMIT] && n < reach; n++) {
                if (hitBits[n] == all && !(ghosts && radar.isRange(n))) {
                    size++;
                }
            }
            return size;
        }

        /** How many more ghosts there would be by a further gap, which stands in the row behind the others. */
        int countFurtherGhosts(Radar radar, int gap) {
            int row = radar.gapCount;
            int step = Math.max(gap, LEAST_GAP);
            int size = 0;
            for (int place = 0; place < gap; place++) {
                if (isEcho(radar, row, place)) {
                    for (int n = place; n < radar.settings[LIMIT]; n += step) {
                        if (isNearGhost(radar, n)) {
                            size++;
                        }
                    }
                }
            }
            return size;
        }

        private boolean isNearGhost(Radar radar, int n) {
            return Integer.bitCount(hitBits[n]) + 1 == radar.settings[NEED] && !radar.isRange(n);
        }
    }

    /** TRACKS through the looks. */
    private static final class Tracks {
        // By look and number in it: the numbers of the last look (bits) that are in line with it and the first one.
        private final int[] lasts = new int[MOST_LOOKS * LOOK_NUMBERS];
        private final int[] path = new int[MOST_LOOKS];
        private int passed;

        int countAll(Radar radar) {
            return seek(radar, Integer.MAX_VALUE) ? 0 : passed;
        }

        /** Whether there is a k-th track: it is in path then; if not, passed tells how many there are. */
        boolean seek(Radar radar, int k) {
            passed = 0;
            if (radar.lookCount < 2) {
                return false;
            }
            for (int i = 0; i < radar.lookSizes[0]; i++) {
                path[0] = i;
                alignAll(radar);
                if (seekMiddle(radar, k)) {
                    return true;
                }
            }
            return false;
        }

        private boolean seekMiddle(Radar radar, int k) {
            int last = radar.lookCount - 1;
            int all = (1 << radar.lookSizes[last]) - 1;
            int seconds = last > 1 ? radar.lookSizes[1] : 1;
            int thirds = last > 2 ? radar.lookSizes[2] : 1;
            for (int i = 0; i < seconds; i++) {
                for (int j = 0; j < thirds; j++) {
                    int bits = all;
                    bits &= last > 1 ? lasts[LOOK_NUMBERS + i] : all;
                    bits &= last > 2 ? lasts[2 * LOOK_NUMBERS + j] : all;
                    int size = Integer.bitCount(bits);
                    if (k - passed < size) {
                        path[1] = i;
                        path[2] = j;
                        path[last] = placeOfBit(bits, k - passed);
                        return true;
                    }
                    passed += size;
                }
            }
            return false;
        }

        private static int placeOfBit(int bits, int k) {
            int left = k;
            for (int i = 0; i < LOOK_NUMBERS; i++) {
                if ((bits >> i & 1) != 0) {
                    if (left == 0) {
                        return i;
                    }
                    left--;
                }
            }
            return 0;
        }

        private void alignAll(Radar radar) {
            for (int look = 1; look < radar.lookCount - 1; look++) {
                for (int i = 0; i < radar.lookSizes[look]; i++) {
                    lasts[look * LOOK_NUMBERS + i] = alignedLasts(radar, look, i);
                }
            }
        }

        private int alignedLasts(Radar radar, int look, int i) {
            int last = radar.lookCount - 1;
            int first = numberAt(radar, 0, path[0]);
            long whole = radar.lookTimes[last] - radar.lookTimes[0];
            long part = radar.lookTimes[look] - radar.lookTimes[0];
            long across = (numberAt(radar, look, i) - first) * whole;
            int bits = 0;
            for (int j = 0; j < radar.lookSizes[last]; j++) {
                long apart = across - (numberAt(radar, last, j) - first) * part;
                if (apart <= whole && -apart <= whole) {
                    bits |= 1 << j;
                }
            }
            return bits;
        }

        private static int numberAt(Radar radar, int look, int i) {
            return radar.lookNumbers[look * LOOK_NUMBERS + i];
        }

        int numberIn(Radar radar, int look) {
            return numberAt(radar, look, path[look]);
        }

        int paceOf(Radar radar) {
            int last = radar.lookCount - 1;
            int whole = radar.lookTimes[last] - radar.lookTimes[0];
            int way = numberIn(radar, last) - numberIn(radar, 0);
            return whole > 0 ? SPOTS_A_RANGE * way / whole : 0;
        }
    }

    /** Pulses sent one behind the other, and the echoes between them. */
    private static final class Dwell {
        private final int[] row = new int[MOST_GAPS];
        private int rowSize;
        // One more than the pulses: when the next one would be sent.
        private final int[] sent = new int[MOST_PULSES + 1];
        private int pulses;
        final int[] best = new int[MOST_GAPS];
        int fewest;

        void takeGaps(Radar radar) {
            rowSize = radar.gapCount;
            System.arraycopy(radar.gaps, 0, row, 0, MOST_GAPS);
        }

        void send(int size, int seed, int shake) {
            pulses = size;
            int x = seed;
            int time = 0;
            for (int i = 0; i < size && i < MOST_PULSES; i++) {
                sent[i] = time;
                x = x * 1103515245 + 12345;
                time += row[rest(i, rowSize)] + rest(x >>> 16, 2 * shake + 1) - shake;
                sent[i + 1] = time;
            }
        }

        int lastSent() {
            return pulses > 0 ? sent[pulses - 1] : 0;
        }

        int longestGap() {
            int longest = 0;
            for (int i = 1; i < pulses; i++) {
                longest = Math.max(longest, sent[i] - sent[i - 1]);
            }
            return longest;
        }

        int countClear(Radar radar) {
            int size = 0;
            for (int t = 0; t < radar.targetCount; t++) {
                for (int i = 0; i < pulses; i++) {
                    if (sent[i] + radar.rangeOf(t) < sent[i + 1]) {
                        size++;
                    }
                }
            }
            return size;
        }

        /** Counts no further than enough: whoever seeks the fewest needs no more. */
        int countHidden(Radar radar, int enough) {
            int size = 0;
            for (int t = 0; t < radar.targetCount && size < enough; t++) {
                size += countHiddenOf(radar.rangeOf(t), radar.settings[PULSE]);
            }
            return size;
        }

        /** An echo is hidden just when the latest pulse sent by then hides it: earlier ones are further off. */
        private int countHiddenOf(int range, int length) {
            int width = Math.max(length, 1);
            int size = 0;
            int latest = 0;
            for (int i = 0; i < pulses; i++) {
                int time = sent[i] + range;
                while (latest + 1 < pulses && sent[latest + 1] <= time) {
                    latest++;
                }
                if (time - sent[latest] < width) {
                    size++;
                }
            }
            return size;
        }

        /** ORDER: the orders come rising, so of several the first one stays. */
        void arrange(Radar radar, int size) {
            takeGaps(radar);
            fewest = Integer.MAX_VALUE;
            boolean further = true;
            for (int i = 0; i < 120 && further && fewest > 0; i++) {
                send(size, 0, 0);
                int hidden = countHidden(radar, fewest);
                if (hidden < fewest) {
                    fewest = hidden;
                    System.arraycopy(row, 0, best, 0, MOST_GAPS);
                }
                further = nextRow();
            }
        }

        /** The next order of the gaps, the first gap weighing most; false behind the last one. */
        private boolean nextRow() {
            int i = rowSize - 2;
            while (i >= 0 && row[i] > row[i + 1]) {
                i--;
            }
            if (i < 0) {
                return false;
            }
            int j = rowSize - 1;
            while (j > i + 1 && row[j] < row[i]) {
                j--;
            }
            swap(i, j);
            for (int a = i + 1, b = rowSize - 1; a < b; a++, b--) {
                swap(a, b);
            }
            return true;
        }

        private void swap(int i, int j) {
            int kept = row[i];
            row[i] = row[j];
            row[j] = kept;
        }
    }

    /** Goes through all sets of gaps for those that are FIT. */
    private static final class Chooser {
        private static final int CHOICES = MOST_WIDTH + 1;
        // Speeds 1 to 200 as bits.
        private static final int PARTS = 4;
        private static final int LEVELS = MOST_CHOSEN + 1;

        // By choice: the speeds that are not BLIND by it.
        private final long[] open = new long[CHOICES * PARTS];
        // By how many gaps are chosen, by how often: the speeds that are not BLIND by that many of them or more.
        private final long[] enough = new long[MOST_CHOSEN * LEVELS * PARTS];
        private final long[] all = new long[PARTS];
        private final int[] chosen = new int[MOST_CHOSEN];
        private int size;
        private int low;
        private int width;
        private int limit;
        private int needed;
        private int parts;
        final int[] best = new int[MOST_CHOSEN];
        int leastSum;
        int fitCount;

        void searchAll(Radar radar, int k, int from, int to) {
            size = k;
            low = from;
            width = Math.min(to - from + 1, CHOICES);
            limit = radar.settings[LIMIT];
            needed = Math.min(radar.settings[NEED], k);
            parts = Math.min((radar.settings[SPAN] + 63) / 64, PARTS);
            fitCount = 0;
            leastSum = Integer.MAX_VALUE;
            openAll(radar);
            Arrays.fill(enough, 0L);
            for (int depth = 0; depth < MOST_CHOSEN; depth++) {
                System.arraycopy(all, 0, enough, cellOf(depth, 0), PARTS);
            }
            descend(0, 0, 1, 0);
        }

        private void openAll(Radar radar) {
            Arrays.fill(all, 0L);
            Arrays.fill(open, 0L);
            for (int bit = 0; bit < radar.settings[SPAN]; bit++) {
                all[bit >> 6] |= 1L << (bit & 63);
                for (int i = 0; i < width; i++) {
                    if (!radar.hides(bit + 1, low + i)) {
                        open[i * PARTS + (bit >> 6)] |= 1L << (bit & 63);
                    }
                }
            }
        }

        private static int cellOf(int depth, int times) {
            return (depth * LEVELS + times) * PARTS;
        }

        /** Sets come rising, so of several that are least the first one stays. */
        private void descend(int depth, int from, int reach, int sum) {
            if (depth >= size || depth >= MOST_CHOSEN) {
                return;
            }
            for (int i = from; i < width; i++) {
                int gap = low + i;
                // REACH never grows less by a further gap, so beyond LIMIT its value is of no matter.
                int wider = reach >= limit ? reach : leastCommon(reach, gap);
                chosen[depth] = gap;
                if (depth + 1 < size) {
                    addChoice(depth, i);
                    descend(depth + 1, i + 1, wider, sum + gap);
                } else if (wider >= limit && opensAll(depth, i)) {
                    keepFit(sum + gap);
                }
            }
        }

        private void addChoice(int depth, int i) {
            if (depth + 1 >= MOST_CHOSEN) {
                return;
            }
            for (int times = 1; times <= needed; times++) {
                int after = cellOf(depth + 1, times);
                int before = cellOf(depth, times);
                int fewer = cellOf(depth, times - 1);
                for (int part = 0; part < parts; part++) {
                    enough[after + part] = enough[before + part] | enough[fewer + part] & open[i * PARTS + part];
                }
            }
        }

        private boolean opensAll(int depth, int i) {
            int before = cellOf(depth, needed);
            int fewer = cellOf(depth, needed - 1);
            for (int part = 0; part < parts; part++) {
                long after = enough[before + part] | enough[fewer + part] & open[i * PARTS + part];
                if (after != all[part]) {
                    return false;
                }
            }
            return true;
        }

        private void keepFit(int sum) {
            fitCount++;
            if (sum < leastSum) {
                leastSum = sum;
                System.arraycopy(chosen, 0, best, 0, MOST_CHOSEN);
            }
        }
    }

    /** Weighs each gap that might come: the less the better. */
    private static final class Adviser {
        private final int[] weight = new int[MOST_GAP + 1];

        /** Only a speed that is one gap short of NEED can be helped by one gap more. */
        void weighDark(Radar radar) {
            Arrays.fill(weight, 0);
            for (int speed = 1; speed <= radar.settings[SPAN]; speed++) {
                if (Speeds.countOpen(radar, speed) + 1 == radar.settings[NEED]) {
                    for (int gap = LEAST_GAP; gap <= MOST_GAP; gap++) {
                        if (!radar.hides(speed, gap)) {
                            weight[gap]--;
                        }
                    }
                }
            }
        }

        /** Ghosts that are there stay by one gap more, so only the further ones weigh. */
        void weighGhosts(Radar radar, Echoes echoes) {
            echoes.markHits(radar);
            for (int gap = LEAST_GAP; gap <= MOST_GAP; gap++) {
                echoes.listenBy(radar, radar.gapCount, gap);
                weight[gap] = echoes.countFurtherGhosts(radar, gap);
            }
        }

        int bestGap(Radar radar) {
            int best = NONE;
            for (int gap = LEAST_GAP; gap <= MOST_GAP; gap++) {
                if (radar.indexOfGap(gap) == NONE && (best == NONE || weight[gap] < weight[best])) {
                    best = gap;
                }
            }
            return best;
        }
    }
}
