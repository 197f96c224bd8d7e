import java.util.ArrayDeque;
import java.util.NoSuchElementException;
import java.util.Random;

/** Runs of calls by fixed seeds on the class and on the Model; each answer must be the same. */
public final class ModelRunsTest {
    private static final long THREW = Long.MIN_VALUE;
    // Behind so many no further round begins, and no round makes a hundred: an object answers 512 calls.
    private static final int CALLS = 400;

    private final Random random;
    private final StaggerRadar radar = new StaggerRadar();
    private final Model model = new Model();
    private final ArrayDeque<String> told = new ArrayDeque<>();
    private final boolean wild;
    private final boolean rich;
    private int asked;

    private ModelRunsTest(long seed) {
        random = new Random(seed);
        wild = random.nextInt(4) == 0;
        rich = random.nextBoolean();
    }

    public static void main(String[] args) {
        int runs = args.length > 0 ? Integer.parseInt(args[0]) : 250;
        int from = args.length > 1 ? Integer.parseInt(args[1]) : 0;
        int wrong = 0;
        for (int seed = from; seed < from + runs; seed++) {
            ModelRunsTest run = new ModelRunsTest(seed);
            if (!run.goThrough(seed)) {
                wrong++;
            }
        }
        System.out.println(runs + " runs against the model, " + wrong + " went wrong");
        if (wrong != 0) {
            System.exit(1);
        }
    }

    /** A rich run begins with gaps and targets and keeps them, so that there is much to be heard. */
    private boolean begin() {
        boolean good = true;
        int gaps = 2 + random.nextInt(4);
        for (int i = 0; i < gaps && good; i++) {
            int g = random.nextInt(4) == 0 ? some(4, 60) : some(8, 30);
            good = same("gap(" + g + ", false)", radar.gap(g, false), model.gap(g, false));
        }
        int targets = 1 + random.nextInt(8);
        for (int i = 0; i < targets && good; i++) {
            good = comeOne();
        }
        int need = 1 + random.nextInt(3);
        return good && same("set(4, " + need + ")", number(radar.set(4, need)), number(model.set(4, need)));
    }

    private boolean comeOne() {
        int range = random.nextInt(4) == 0 ? some(0, 2999) : some(0, 400);
        int speed = random.nextInt(rich ? 9 : 3) == 0 ? some(-500, 500) : some(rich ? -8 : -30, rich ? 8 : 30);
        int strength = random.nextInt(2) == 0 ? some(1, 99) : some(1, 20);
        return same("target(" + range + ", " + speed + ", " + strength + ")",
            radar.target(range, speed, strength), model.target(range, speed, strength));
    }

    private boolean goThrough(long seed) {
        boolean good = !rich || begin();
        while (asked < CALLS) {
            good = good && callOne();
            if (!good) {
                System.out.println("seed " + seed + ", call " + asked + ":");
                for (String line : told) {
                    System.out.println("  " + line);
                }
                return false;
            }
        }
        return true;
    }

    private boolean same(String call, long got, long due) {
        asked++;
        told.add(call + " = " + due);
        if (told.size() > 40) {
            told.removeFirst();
        }
        if (got != due) {
            told.add("but answered " + got);
        }
        return got == due;
    }

    private static long number(boolean is) {
        return is ? 1 : 0;
    }

    /** Mostly from low to high, now and then just outside or far off. */
    private int some(int low, int high) {
        int kind = random.nextInt(wild ? 12 : 40);
        switch (kind) {
            case 0: return low - 1;
            case 1: return high + 1;
            case 2: return low;
            case 3: return high;
            case 4: return random.nextInt(8) == 0 ? random.nextInt() : low + random.nextInt(high - low + 1);
            default: return low + random.nextInt(high - low + 1);
        }
    }

    /** Mostly one of so many. */
    private int oneOf(int size, int most) {
        return size > 0 && random.nextInt(8) > 0 ? random.nextInt(size) : some(0, most);
    }

    private boolean callOne() {
        int kind = random.nextInt(100);
        if (kind < 30) {
            return actOne();
        }
        if (kind < 34 && !rich) {
            return typeOne();
        }
        if (kind < 37 && !rich || kind < 31) {
            return keepOne();
        }
        return kind < 60 ? askPlain() : kind < 85 ? askRanges() : askFuture();
    }

    private boolean actOne() {
        if (rich && model.s.targets.size() < 4) {
            return comeOne();
        }
        int kind = rich && random.nextInt(3) > 0 ? 12 + random.nextInt(6) : random.nextInt(20);
        switch (kind) {
            case 0: case 1: case 2: {
                int g = some(4, 60);
                boolean off = random.nextInt(4) == 0;
                if (off && model.s.gaps.size() > 0 && random.nextBoolean()) {
                    g = model.s.list().get(random.nextInt(model.s.gaps.size()));
                }
                return same("gap(" + g + ", " + off + ")", radar.gap(g, off), model.gap(g, off));
            }
            case 3: case 4: case 5: {
                int what = some(0, 6);
                int v = what >= 0 && what <= 6 ? oneSetting(what) : some(1, 5);
                return same("set(" + what + ", " + v + ")", number(radar.set(what, v)), number(model.set(what, v)));
            }
            case 6: case 7: case 8: case 9:
                return comeOne();
            case 10: {
                int t = some(0, 8);
                return same("leave(" + t + ")", radar.leave(t), model.leave(t));
            }
            case 11: case 12: case 13: case 14: {
                int time = random.nextInt(rich ? 60 : 6) == 0 ? some(1, 1000) : some(1, rich ? 6 : 20);
                return same("move(" + time + ")", radar.move(time), model.move(time));
            }
            case 15: case 16: case 17:
                return same("look()", radar.look(), model.look());
            default:
                return same("undo()", radar.undo(), model.undo());
        }
    }

    private int oneSetting(int what) {
        int[] b = Model.BOUNDS[what];
        if (what == 1 && random.nextInt(3) > 0) {
            return some(0, 4);
        }
        if (what == 4 && random.nextInt(3) > 0) {
            return some(1, 3);
        }
        if (what == 6 && random.nextInt(3) > 0) {
            return some(1, 30);
        }
        return some(b[0], b[1]);
    }

    private boolean typeOne() {
        String text = random.nextInt(8) == 0 ? noise() : sentences();
        if (random.nextInt(5) == 0) {
            text = spoil(text);
        }
        boolean good = true;
        for (int i = 0; i < text.length() && good && asked < CALLS + 100; ) {
            int size = Math.min(random.nextInt(10), Math.min(8, text.length() - i));
            long eight = 0;
            for (int j = 0; j < 8; j++) {
                eight = eight << 8 | (j < size ? text.charAt(i + j) & 255 : 0);
            }
            if (size < 7 && random.nextBoolean()) {
                eight |= random.nextInt(256);
            }
            good = same("type(" + eight + "L)", radar.type(eight), model.type(eight));
            i += size;
        }
        good = good && same("count(18)", radar.count(18), model.count(18));
        if (random.nextInt(4) > 0) {
            good = good && same("read()", radar.read(), model.read());
        }
        good = good && same("fault(false)", radar.fault(false), model.fault(false));
        return good && same("fault(true)", radar.fault(true), model.fault(true));
    }

    private String blank() {
        return new String[] {"", " ", "\n", "  "}[random.nextInt(4)];
    }

    private String sentences() {
        StringBuilder b = new StringBuilder();
        int size = random.nextInt(16);
        boolean right = random.nextInt(3) > 0;
        for (int i = 0; i < size; i++) {
            int kind = random.nextInt(4);
            if (kind == 0) {
                b.append("gap").append(blank()).append(right ? 4 + random.nextInt(57) : random.nextInt(70));
            } else if (kind == 1) {
                int what = random.nextInt(7);
                int[] bounds = Model.BOUNDS[what];
                int v = right ? bounds[0] + random.nextInt(bounds[1] - bounds[0] + 1) : some(Math.max(1, bounds[0]), bounds[1]);
                b.append(Model.WORDS.get(what)).append(blank()).append(Math.abs(v % 10000));
            } else {
                b.append(random.nextBoolean() ? "come" : "go").append(blank());
                b.append(random.nextInt(right ? 600 : 3200)).append(' ').append(blank());
                b.append(random.nextInt(right ? 60 : 520)).append(' ').append(1 + random.nextInt(right ? 99 : 101));
            }
            b.append(blank()).append(";").append(blank());
        }
        return b.toString();
    }

    private String noise() {
        StringBuilder b = new StringBuilder();
        int size = random.nextInt(40);
        for (int i = 0; i < size; i++) {
            b.append((char) (random.nextInt(3) == 0 ? 1 + random.nextInt(255) : "gap 10;wave come3".charAt(random.nextInt(17))));
        }
        return b.toString();
    }

    private String spoil(String text) {
        if (text.isEmpty()) {
            return ";";
        }
        int i = random.nextInt(text.length());
        switch (random.nextInt(3)) {
            case 0: return text.substring(0, i) + text.substring(i + 1);
            case 1: return text.substring(0, i) + "g7;x 0".charAt(random.nextInt(6)) + text.substring(i);
            default: return text.substring(0, i);
        }
    }

    private boolean keepOne() {
        int k = some(0, 2);
        return random.nextInt(3) == 0
            ? same("again(" + k + ")", number(radar.again(k)), number(model.again(k)))
            : same("image(" + k + ")", number(radar.image(k)), number(model.image(k)));
    }

    private long gapOf(boolean real, int k, int what) {
        try {
            return real ? radar.gapOf(k, what) : model.gapOf(k, what);
        } catch (NoSuchElementException none) {
            return THREW;
        }
    }

    private long targetOf(boolean real, int k, int what) {
        try {
            return real ? radar.targetOf(k, what) : model.targetOf(k, what);
        } catch (NoSuchElementException none) {
            return THREW;
        }
    }

    private boolean askPlain() {
        switch (random.nextInt(9)) {
            case 0: case 1: case 2: {
                int what = some(0, 19);
                return same("count(" + what + ")", radar.count(what), model.count(what));
            }
            case 3: {
                int k = oneOf(model.s.gaps.size(), 4), what = some(0, 3);
                return same("gapOf(" + k + ", " + what + ")", gapOf(true, k, what), gapOf(false, k, what));
            }
            case 4: {
                int t = oneOf(model.s.targets.size(), 7), what = some(0, 6);
                return same("targetOf(" + t + ", " + what + ")", targetOf(true, t, what), targetOf(false, t, what));
            }
            case 5: {
                int v = some(-500, 500);
                return same("blind(" + v + ")", radar.blind(v), model.blind(v));
            }
            case 6: {
                int v = some(-500, 500), k = oneOf(model.s.gaps.size(), 4);
                return same("doppler(" + v + ", " + k + ")", radar.doppler(v, k), model.doppler(v, k));
            }
            case 7: {
                int k = oneOf(model.count(11) + 1, 150);
                return same("dark(" + k + ")", radar.dark(k), model.dark(k));
            }
            default:
                return same("period()", radar.period(), model.period());
        }
    }

    private boolean askRanges() {
        switch (random.nextInt(10)) {
            case 0: {
                int gaps = oneOf(1 << model.s.gaps.size(), 31), scale = random.nextBoolean() ? some(-20, 20) : random.nextInt();
                return same("reach(" + gaps + ", " + scale + ")", radar.reach(gaps, scale), model.reach(gaps, scale));
            }
            case 1:
                return askJoined();
            case 2: {
                int k = oneOf(model.s.gaps.size(), 4), place = onePlace(k);
                boolean loud = random.nextBoolean();
                return same("at(" + k + ", " + place + ", " + loud + ")", radar.at(k, place, loud), model.at(k, place, loud));
            }
            case 3: {
                int n = oneNumber();
                return same("hits(" + n + ")", radar.hits(n), model.hits(n));
            }
            case 4: {
                boolean ghosts = random.nextBoolean();
                int k = oneOf(model.count(ghosts ? 14 : 13) + 1, 60);
                return same("found(" + k + ", " + ghosts + ")", radar.found(k, ghosts), model.found(k, ghosts));
            }
            case 5: {
                int n = oneNumber();
                return same("makers(" + n + ")", radar.makers(n), model.makers(n));
            }
            case 6: case 7: {
                int k = oneOf(model.count(16) + 1, 10);
                boolean hits = random.nextBoolean();
                return same("picture(" + k + ", " + hits + ")", radar.picture(k, hits), model.picture(k, hits));
            }
            case 8: {
                int what = some(0, 2);
                return same("pairs(" + what + ")", radar.pairs(what), model.pairs(what));
            }
            default: {
                int k = random.nextInt(3) == 0 ? -1 : oneOf(model.track(-1, 0) + 1, 12);
                int what = random.nextInt(3) == 0 ? 10 : some(0, 3);
                what = k == -1 && random.nextInt(4) > 0 ? 0 : what;
                return same("track(" + k + ", " + what + ")", radar.track(k, what), model.track(k, what));
            }
        }
    }

    private int onePlace(int k) {
        if (model.s.targets.size() > 0 && k >= 0 && k < model.s.gaps.size() && random.nextBoolean()) {
            return model.s.targets.get(random.nextInt(model.s.targets.size())).range() % model.s.list().get(k);
        }
        return some(0, 59);
    }

    private int oneNumber() {
        if (model.s.targets.size() > 0 && random.nextBoolean()) {
            return model.s.targets.get(random.nextInt(model.s.targets.size())).range();
        }
        return random.nextBoolean() ? some(0, 9999) : some(0, 500);
    }

    private boolean askJoined() {
        int[] p = new int[5];
        int number = random.nextInt(1000000);
        for (int k = 0; k < 5; k++) {
            p[k] = k < model.s.gaps.size() && random.nextInt(10) > 0 ? number % model.s.list().get(k) : some(0, 59);
            if (random.nextInt(6) == 0) {
                p[k] = -1 - random.nextInt(3);
            }
        }
        return same("joined(" + p[0] + ", " + p[1] + ", " + p[2] + ", " + p[3] + ", " + p[4] + ")",
            radar.joined(p[0], p[1], p[2], p[3], p[4]), model.joined(p[0], p[1], p[2], p[3], p[4]));
    }

    private boolean askFuture() {
        switch (random.nextInt(8)) {
            case 0: {
                int n = some(1, 64);
                int what = random.nextInt(3) == 0 ? 0 : 10 + oneOf(model.s.gaps.size(), 4);
                return same("order(" + n + ", " + what + ")", radar.order(n, what), model.order(n, what));
            }
            case 1: {
                int k = some(2, 4), low = some(4, 60);
                int high = low + some(0, random.nextInt(6) == 0 ? 20 : 9);
                int what = random.nextInt(3) == 0 ? some(0, 1) : 10 + oneOf(k, 3);
                return same("choose(" + k + ", " + low + ", " + high + ", " + what + ")",
                    radar.choose(k, low, high, what), model.choose(k, low, high, what));
            }
            case 2: {
                boolean ghosts = random.nextBoolean();
                return same("more(" + ghosts + ")", radar.more(ghosts), model.more(ghosts));
            }
            case 3: case 4: {
                int j = some(0, 3);
                boolean loose = random.nextBoolean();
                return same("shaken(" + j + ", " + loose + ")", radar.shaken(j, loose), model.shaken(j, loose));
            }
            case 5: case 6: {
                int seed = random.nextInt(), n = some(1, 64), j = some(0, 3), what = some(0, 4);
                return same("dwell(" + seed + ", " + n + ", " + j + ", " + what + ")",
                    radar.dwell(seed, n, j, what), model.dwell(seed, n, j, what));
            }
            default: {
                int t = oneOf(model.s.targets.size(), 7), most = some(0, 200);
                return same("until(" + t + ", " + most + ")", radar.until(t, most), model.until(t, most));
            }
        }
    }
}
