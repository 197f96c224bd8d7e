import java.math.BigInteger;
import java.util.ArrayList;
import java.util.Collections;
import java.util.List;
import java.util.NoSuchElementException;
import java.util.TreeMap;
import java.util.TreeSet;

/**
 * The document once more, as literally and as slowly as it likes: what the class answers is held against it.
 * It shares no code and, where there is a choice, no method with the class.
 */
final class Model {
    static final int NONE = -1;

    static final class Target {
        int spot;
        int speed;
        int strength;
        Target(int spot, int speed, int strength) { this.spot = spot; this.speed = speed; this.strength = strength; }
        Target copy() { return new Target(spot, speed, strength); }
        int range() { return Math.floorDiv(spot, 16); }
    }

    static final class Look {
        int now;
        List<Integer> numbers = new ArrayList<>();
    }

    static final class State {
        TreeSet<Integer> gaps = new TreeSet<>();
        int wave = 60, notch = 0, pulse = 1, limit = 500, need = 2, span = 100, floor = 1;
        List<Target> targets = new ArrayList<>();
        int now = 0, gone = 0;
        List<Look> looks = new ArrayList<>();
        State copy() {
            State s = new State();
            s.gaps = new TreeSet<>(gaps);
            s.wave = wave; s.notch = notch; s.pulse = pulse; s.limit = limit; s.need = need; s.span = span; s.floor = floor;
            for (Target t : targets) s.targets.add(t.copy());
            s.now = now; s.gone = gone;
            s.looks = new ArrayList<>(looks);
            return s;
        }
        List<Integer> list() { return new ArrayList<>(gaps); }
    }

    State s = new State();
    StringBuilder text = new StringBuilder();
    int fault = 0, place = NONE;
    List<State> undos = new ArrayList<>();
    State[] images = new State[3];
    String[] imageTexts = new String[3];
    int[] imageFaults = new int[3], imagePlaces = new int[3];

    int type(long eight) {
        StringBuilder more = new StringBuilder();
        for (int i = 7; i >= 0; i--) {
            int b = (int) (eight >> (8 * i)) & 0xff;
            if (b == 0) break;
            more.append((char) b);
        }
        if (text.length() + more.length() > 400) return NONE;
        text.append(more);
        return text.length();
    }

    // ---- the text

    static final class Token {
        String kind, word;
        int place;
        Token(String kind, String word, int place) { this.kind = kind; this.word = word; this.place = place; }
    }

    static List<Token> tokens(String t) {
        List<Token> all = new ArrayList<>();
        int i = 0;
        while (i < t.length()) {
            String rest = t.substring(i);
            if (rest.charAt(0) == ' ' || rest.charAt(0) == '\n') { i++; continue; }
            java.util.regex.Matcher m = java.util.regex.Pattern.compile("^([a-z]+|[0-9]+|;)", java.util.regex.Pattern.DOTALL).matcher(rest);
            if (!m.find()) { all.add(new Token("bad", "", i)); return all; }
            String w = m.group(1);
            String kind = w.equals(";") ? ";" : Character.isLetter(w.charAt(0)) ? "word" : w.length() <= 4 ? "number" : "bad";
            all.add(new Token(kind, w, i));
            i += w.length();
        }
        all.add(new Token("end", "", t.length()));
        return all;
    }

    int read() {
        String t = text.toString();
        text.setLength(0);
        List<Token> all = tokens(t);
        List<List<Token>> sentences = new ArrayList<>();
        int i = 0;
        while (!all.get(i).kind.equals("end")) {
            List<Token> one = new ArrayList<>();
            String first = all.get(i).word;
            String form = all.get(i).kind.equals("word") ? formOf(first) : null;
            if (form == null) return fail(1, all.get(i).place);
            one.add(all.get(i));
            i++;
            for (String want : form.split(" ")) {
                if (!all.get(i).kind.equals(want)) return fail(1, all.get(i).place);
                one.add(all.get(i));
                i++;
            }
            sentences.add(one);
        }
        TreeMap<Integer, TreeSet<Integer>> faults = new TreeMap<>();
        State n = new State();
        List<Integer> seen = new ArrayList<>();
        int gapWords = 0, targetWords = 0;
        for (List<Token> one : sentences) {
            String w = one.get(0).word;
            if (w.equals("gap") && ++gapWords > 5) add(faults, one.get(0).place, 4);
            if ((w.equals("come") || w.equals("go")) && ++targetWords > 8) add(faults, one.get(0).place, 4);
            int[] v = new int[3];
            for (int j = 1; j < one.size() - 1; j++) {
                v[j - 1] = Integer.parseInt(one.get(j).word);
                if (!inBounds(w, j - 1, v[j - 1])) add(faults, one.get(j).place, 2);
            }
            if (w.equals("gap")) {
                if (seen.contains(v[0])) add(faults, one.get(1).place, 3);
                seen.add(v[0]);
                n.gaps.add(v[0]);
            } else if (w.equals("come") || w.equals("go")) {
                n.targets.add(new Target(16 * v[0], w.equals("come") ? -v[1] : v[1], v[2]));
            } else {
                put(n, WORDS.indexOf(w), v[0]);
            }
        }
        if (!faults.isEmpty()) return fail(faults.firstEntry().getValue().first(), faults.firstKey());
        s = n;
        undos.clear();
        fault = 0;
        place = NONE;
        return s.gaps.size();
    }

    static void add(TreeMap<Integer, TreeSet<Integer>> faults, int place, int kind) {
        faults.computeIfAbsent(place, x -> new TreeSet<>()).add(kind);
    }

    int fail(int kind, int where) { fault = kind; place = where; return NONE; }

    static final List<String> WORDS = List.of("wave", "notch", "pulse", "limit", "need", "span", "floor");
    static final int[][] BOUNDS = {{2, 999}, {0, 49}, {0, 9}, {1, 1000}, {1, 5}, {1, 200}, {1, 200}};

    static String formOf(String w) {
        if (w.equals("gap") || WORDS.contains(w)) return "number ;";
        return w.equals("come") || w.equals("go") ? "number number number ;" : null;
    }

    static boolean inBounds(String w, int i, int v) {
        if (w.equals("gap")) return v >= 4 && v <= 60;
        if (WORDS.contains(w)) return v >= BOUNDS[WORDS.indexOf(w)][0] && v <= BOUNDS[WORDS.indexOf(w)][1];
        return i == 0 ? v <= 2999 : i == 1 ? v <= 500 : v >= 1 && v <= 99;
    }

    static int get(State s, int what) {
        return new int[] {s.wave, s.notch, s.pulse, s.limit, s.need, s.span, s.floor}[what];
    }

    static void put(State s, int what, int v) {
        switch (what) {
            case 0 -> s.wave = v;
            case 1 -> s.notch = v;
            case 2 -> s.pulse = v;
            case 3 -> s.limit = v;
            case 4 -> s.need = v;
            case 5 -> s.span = v;
            default -> s.floor = v;
        }
    }

    int fault(boolean where) { return where ? place : fault; }

    // ---- acts

    void act() {
        undos.add(s.copy());
        if (undos.size() > 8) undos.remove(0);
    }

    int gap(int gap, boolean off) {
        if (off ? !s.gaps.contains(gap) : gap < 4 || gap > 60 || s.gaps.contains(gap) || s.gaps.size() == 5) return NONE;
        act();
        if (off) s.gaps.remove(gap); else s.gaps.add(gap);
        return s.gaps.size();
    }

    boolean set(int what, int number) {
        if (what < 0 || what > 6 || number < BOUNDS[what][0] || number > BOUNDS[what][1] || get(s, what) == number) return false;
        act();
        put(s, what, number);
        return true;
    }

    int target(int range, int speed, int strength) {
        if (range < 0 || range > 2999 || speed < -500 || speed > 500 || strength < 1 || strength > 99 || s.targets.size() == 8) return NONE;
        act();
        s.targets.add(new Target(range * 16, speed, strength));
        return s.targets.size() - 1;
    }

    int leave(int target) {
        if (target < 0 || target >= s.targets.size()) return NONE;
        act();
        s.targets.remove(target);
        return s.targets.size();
    }

    /** Unit by unit, not in one leap. */
    static int go(State s, int time) {
        int gone = 0;
        for (int i = 0; i < time; i++) {
            s.now++;
            for (Target t : new ArrayList<>(s.targets)) {
                t.spot += t.speed;
                if (t.spot < 0 || t.spot > 47999) { s.targets.remove(t); gone++; }
            }
        }
        s.gone += gone;
        return gone;
    }

    int move(int time) {
        if (time < 1 || time > 1000 || s.now + time > 999999) return NONE;
        act();
        return go(s, time);
    }

    int look() {
        if (!s.looks.isEmpty() && s.looks.get(s.looks.size() - 1).now == s.now) return NONE;
        act();
        Look l = new Look();
        l.now = s.now;
        for (int[] p : pictureOf(s)) if (l.numbers.size() < 12) l.numbers.add(p[0]);
        s.looks.add(l);
        if (s.looks.size() > 4) s.looks.remove(0);
        return l.numbers.size();
    }

    int undo() {
        if (undos.isEmpty()) return NONE;
        s = undos.remove(undos.size() - 1);
        return undos.size();
    }

    // ---- what there is

    static int bits(List<Integer> list) { int b = 0; for (int i : list) b |= 1 << i; return b; }

    int count(int what) {
        if (what >= 1 && what <= 7) return get(s, what - 1);
        switch (what) {
            case 0: return s.gaps.size();
            case 8: return s.targets.size();
            case 9: return s.now;
            case 10: return s.gone;
            case 11: return darks(s).size();
            case 12: { int n = 0; for (int g : s.gaps) n += echoes(s, g).size(); return n; }
            case 13: return founds(s).size();
            case 14: return ghostsOf(s).size();
            case 15: {
                List<Integer> missed = new ArrayList<>();
                for (int i = 0; i < s.targets.size(); i++) {
                    int r = s.targets.get(i).range();
                    if (r < s.limit && !founds(s).contains(r)) missed.add(i);
                }
                return bits(missed);
            }
            case 16: return pictureOf(s).size();
            case 17: return undos.size();
            case 18: return text.length();
            case 19: return s.looks.size();
            default: return NONE;
        }
    }

    int gapOf(int k, int what) {
        if (k < 0 || k >= s.gaps.size() || what < 0 || what > 3) throw new NoSuchElementException();
        int g = s.list().get(k);
        if (what == 0) return g;
        if (what == 1) return echoes(s, g).size();
        List<Integer> some = new ArrayList<>();
        if (what == 2) {
            for (int i = 0; i < s.targets.size(); i++) if (seen(s, s.targets.get(i), g)) some.add(i);
            return bits(some);
        }
        for (int v = 1; v <= s.span; v++) if (isBlind(s, v, g)) some.add(v);
        return some.size();
    }

    int targetOf(int target, int what) {
        if (target < 0 || target >= s.targets.size() || what < 0 || what > 6) throw new NoSuchElementException();
        Target t = s.targets.get(target);
        List<Integer> some = new ArrayList<>();
        switch (what) {
            case 0: return t.range();
            case 1: return t.spot;
            case 2: return t.speed;
            case 3: return t.strength;
            case 4:
                for (int k = 0; k < s.gaps.size(); k++) if (seen(s, t, s.list().get(k))) some.add(k);
                return bits(some);
            case 5: return blind(t.speed);
            default: return t.range() >= s.limit ? 2 : founds(s).contains(t.range()) ? 1 : 0;
        }
    }

    // ---- speeds

    static int dop(State s, int v, int g) {
        return BigInteger.valueOf(v).multiply(BigInteger.valueOf(g)).mod(BigInteger.valueOf(s.wave)).intValue();
    }

    static boolean isBlind(State s, int v, int g) {
        int d = dop(s, v, g);
        return d <= s.notch || s.wave - d <= s.notch;
    }

    static List<Integer> darks(State s) {
        List<Integer> all = new ArrayList<>();
        for (int v = 1; v <= s.span; v++) {
            int not = 0;
            for (int g : s.gaps) if (!isBlind(s, v, g)) not++;
            if (not < s.need) all.add(v);
        }
        return all;
    }

    int blind(int speed) {
        if (speed < -500 || speed > 500) return NONE;
        List<Integer> some = new ArrayList<>();
        for (int k = 0; k < s.gaps.size(); k++) if (isBlind(s, speed, s.list().get(k))) some.add(k);
        return bits(some);
    }

    int doppler(int speed, int k) {
        return speed < -500 || speed > 500 || k < 0 || k >= s.gaps.size() ? NONE : dop(s, speed, s.list().get(k));
    }

    static int kth(List<Integer> list, int k) { return k < 0 || k >= list.size() ? NONE : list.get(k); }

    int dark(int k) { return kth(darks(s), k); }

    int period() {
        for (int v = 1; ; v++) {
            boolean all = true;
            for (int g : s.gaps) all &= dop(s, v, g) == 0;
            if (all) return v;
        }
    }

    // ---- ranges

    static boolean seen(State s, Target t, int g) { return !isBlind(s, t.speed, g) && t.range() % g >= s.pulse; }

    static List<Integer> echoes(State s, int g) {
        List<Integer> all = new ArrayList<>();
        for (int p = 0; p < g; p++) {
            int sum = 0;
            for (Target t : s.targets) if (seen(s, t, g) && t.range() % g == p) sum += t.strength;
            if (sum >= s.floor) all.add(p);
        }
        return all;
    }

    static List<List<Integer>> echoRows(State s) {
        List<List<Integer>> rows = new ArrayList<>();
        for (int g : s.gaps) rows.add(echoes(s, g));
        return rows;
    }

    static List<Integer> hitRows(State s, List<List<Integer>> rows, int number) {
        List<Integer> hit = new ArrayList<>();
        int k = 0;
        for (int g : s.gaps) {
            if (rows.get(k).contains(number % g)) hit.add(k);
            k++;
        }
        return hit;
    }

    static List<Integer> founds(State s) {
        List<Integer> all = new ArrayList<>();
        List<List<Integer>> rows = echoRows(s);
        for (int n = 0; n < s.limit; n++) if (hitRows(s, rows, n).size() >= s.need) all.add(n);
        return all;
    }

    static boolean anyRange(State s, int n) {
        for (Target t : s.targets) if (t.range() == n) return true;
        return false;
    }

    static List<Integer> ghostsOf(State s) {
        List<Integer> all = new ArrayList<>();
        for (int n : founds(s)) if (!anyRange(s, n)) all.add(n);
        return all;
    }

    static BigInteger reachOf(List<Integer> gaps) {
        BigInteger r = BigInteger.ONE;
        for (int g : gaps) {
            BigInteger b = BigInteger.valueOf(g);
            r = r.multiply(b).divide(r.gcd(b));
        }
        return r;
    }

    int reach(int gaps, int scale) {
        List<Integer> some = new ArrayList<>();
        for (int k = 0; k < 32; k++) {
            if ((gaps & (1 << k)) != 0) {
                if (k >= s.gaps.size()) return Integer.MIN_VALUE;
                some.add(s.list().get(k));
            }
        }
        BigInteger r = reachOf(some).multiply(BigInteger.valueOf(scale));
        return r.bitLength() > 31 ? Integer.MIN_VALUE : r.intValueExact();
    }

    /** Walks along the places of the largest gap that is asked for. */
    int joined(int a, int b, int c, int d, int e) {
        int[] places = {a, b, c, d, e};
        List<Integer> gaps = s.list();
        List<Integer> some = new ArrayList<>();
        int large = -1;
        for (int k = 0; k < gaps.size(); k++) {
            if (places[k] >= gaps.get(k)) return NONE;
            if (places[k] >= 0) { some.add(gaps.get(k)); large = k; }
        }
        if (large < 0) return 0;
        int end = reachOf(some).intValueExact();
        int[] g = new int[gaps.size()];
        for (int k = 0; k < g.length; k++) g[k] = gaps.get(k);
        search:
        for (int n = places[large]; n < end; n += g[large]) {
            for (int k = 0; k < g.length; k++) if (places[k] >= 0 && n % g[k] != places[k]) continue search;
            return n;
        }
        return NONE;
    }

    int at(int k, int place, boolean loud) {
        if (k < 0 || k >= s.gaps.size() || place < 0 || place >= s.list().get(k)) return NONE;
        int g = s.list().get(k), sum = 0;
        List<Integer> some = new ArrayList<>();
        for (int i = 0; i < s.targets.size(); i++) {
            Target t = s.targets.get(i);
            if (seen(s, t, g) && t.range() % g == place) { some.add(i); sum += t.strength; }
        }
        return loud ? sum : bits(some);
    }

    int hits(int number) {
        return number < 0 || number > 9999 ? NONE : bits(hitRows(s, echoRows(s), number));
    }

    int found(int k, boolean ghosts) { return kth(ghosts ? ghostsOf(s) : founds(s), k); }

    int makers(int number) {
        if (number < 0 || number > 9999) return NONE;
        int all = 0;
        for (int k : hitRows(s, echoRows(s), number)) all |= at(k, number % s.list().get(k), false);
        return all;
    }

    static List<int[]> pictureOf(State s) {
        List<int[]> all = new ArrayList<>();
        List<List<Integer>> free = echoRows(s);
        while (true) {
            int best = -1, most = s.need - 1;
            for (int n = 0; n < s.limit; n++) {
                int size = hitRows(s, free, n).size();
                if (size > most) { most = size; best = n; }
            }
            if (best < 0) return all;
            all.add(new int[] {best, most});
            for (int k : hitRows(s, free, best)) free.get(k).remove((Integer) (best % s.list().get(k)));
        }
    }

    int picture(int k, boolean hits) {
        List<int[]> all = pictureOf(s);
        return k < 0 || k >= all.size() ? NONE : all.get(k)[hits ? 1 : 0];
    }

    int pairs(int what) {
        if (what < 0 || what > 2) return NONE;
        if (s.gaps.isEmpty()) return 0;
        List<List<Integer>> pairings = new ArrayList<>();
        pairings.add(new ArrayList<>());
        for (int g : s.gaps) {
            List<List<Integer>> longer = new ArrayList<>();
            for (List<Integer> p : pairings) for (int e : echoes(s, g)) { List<Integer> q = new ArrayList<>(p); q.add(e); longer.add(q); }
            pairings = longer;
        }
        if (what == 0) return pairings.size();
        int[] gaps = s.list().stream().mapToInt(x -> x).toArray();
        int size = 0;
        for (List<Integer> p : pairings) {
            int n = firstOf(p, gaps, s.limit);
            if (n >= 0 && (what == 1 || !anyRange(s, n))) size++;
        }
        return size;
    }

    static int firstOf(List<Integer> places, int[] gaps, int limit) {
        int last = gaps.length - 1;
        search:
        for (int n = places.get(last); n < limit; n += gaps[last]) {
            for (int k = 0; k < last; k++) if (n % gaps[k] != places.get(k)) continue search;
            return n;
        }
        return -1;
    }

    List<List<Integer>> tracksOf() {
        List<List<Integer>> all = new ArrayList<>();
        if (s.looks.size() < 2) return all;
        all.add(new ArrayList<>());
        for (Look l : s.looks) {
            List<List<Integer>> longer = new ArrayList<>();
            for (List<Integer> p : all) for (int n : l.numbers) { List<Integer> q = new ArrayList<>(p); q.add(n); longer.add(q); }
            all = longer;
        }
        int last = s.looks.size() - 1;
        long t0 = s.looks.get(0).now, whole = s.looks.get(last).now - t0;
        all.removeIf(p -> {
            for (int i = 0; i <= last; i++) {
                long one = (p.get(i) - p.get(0)) * whole;
                long two = (p.get(last) - p.get(0)) * (s.looks.get(i).now - t0);
                if (Math.abs(one - two) > whole) return true;
            }
            return false;
        });
        return all;
    }

    int track(int k, int what) {
        List<List<Integer>> all = tracksOf();
        if (k == NONE && what == 0) return all.size();
        if (k < 0 || k >= all.size()) return -100000;
        List<Integer> p = all.get(k);
        int last = s.looks.size() - 1;
        if (what >= 0 && what <= last) return p.get(what);
        if (what != 10) return -100000;
        return (int) (16.0 * (p.get(last) - p.get(0)) / (s.looks.get(last).now - s.looks.get(0).now));
    }

    // ---- what would be

    static final class Sent {
        List<Long> times = new ArrayList<>();
        long next;
        int clear, late, hidden;
        long longest;
    }

    static Sent dwellOf(State s, List<Integer> gaps, long seed, int n, int j) {
        Sent d = new Sent();
        BigInteger x = BigInteger.valueOf(seed & 0xffffffffL);
        BigInteger all = BigInteger.ONE.shiftLeft(32);
        long time = 0;
        for (int i = 0; i < n; i++) {
            d.times.add(time);
            x = x.multiply(BigInteger.valueOf(1103515245)).add(BigInteger.valueOf(12345)).mod(all);
            int draw = x.shiftRight(16).mod(BigInteger.valueOf(2 * j + 1)).intValue();
            time += gaps.get(i % gaps.size()) + draw - j;
        }
        d.next = time;
        for (int i = 0; i + 1 < n; i++) d.longest = Math.max(d.longest, d.times.get(i + 1) - d.times.get(i));
        for (int i = 0; i < n; i++) {
            for (Target t : s.targets) {
                long when = d.times.get(i) + t.range();
                if (when < (i + 1 < n ? d.times.get(i + 1) : d.next)) d.clear++; else d.late++;
                boolean hidden = false;
                for (long p : d.times) hidden |= p == when || p < when && when - p < s.pulse;
                if (hidden) d.hidden++;
            }
        }
        return d;
    }

    static void orders(List<Integer> left, List<Integer> row, List<List<Integer>> all) {
        if (left.isEmpty()) all.add(new ArrayList<>(row));
        for (int g : left) {
            List<Integer> rest = new ArrayList<>(left);
            rest.remove((Integer) g);
            row.add(g);
            orders(rest, row, all);
            row.remove(row.size() - 1);
        }
    }

    int order(int n, int what) {
        if (n < 1 || n > 64 || s.gaps.isEmpty()) return NONE;
        if (what != 0 && (what < 10 || what - 10 >= s.gaps.size())) return NONE;
        List<List<Integer>> all = new ArrayList<>();
        orders(s.list(), new ArrayList<>(), all);
        List<Integer> best = null;
        int least = Integer.MAX_VALUE;
        Collections.shuffle(all, new java.util.Random(n));
        for (List<Integer> row : all) {
            int h = dwellOf(s, row, 0, n, 0).hidden;
            if (h < least || h == least && less(row, best)) { least = h; best = row; }
        }
        return what == 0 ? least : best.get(what - 10);
    }

    static boolean less(List<Integer> a, List<Integer> b) {
        for (int i = 0; i < a.size(); i++) if (!a.get(i).equals(b.get(i))) return a.get(i) < b.get(i);
        return false;
    }

    int choose(int k, int low, int high, int what) {
        if (k < 2 || k > 4 || low < 4 || high > 60 || high < low || high > low + 20) return NONE;
        if (what != 0 && what != 1 && (what < 10 || what - 10 >= k)) return NONE;
        List<List<Integer>> fit = new ArrayList<>();
        for (int bits = 0; bits < 1 << (high - low + 1); bits++) {
            if (Integer.bitCount(bits) != k) continue;
            List<Integer> set = new ArrayList<>();
            for (int g = low; g <= high; g++) if ((bits >> (g - low) & 1) != 0) set.add(g);
            if (isFit(set)) fit.add(set);
        }
        if (what == 0) return fit.size();
        if (fit.isEmpty()) return NONE;
        List<Integer> best = fit.get(0);
        for (List<Integer> set : fit) if (sum(set) < sum(best) || sum(set) == sum(best) && less(set, best)) best = set;
        return what == 1 ? sum(best) : best.get(what - 10);
    }

    static int sum(List<Integer> list) { int n = 0; for (int i : list) n += i; return n; }

    boolean isFit(List<Integer> set) {
        if (reachOf(set).compareTo(BigInteger.valueOf(s.limit)) < 0) return false;
        for (int v = 1; v <= s.span; v++) {
            int not = 0;
            for (int g : set) {
                int d = v * g % s.wave;
                if (d > s.notch && s.wave - d > s.notch) not++;
            }
            if (not < s.need && not < set.size()) return false;
        }
        return true;
    }

    int more(boolean ghosts) {
        if (s.gaps.size() >= 5) return NONE;
        int best = NONE, least = Integer.MAX_VALUE;
        for (int g = 4; g <= 60; g++) {
            if (s.gaps.contains(g)) continue;
            State t = s.copy();
            t.gaps.add(g);
            int n = ghosts ? ghostsOf(t).size() : darks(t).size();
            if (n < least) { least = n; best = g; }
        }
        return best;
    }

    int shaken(int j, boolean loose) {
        if (j < 0 || j > 3) return NONE;
        int size = 0;
        for (int v = 1; v <= s.span; v++) {
            int good = 0;
            for (int g : s.gaps) {
                boolean sure = true, possible = false;
                for (int h = g - j; h <= g + j; h++) {
                    if (isBlind(s, v, h)) sure = false; else possible = true;
                }
                if (loose ? possible : sure) good++;
            }
            if (good >= s.need) size++;
        }
        return size;
    }

    int dwell(int seed, int n, int j, int what) {
        if (n < 1 || n > 64 || j < 0 || j > 3 || what < 0 || what > 4 || s.gaps.isEmpty()) return NONE;
        Sent d = dwellOf(s, s.list(), seed, n, j);
        return (int) new long[] {d.times.get(n - 1), d.clear, d.late, d.hidden, d.longest}[what];
    }

    int until(int target, int most) {
        if (target < 0 || target >= s.targets.size() || most < 0 || most > 200) return NONE;
        State t = s.copy();
        Target one = t.targets.get(target);
        for (int time = 0; time <= most; time++) {
            if (!t.targets.contains(one)) return NONE;
            if (one.range() < t.limit && hitRows(t, echoRows(t), one.range()).size() >= t.need) return time;
            go(t, 1);
        }
        return NONE;
    }

    // ---- kept

    boolean image(int k) {
        if (k < 0 || k > 2) return false;
        images[k] = s.copy();
        imageTexts[k] = text.toString();
        imageFaults[k] = fault;
        imagePlaces[k] = place;
        return true;
    }

    boolean again(int k) {
        if (k < 0 || k > 2 || images[k] == null) return false;
        s = images[k].copy();
        text = new StringBuilder(imageTexts[k]);
        fault = imageFaults[k];
        place = imagePlaces[k];
        undos.clear();
        return true;
    }
}
