import java.math.BigInteger;
import java.util.ArrayList;
import java.util.Arrays;
import java.util.List;
import java.util.NoSuchElementException;
import java.util.function.IntPredicate;
import java.util.function.ToIntFunction;

/** The document once more, as plainly as can be and by other ways: all ways are tried out, nothing is kept for later. */
public final class Model {
    static final class Fault extends RuntimeException {
        final int kind;
        final int place;

        Fault(int kind, int place) {
            this.kind = kind;
            this.place = place;
        }
    }

    /** A strip as it stands. */
    record Cloth(int grey, int first, int wet, int milk) { }

    record State(int day, int milk, List<Cloth> cloths) {
        State with(int strip, Cloth cloth) {
            List<Cloth> out = new ArrayList<>(cloths);
            out.set(strip, cloth);
            return new State(day, milk, out);
        }
    }

    static final class Told {
        final List<Integer> suns = new ArrayList<>();
        final List<Integer> yards = new ArrayList<>();
        final List<Integer> greys = new ArrayList<>();
        final List<Integer> deeds = new ArrayList<>();
        final List<Integer> rains = new ArrayList<>();
        int milk = 5;
        int sight = 1;
    }

    record Work(State before) { }

    record Kept(State state, List<Work> works) { }

    private final List<Integer> tape = new ArrayList<>();
    private Told told = new Told();
    private ToIntFunction<int[]> law = Model::plainLaw;
    private State now = new State(0, 5, List.of());
    private List<Work> works = new ArrayList<>();
    private List<Kept> images = new ArrayList<>();
    private List<int[]> lines = new ArrayList<>();
    private int faultPlace = -1;
    private int refused;
    private int missing;
    private int wrong;

    private static int plainLaw(int[] v) {
        return v[0] / v[1] + v[3] + v[4] * 2;
    }

    // ---- texts

    /** A text taken apart by its grammar; the first thing amiss ends it. */
    private static final class Text {
        final int[] t;
        int i;

        Text(List<Integer> bytes) {
            t = bytes.stream().mapToInt(b -> b).toArray();
        }

        int look() {
            while (i < t.length && t[i] == 32) {
                i++;
            }
            return i < t.length ? t[i] : -1;
        }

        boolean ended() {
            return look() < 0;
        }

        void sign(int c) {
            if (look() != c) {
                throw new Fault(1, i);
            }
            i++;
        }

        String run(IntPredicate in) {
            look();
            StringBuilder out = new StringBuilder();
            while (i < t.length && in.test(t[i])) {
                out.append((char) t[i++]);
            }
            return out.toString();
        }

        int number(int least, int most) {
            look();
            int start = i;
            String digits = run(c -> c >= '0' && c <= '9');
            if (digits.isEmpty()) {
                throw new Fault(1, start);
            }
            BigInteger n = new BigInteger(digits);
            if (n.compareTo(BigInteger.valueOf(least)) < 0 || n.compareTo(BigInteger.valueOf(most)) > 0) {
                throw new Fault(2, start);
            }
            return n.intValue();
        }

        String word(String... those) {
            look();
            int start = i;
            String word = run(c -> c >= 'a' && c <= 'z');
            if (!Arrays.asList(those).contains(word)) {
                throw new Fault(1, start);
            }
            return word;
        }
    }

    private interface Reading {
        int read(Text text);
    }

    private int read(int n, int most, Reading reading) {
        check(n >= 0 && n <= most && n <= tape.size());
        Text text = new Text(new ArrayList<>(tape.subList(0, n)));
        tape.clear();
        faultPlace = -1;
        try {
            return reading.read(text);
        } catch (Fault f) {
            faultPlace = f.place;
            return f.kind - 10;
        }
    }

    public int feed(int a, int b, int c, int d, int e) {
        if (tape.size() > 580) {
            return -1;
        }
        for (int n : new int[] {a, b, c, d, e}) {
            for (byte x : BigInteger.valueOf(n & 0xffffffffL | 1L << 40).toByteArray()) {
                tape.add(x & 255);
            }
            tape.remove(tape.size() - 5);
            tape.remove(tape.size() - 5);
        }
        return tape.size();
    }

    public int common(int n) {
        return read(n, 600, text -> {
            Told t = new Told();
            for (int clauses = 0; !text.ended(); clauses++) {
                int place = text.i;
                String word = text.word("cell", "strip", "deed", "rain", "milk", "sight");
                int full = switch (word) {
                    case "cell" -> 12 - t.suns.size();
                    case "strip" -> 6 - t.yards.size();
                    case "deed" -> 8 - t.deeds.size();
                    case "rain" -> 7 - t.rains.size();
                    default -> 1;
                };
                if (full == 0 || clauses == 60) {
                    throw new Fault(3, place);
                }
                switch (word) {
                    case "cell" -> t.suns.add(text.number(0, 9));
                    case "deed" -> t.deeds.add(text.number(1, 9));
                    case "rain" -> t.rains.add(text.number(0, 9));
                    case "milk" -> t.milk = text.number(0, 99);
                    case "sight" -> t.sight = text.number(0, 4);
                    default -> {
                        t.yards.add(text.number(1, 6));
                        t.greys.add(text.number(1, 99));
                    }
                }
                text.sign(';');
            }
            told = t;
            law = Model::plainLaw;
            List<Cloth> cloths = new ArrayList<>();
            t.greys.forEach(g -> cloths.add(new Cloth(g, -1, 0, 0)));
            now = new State(0, t.milk, cloths);
            works = new ArrayList<>();
            images = new ArrayList<>();
            lines = new ArrayList<>();
            refused = 0;
            return t.yards.size();
        });
    }

    public int law(int n) {
        return read(n, 150, text -> {
            ToIntFunction<int[]> read = sum(text, 0);
            if (!text.ended()) {
                throw new Fault(1, text.i);
            }
            law = read;
            return 1;
        });
    }

    private static ToIntFunction<int[]> sum(Text text, int open) {
        ToIntFunction<int[]> out = product(text, open);
        while (text.look() == '+' || text.look() == '-') {
            boolean plus = text.look() == '+';
            text.i++;
            ToIntFunction<int[]> a = out;
            ToIntFunction<int[]> b = product(text, open);
            out = v -> (int) ((long) a.applyAsInt(v) + (plus ? 1L : -1L) * b.applyAsInt(v));
        }
        return out;
    }

    private static ToIntFunction<int[]> product(Text text, int open) {
        ToIntFunction<int[]> out = unit(text, open);
        while (text.look() >= 0 && "*/%".indexOf(text.look()) >= 0) {
            int sign = text.look();
            text.i++;
            ToIntFunction<int[]> a = out;
            ToIntFunction<int[]> b = unit(text, open);
            out = v -> {
                long x = a.applyAsInt(v);
                long y = b.applyAsInt(v);
                return sign == '*' ? (int) (x * y) : y == 0 ? 0 : sign == '/' ? (int) (x / y) : (int) (x % y);
            };
        }
        return out;
    }

    private static final List<String> FACTS = List.of("sun", "yards", "grey", "rain", "wet", "milk", "day", "first");

    private static ToIntFunction<int[]> unit(Text text, int open) {
        int c = text.look();
        int place = text.i;
        if (c >= '0' && c <= '9') {
            int n = text.number(0, 999);
            return v -> n;
        }
        if (c == '(') {
            if (open == 6) {
                throw new Fault(3, place);
            }
            text.i++;
            ToIntFunction<int[]> in = sum(text, open + 1);
            text.sign(')');
            return in;
        }
        String word = text.word("sun", "yards", "grey", "rain", "wet", "milk", "day", "first", "least", "most");
        if (FACTS.contains(word)) {
            int k = FACTS.indexOf(word);
            return v -> v[k];
        }
        if (open == 6) {
            throw new Fault(3, place);
        }
        text.sign('[');
        ToIntFunction<int[]> a = sum(text, open + 1);
        text.sign(',');
        ToIntFunction<int[]> b = sum(text, open + 1);
        text.sign(']');
        boolean least = word.equals("least");
        return v -> least == a.applyAsInt(v) < b.applyAsInt(v) ? a.applyAsInt(v) : b.applyAsInt(v);
    }

    record Step(String word, int a, int b, List<Step> steps) { }

    public int work(int n) {
        check(n >= 0 && n <= 150 && n <= tape.size());
        if (works.size() == 16) {
            tape.clear();
            faultPlace = -1;
            return -20;
        }
        return read(n, 150, text -> {
            List<Step> steps = steps(text, 0);
            works.add(new Work(now));
            int[] counts = new int[3];
            perform(steps, counts);
            refused = counts[2];
            return counts[1];
        });
    }

    private List<Step> steps(Text text, int open) {
        List<Step> out = new ArrayList<>();
        while (!(open == 0 ? text.ended() : text.look() == ']')) {
            text.look();
            int place = text.i;
            String word = text.word("lay", "fold", "wet", "milk", "mole", "day", "again");
            int strips = told.yards.size() - 1;
            int cells = told.suns.size() - 1;
            switch (word) {
                case "lay" -> {
                    int p = text.number(0, strips);
                    out.add(new Step(word, p, text.number(0, cells), null));
                }
                case "mole" -> out.add(new Step(word, text.number(0, cells), 0, null));
                case "day" -> out.add(new Step(word, 0, 0, null));
                case "again" -> {
                    if (open == 6) {
                        throw new Fault(3, place);
                    }
                    int times = text.number(0, 30);
                    text.sign('[');
                    out.add(new Step(word, times, 0, steps(text, open + 1)));
                    text.sign(']');
                }
                default -> out.add(new Step(word, text.number(0, strips), 0, null));
            }
            text.sign(';');
        }
        return out;
    }

    /** Counts: 0 begun, 1 done, 2 REFUSED. */
    private void perform(List<Step> steps, int[] counts) {
        for (Step step : steps) {
            if (counts[0] == 200) {
                return;
            }
            counts[0]++;
            if (step.word.equals("again")) {
                for (int k = 0; k < step.a; k++) {
                    perform(step.steps, counts);
                }
            } else {
                State then = step.word.equals("mole") ? moled(now, step.a)
                        : step.word.equals("day") ? now.day >= 500 ? null : passed(now, rain(now.day))
                        : handled(step);
                counts[then == null ? 2 : 1]++;
                now = then == null ? now : then;
            }
        }
    }

    private State handled(Step step) {
        Cloth c = now.cloths.get(step.a);
        boolean lies = c.first >= 0;
        return switch (step.word) {
            case "lay" -> lies || !roomFor(step.a, step.b) ? null : now.with(step.a, new Cloth(c.grey, step.b, 0, 0));
            case "fold" -> !lies ? null : now.with(step.a, new Cloth(c.grey, -1, 0, 0));
            case "wet" -> !lies || c.wet == 9 ? null : now.with(step.a, new Cloth(c.grey, c.first, c.wet + 1, c.milk));
            default -> !lies || c.milk == 1 || now.milk == 0 ? null
                    : new State(now.day, now.milk - 1, now.with(step.a, new Cloth(c.grey, c.first, c.wet, 1)).cloths);
        };
    }

    public int sayings(int n) {
        return read(n, 60, text -> {
            List<int[]> out = new ArrayList<>();
            while (!text.ended()) {
                int place = text.i;
                int d = text.number(0, told.deeds.size() - 1);
                if (out.stream().anyMatch(l -> l[0] == d)) {
                    throw new Fault(2, place);
                }
                out.add(new int[] {d, text.number(0, 1)});
                text.sign(';');
            }
            lines = out;
            return out.size();
        });
    }

    public int fault() {
        return faultPlace;
    }

    public int undo() {
        if (works.isEmpty()) {
            return -1;
        }
        now = works.remove(works.size() - 1).before;
        refused = 0;
        return works.size();
    }

    // ---- how things stand

    private void check(boolean right) {
        if (!right) {
            wrong++;
            throw new IllegalArgumentException();
        }
    }

    private void there(int k, List<?> those) {
        if (k < 0 || k >= those.size()) {
            missing++;
            throw new NoSuchElementException();
        }
    }

    private int rain(int day) {
        return told.rains.isEmpty() ? 0 : told.rains.get(day % told.rains.size());
    }

    private List<Integer> cellsOf(int strip, int first) {
        List<Integer> out = new ArrayList<>();
        for (int k = 0; k < told.yards.get(strip); k++) {
            out.add(first + k);
        }
        return out;
    }

    private int onCell(State s, int cell) {
        for (int p = 0; p < s.cloths.size(); p++) {
            if (s.cloths.get(p).first >= 0 && cellsOf(p, s.cloths.get(p).first).contains(cell)) {
                return p;
            }
        }
        return -1;
    }

    private boolean roomFor(int strip, int cell) {
        for (int c : cellsOf(strip, cell)) {
            if (c >= told.suns.size() || onCell(now, c) >= 0 && onCell(now, c) != strip) {
                return false;
            }
        }
        return true;
    }

    private int whitens(int strip, int grey, int rain, int wet, int milk, int day, int first) {
        int sun = 0;
        for (int c : cellsOf(strip, first)) {
            sun += told.suns.get(c);
        }
        int out = law.applyAsInt(new int[] {sun, told.yards.get(strip), grey, rain, wet, milk, day, first});
        return out < 0 ? 0 : out > 99 ? 99 : out;
    }

    private State passed(State s, int rain) {
        List<Cloth> out = new ArrayList<>();
        for (int p = 0; p < s.cloths.size(); p++) {
            Cloth c = s.cloths.get(p);
            int less = c.first < 0 ? 0 : whitens(p, c.grey, rain, c.wet, c.milk, s.day, c.first);
            out.add(new Cloth(Math.max(0, c.grey - less), c.first, 0, 0));
        }
        return new State(s.day + 1, s.milk, out);
    }

    private State moled(State s, int cell) {
        int p = onCell(s, cell);
        if (p < 0) {
            return null;
        }
        Cloth c = s.cloths.get(p);
        return s.with(p, new Cloth(Math.min(99, c.grey + 5), c.first, c.wet, c.milk));
    }

    private State later(int days) {
        State s = now;
        for (int k = 0; k < days; k++) {
            s = passed(s, rain(s.day));
        }
        return s;
    }

    private static int greys(State s) {
        return s.cloths.stream().mapToInt(Cloth::grey).sum();
    }

    private static int whites(State s) {
        int out = 0;
        for (int p = 0; p < s.cloths.size(); p++) {
            out += s.cloths.get(p).grey == 0 ? 1 << p : 0;
        }
        return out;
    }

    public int told(int what) {
        check(what >= 0 && what <= 11);
        return new int[] {told.suns.size(), told.yards.size(), told.deeds.size(), told.rains.size(), now.day,
            rain(now.day), now.milk, (int) now.cloths.stream().filter(c -> c.first >= 0).count(), whites(now),
            lines.size(), refused, greys(now)}[what];
    }

    public int cell(int cell, int what) {
        there(cell, told.suns);
        check(what == 0 || what == 1);
        return what == 0 ? told.suns.get(cell) : onCell(now, cell);
    }

    public int strip(int strip, int what) {
        there(strip, told.yards);
        check(what >= 0 && what <= 5);
        Cloth c = now.cloths.get(strip);
        int whitens = c.first < 0 ? 0 : whitens(strip, c.grey, rain(now.day), c.wet, c.milk, now.day, c.first);
        return new int[] {told.yards.get(strip), c.grey, c.first, c.wet, c.milk, whitens}[what];
    }

    public int deed(int deed) {
        there(deed, told.deeds);
        return told.deeds.get(deed);
    }

    public int would(int sun, int yards, int grey, int rain, int wet, int milk, int day, int first) {
        int[] v = {sun, yards, grey, rain, wet, milk, day, first};
        int[] most = {54, 6, 99, 9, 9, 1, 500, 11};
        boolean right = true;
        for (int k = 0; k < 8; k++) {
            right &= v[k] >= (k == 1 ? 1 : 0) && v[k] <= most[k];
        }
        check(right);
        return Math.max(0, Math.min(99, law.applyAsInt(v)));
    }

    public boolean fits(int strip, int cell) {
        there(strip, told.yards);
        there(cell, told.suns);
        return roomFor(strip, cell);
    }

    public int ahead(int n, int what) {
        check(n >= 0 && n <= 99 && (what == 0 || what == 1));
        return what == 0 ? greys(later(n)) : whites(later(n));
    }

    public int white(int strip) {
        there(strip, told.yards);
        State s = now;
        for (int k = 0; k <= 200; k++) {
            if (s.cloths.get(strip).grey == 0) {
                return k;
            }
            s = passed(s, rain(s.day));
        }
        return -1;
    }

    public int whiteYards(int n) {
        check(n >= 0 && n <= 36);
        State s = now;
        for (int k = 0; k <= 200; k++) {
            int yards = 0;
            for (int p = 0; p < told.yards.size(); p++) {
                yards += s.cloths.get(p).grey == 0 ? told.yards.get(p) : 0;
            }
            if (yards >= n) {
                return k;
            }
            s = passed(s, rain(s.day));
        }
        return -1;
    }

    // ---- the best ways, by trying all in the order in which the first is to be found

    private int best;
    private int[] bestWay;

    private void packAll(int strips, int strip, int lain, int gone, int[] way) {
        if (strip == told.yards.size()) {
            if (gone > best) {
                best = gone;
                bestWay = way.clone();
            }
            return;
        }
        int y = told.yards.get(strip);
        for (int c = 0; (strips >> strip & 1) == 1 && c + y <= told.suns.size(); c++) {
            int bits = 0;
            for (int k : cellsOf(strip, c)) {
                bits |= 1 << k;
            }
            if ((bits & lain) == 0) {
                int grey = now.cloths.get(strip).grey;
                way[strip] = c;
                int whitens = whitens(strip, grey, rain(now.day), 0, 0, now.day, c);
                packAll(strips, strip + 1, lain | bits, gone + Math.min(grey, whitens), way);
            }
        }
        way[strip] = -1;
        packAll(strips, strip + 1, lain, gone, way);
    }

    private void checkBits(int bits, List<?> those) {
        check(bits >= 0 && Integer.toBinaryString(bits | 1).length() <= Math.max(1, those.size())
                && (bits == 0 || !those.isEmpty()));
    }

    public int pack(int strips) {
        checkBits(strips, told.yards);
        best = -1;
        packAll(strips, 0, 0, 0, new int[told.yards.size()]);
        return best;
    }

    public int packed(int strips, int strip) {
        there(strip, told.yards);
        pack(strips);
        return bestWay[strip];
    }

    private void dealAll(int strip, int left, int gone, int[] way) {
        if (strip == told.yards.size()) {
            if (left == 0 && gone > best) {
                best = gone;
                bestWay = way.clone();
            }
            return;
        }
        Cloth c = now.cloths.get(strip);
        for (int more = 0; more <= left && more <= (c.first < 0 ? 0 : 9 - c.wet); more++) {
            int whitens = c.first < 0 ? 0
                    : whitens(strip, c.grey, rain(now.day), c.wet + more, c.milk, now.day, c.first);
            way[strip] = more;
            dealAll(strip + 1, left - more, gone + Math.min(c.grey, whitens), way);
        }
    }

    public int wets(int n) {
        check(n >= 0 && n <= 20);
        best = -1;
        bestWay = null;
        dealAll(0, n, 0, new int[told.yards.size()]);
        return best;
    }

    public int wetted(int n, int strip) {
        there(strip, told.yards);
        wets(n);
        return bestWay == null ? -1 : bestWay[strip];
    }

    private BigInteger likelyWhite(int strip, State s, int q, int r, int n) {
        if (n == 0) {
            return s.cloths.get(strip).grey == 0 ? BigInteger.ONE : BigInteger.ZERO;
        }
        BigInteger wet = q == 0 ? BigInteger.ZERO
                : likelyWhite(strip, passed(s, r), q, r, n - 1).multiply(BigInteger.valueOf(q));
        BigInteger dry = q == 16 ? BigInteger.ZERO
                : likelyWhite(strip, passed(s, 0), q, r, n - 1).multiply(BigInteger.valueOf(16 - q));
        return wet.add(dry);
    }

    public long likely(int strip, int q, int r, int n, int part) {
        there(strip, told.yards);
        check(q >= 0 && q <= 16 && r >= 0 && r <= 9 && n >= 0 && n <= 8 && part >= 0 && part <= 1);
        BigInteger above = likelyWhite(strip, now, q, r, n);
        BigInteger below = BigInteger.valueOf(16).pow(n);
        BigInteger by = above.gcd(below);
        return (part == 0 ? above : below).divide(by).longValueExact();
    }

    private List<Integer> rightSets(int y) {
        List<Integer> out = new ArrayList<>();
        for (int set = 0; set < Math.pow(2, told.deeds.size()); set++) {
            int yards = 0;
            boolean right = true;
            for (int d = 0; d < told.deeds.size(); d++) {
                yards += (set & 1 << d) != 0 ? told.deeds.get(d) : 0;
            }
            for (int[] line : lines) {
                right &= (set >> line[0] & 1) == line[1];
            }
            if (right && yards == y) {
                out.add(set);
            }
        }
        return out;
    }

    public int mayBe(int y, int what) {
        check(y >= 0 && y <= 72 && what >= 0 && what <= 3);
        List<Integer> sets = rightSets(y);
        if (what == 0 || sets.isEmpty()) {
            return what == 0 ? sets.size() : what == 1 ? -1 : 0;
        }
        if (what == 1) {
            return sets.get(0);
        }
        int out = 0;
        for (int d = 0; d < told.deeds.size(); d++) {
            int bit = 1 << d;
            boolean all = sets.stream().allMatch(s -> (s & bit) != 0);
            boolean none = sets.stream().noneMatch(s -> (s & bit) != 0);
            out += what == 2 && all || what == 3 && none ? bit : 0;
        }
        return out;
    }

    public int ask(int y, int what) {
        check(y >= 0 && y <= 72 && what >= 0 && what <= 1);
        List<Integer> sets = rightSets(y);
        int found = -1;
        long least = Long.MAX_VALUE;
        for (int d = 0; d < told.deeds.size(); d++) {
            int deed = d;
            if (lines.stream().noneMatch(l -> l[0] == deed)) {
                long done = sets.stream().filter(s -> (s >> deed & 1) == 1).count();
                long worst = Math.max(done, sets.size() - done);
                if (worst < least) {
                    least = worst;
                    found = d;
                }
            }
        }
        return found < 0 ? -1 : what == 0 ? found : (int) least;
    }

    // ---- boxes, thief, shares, rows

    public int seen(int cells) {
        checkBits(cells, told.suns);
        int out = 0;
        for (int c = 0; c < told.suns.size(); c++) {
            for (int b = 0; b < told.suns.size(); b++) {
                out |= (cells >> b & 1) == 1 && Math.abs(b - c) <= told.sight ? 1 << c : 0;
            }
        }
        return out;
    }

    private int lain() {
        int out = 0;
        for (int c = 0; c < told.suns.size(); c++) {
            out += onCell(now, c) >= 0 ? 1 << c : 0;
        }
        return out;
    }

    public int boxes() {
        int lain = lain();
        for (int many = 0; many <= 12; many++) {
            for (int set = 0; set < 1 << told.suns.size(); set++) {
                if (Integer.bitCount(set) == many && (seen(set) & lain) == lain) {
                    return set;
                }
            }
        }
        throw new IllegalStateException();
    }

    private int thiefHas(int cell, int box) {
        int has = 99 - now.cloths.get(onCell(now, cell)).grey;
        return Math.abs(cell - box) <= told.sight ? has - 99 : has;
    }

    public int thief(int what) {
        check(what >= 0 && what <= 2);
        List<int[]> rests = new ArrayList<>();
        int n = told.suns.size();
        for (int c = 0; c < n; c++) {
            for (int b = 0; b < n; b++) {
                boolean rest = onCell(now, c) >= 0;
                for (int o = 0; rest && o < n; o++) {
                    rest = !(onCell(now, o) >= 0 && thiefHas(o, b) > thiefHas(c, b))
                            && !(-thiefHas(c, o) > -thiefHas(c, b));
                }
                if (rest) {
                    rests.add(new int[] {100 * c + b, thiefHas(c, b)});
                }
            }
        }
        return what == 0 ? rests.size() : rests.isEmpty() ? what == 1 ? -1 : 0 : rests.get(0)[what - 1];
    }

    public int share(int strip, int strips, int n) {
        there(strip, told.yards);
        checkBits(strips, told.yards);
        check(n >= 0 && n <= 999);
        List<Integer> those = new ArrayList<>();
        int all = 0;
        for (int p = 0; p < told.yards.size(); p++) {
            if ((strips >> p & 1) == 1) {
                those.add(p);
                all += told.yards.get(p);
            }
        }
        if (!those.contains(strip)) {
            return 0;
        }
        int yards = all;
        int left = n - those.stream().mapToInt(p -> n * told.yards.get(p) / yards).sum();
        those.sort((a, b) -> n * told.yards.get(b) % yards - n * told.yards.get(a) % yards);
        return n * told.yards.get(strip) / yards + (those.indexOf(strip) < left ? 1 : 0);
    }

    private boolean isFree(int from, int many) {
        for (int c = from; c < from + many; c++) {
            if (c >= told.suns.size() || onCell(now, c) >= 0) {
                return false;
            }
        }
        return true;
    }

    public int free(int what) {
        check(what == 0 || what == 1);
        for (int many = 12; many > 0; many--) {
            for (int from = 0; from < 12; from++) {
                if (isFree(from, many)) {
                    return what == 0 ? many : from;
                }
            }
        }
        return what == 0 ? 0 : -1;
    }

    public int greyest(int what) {
        check(what == 0 || what == 1);
        for (int grey = 99; grey >= 0; grey--) {
            for (int p = 0; p < now.cloths.size(); p++) {
                if (now.cloths.get(p).first >= 0 && now.cloths.get(p).grey == grey) {
                    return what == 0 ? p : grey;
                }
            }
        }
        return -1;
    }

    public int sunniest(int strip, int what) {
        there(strip, told.yards);
        check(what == 0 || what == 1);
        for (int much = 99; much >= 0; much--) {
            for (int c = 0; c + told.yards.get(strip) <= told.suns.size(); c++) {
                if (whitens(strip, now.cloths.get(strip).grey, rain(now.day), 0, 0, now.day, c) == much) {
                    return what == 0 ? c : much;
                }
            }
        }
        return -1;
    }

    public int sunny(int n, int what) {
        check(n >= 1 && n <= 12 && (what == 0 || what == 1));
        for (int sun = 108; sun >= 0; sun--) {
            for (int c = 0; c < 12; c++) {
                if (isFree(c, n) && told.suns.subList(c, c + n).stream().mapToInt(s -> s).sum() == sun) {
                    return what == 0 ? c : sun;
                }
            }
        }
        return -1;
    }

    public int spare() {
        return now.cloths.stream().filter(c -> c.first >= 0).mapToInt(c -> 9 - c.wet).sum();
    }

    // ---- summers

    private long seed;

    private int draw(int by) {
        seed = (seed * 1103515245L + 12345L) & 0xffffffffL;
        return (int) ((seed >> 16 & 0x7fff) % by);
    }

    private int[] summerOf(int firstSeed, int days, int q, int m, int strip) {
        seed = firstSeed & 0xffffffffL;
        State s = now;
        int moles = 0;
        int rains = 0;
        for (int k = 0; k < days; k++) {
            boolean drawn = draw(16) < q;
            int rain = drawn ? draw(10) : rain(s.day);
            rains += drawn ? 1 : 0;
            if (draw(16) < m && !told.suns.isEmpty()) {
                State then = moled(s, draw(told.suns.size()));
                moles += then == null ? 0 : 1;
                s = then == null ? s : then;
            }
            s = passed(s, rain);
        }
        boolean white = strip >= 0 && s.cloths.get(strip).grey == 0;
        return new int[] {greys(s), whites(s), moles, rains, white ? 1 : 0};
    }

    public int summer(int seed, int days, int q, int m, int what) {
        check(days >= 1 && days <= 96 && q >= 0 && q <= 16 && m >= 0 && m <= 16 && what >= 0 && what <= 3);
        return summerOf(seed, days, q, m, -1)[what];
    }

    public int span(int seed, int many, int days, int q, int m, int what, int strip) {
        check(many >= 1 && many <= 20 && days >= 1 && days <= 96 && q >= 0 && q <= 16 && m >= 0 && m <= 16
                && what >= 0 && what <= 2 && strip >= 0 && strip < told.yards.size());
        List<int[]> all = new ArrayList<>();
        for (int k = 0; k < many; k++) {
            all.add(summerOf(seed + k, days, q, m, strip));
        }
        return what == 0 ? all.stream().mapToInt(a -> a[0]).min().getAsInt()
                : what == 1 ? all.stream().mapToInt(a -> a[0]).max().getAsInt()
                : all.stream().mapToInt(a -> a[4]).sum();
    }

    // ---- images and counts

    public int image() {
        if (images.size() == 3) {
            return -1;
        }
        images.add(new Kept(now, new ArrayList<>(works)));
        return images.size();
    }

    public int restore() {
        if (images.isEmpty()) {
            return -1;
        }
        Kept kept = images.remove(images.size() - 1);
        now = kept.state;
        works = kept.works;
        refused = 0;
        return images.size();
    }

    public int status(int what) {
        return what == 0 ? missing : what == 1 ? wrong : -1;
    }

    public int count(int what) {
        return what == 0 ? images.size() : what == 1 ? tape.size() : what == 2 ? works.size() : -1;
    }
}
