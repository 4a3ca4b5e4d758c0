import java.util.NoSuchElementException;

/** Guilt's linen is bleached on a common that is told as a text; DOC.md says what each call answers. */
public final class LinenGuilt {
    public static final int NONE = -1;

    private static final int MOST_CELLS = 12;
    private static final int MOST_STRIPS = 6;
    private static final int MOST_DEEDS = 8;
    private static final int MOST_RAINS = 7;
    private static final int MOST_CLAUSES = 60;
    private static final int MOST_YARDS = 6;
    private static final int MOST_GREY = 99;
    private static final int MOST_WETS = 9;
    private static final int MOST_OPEN = 6;
    private static final int MOST_WORKS = 16;
    private static final int MOST_IMAGES = 3;
    private static final int MOST_DEALT = 20;
    private static final int MOST_SEEDS = 20;
    private static final int MOST_DEED_YARDS = 72;
    private static final int MOST_STRIP_YARDS = 36;
    private static final int TAPE_BYTES = 600;
    private static final int LAW_BYTES = 150;
    private static final int WORK_BYTES = 150;
    private static final int SAYING_BYTES = 60;
    private static final int LAST_DAY = 500;
    private static final int DAYS_AHEAD = 200;

    private static final int FAULT_SIGN = 1;
    private static final int FAULT_NUMBER = 2;
    private static final int FAULT_MANY = 3;

    private final Tape tape = new Tape();
    private final Program program = new Program();
    private final Linen linen = new Linen();
    private final Linen later = new Linen();
    private final Past past = new Past();
    private final Linen[] linenKept = new Linen[MOST_IMAGES];
    private final Past[] pastKept = new Past[MOST_IMAGES];
    private final Packing packing = new Packing();
    private final Dealing dealing = new Dealing();
    private final Odds odds = new Odds();
    private final Summer season = new Summer();
    private Common common = new Common();
    private Common spareCommon = new Common();
    private Law spareLaw = new Law();
    private Sayings said = new Sayings();
    private Sayings spareSaid = new Sayings();
    private int imagesKept;
    private int stepsRefused;
    private int callsMissing;
    private int callsWrong;

    public LinenGuilt() {
        for (int i = 0; i < MOST_IMAGES; i++) {
            linenKept[i] = new Linen();
            pastKept[i] = new Past();
        }
        linen.begin(common);
    }

    // ---- texts

    public int feed(int a, int b, int c, int d, int e) {
        if (tape.count + 20 > TAPE_BYTES) {
            return NONE;
        }
        tape.put(a);
        tape.put(b);
        tape.put(c);
        tape.put(d);
        tape.put(e);
        return tape.count;
    }

    public int common(int n) throws IllegalArgumentException {
        need(isTextLength(n, TAPE_BYTES));
        tape.open(n);
        spareCommon.read(tape);
        if (tape.failed()) {
            return tape.faultAnswer();
        }
        Common told = spareCommon;
        spareCommon = common;
        common = told;
        linen.begin(common);
        said.forget();
        past.count = 0;
        imagesKept = 0;
        stepsRefused = 0;
        return common.strips;
    }

    public int law(int n) throws IllegalArgumentException {
        need(isTextLength(n, LAW_BYTES));
        tape.open(n);
        spareLaw.read(tape);
        if (tape.failed()) {
            return tape.faultAnswer();
        }
        Law told = spareLaw;
        spareLaw = common.law;
        common.law = told;
        return 1;
    }

    public int work(int n) throws IllegalArgumentException {
        need(isTextLength(n, WORK_BYTES));
        if (past.count >= MOST_WORKS) {
            tape.open(0);
            return -20;
        }
        tape.open(n);
        program.read(tape, common);
        if (tape.failed()) {
            return tape.faultAnswer();
        }
        past.add(linen);
        program.run(linen, common);
        stepsRefused = program.refused;
        return program.done;
    }

    public int sayings(int n) throws IllegalArgumentException {
        need(isTextLength(n, SAYING_BYTES));
        tape.open(n);
        spareSaid.read(tape, common);
        if (tape.failed()) {
            return tape.faultAnswer();
        }
        Sayings told = spareSaid;
        spareSaid = said;
        said = told;
        return said.lines;
    }

    public int fault() {
        return tape.faultPlace;
    }

    public int undo() {
        if (!past.takeLatest(linen)) {
            return -1;
        }
        stepsRefused = 0;
        return past.count;
    }

    // ---- what is told and how things stand

    public int told(int what) throws IllegalArgumentException {
        need(isWithin(what, 0, 11));
        switch (what) {
            case 0: return common.cells;
            case 1: return common.strips;
            case 2: return common.deeds;
            case 3: return common.rains;
            case 4: return linen.day;
            case 5: return common.rainOf(linen.day);
            case 6: return linen.milkLeft;
            case 7: return linen.lyingCount(common);
            case 8: return linen.whiteBits(common);
            case 9: return said.lines;
            case 10: return stepsRefused;
            default: return linen.greyOfAll(common);
        }
    }

    public int cell(int cell, int what) throws NoSuchElementException, IllegalArgumentException {
        needCell(cell);
        need(isWithin(what, 0, 1));
        return what == 0 ? common.sun[cell] : linen.lyingOn(common, cell);
    }

    public int strip(int strip, int what) throws NoSuchElementException, IllegalArgumentException {
        needStrip(strip);
        need(isWithin(what, 0, 5));
        switch (what) {
            case 0: return common.yards[strip];
            case 1: return linen.grey[strip];
            case 2: return linen.first[strip];
            case 3: return linen.wets[strip];
            case 4: return linen.milked[strip];
            default: return linen.whitensNow(common, strip, common.rainOf(linen.day));
        }
    }

    public int deed(int deed) throws NoSuchElementException {
        needThat(isWithin(deed, 0, common.deeds - 1));
        return common.deedYards[deed];
    }

    public int would(int sun, int yards, int grey, int rain, int wet, int milk, int day, int first)
            throws IllegalArgumentException {
        need(isWithin(sun, 0, 54) && isWithin(yards, 1, MOST_YARDS) && isWithin(grey, 0, MOST_GREY));
        need(isWithin(rain, 0, 9) && isWithin(wet, 0, MOST_WETS) && isWithin(milk, 0, 1));
        need(isWithin(day, 0, LAST_DAY) && isWithin(first, 0, MOST_CELLS - 1));
        int[] facts = common.law.facts;
        facts[Law.SUN] = sun;
        facts[Law.YARDS] = yards;
        facts[Law.GREY] = grey;
        facts[Law.RAIN] = rain;
        facts[Law.WET] = wet;
        facts[Law.MILK] = milk;
        facts[Law.DAY] = day;
        facts[Law.FIRST] = first;
        return common.law.whitens();
    }

    public boolean fits(int strip, int cell) throws NoSuchElementException {
        needStrip(strip);
        needCell(cell);
        return linen.hasRoom(common, strip, cell);
    }

    // ---- days that go by, nothing being done

    public int ahead(int n, int what) throws IllegalArgumentException {
        need(isWithin(n, 0, 99) && isWithin(what, 0, 1));
        later.copy(linen);
        for (int i = 0; i < n; i++) {
            later.passDay(common, common.rainOf(later.day));
        }
        return what == 0 ? later.greyOfAll(common) : later.whiteBits(common);
    }

    public int white(int strip) throws NoSuchElementException {
        needStrip(strip);
        later.copy(linen);
        for (int days = 0; days < DAYS_AHEAD; days++) {
            if (later.grey[strip] == 0) {
                return days;
            }
            later.passDay(common, common.rainOf(later.day));
        }
        return later.grey[strip] == 0 ? DAYS_AHEAD : NONE;
    }

    public int whiteYards(int n) throws IllegalArgumentException {
        need(isWithin(n, 0, MOST_STRIP_YARDS));
        later.copy(linen);
        for (int days = 0; days < DAYS_AHEAD; days++) {
            if (later.whiteYardsNow(common) >= n) {
                return days;
            }
            later.passDay(common, common.rainOf(later.day));
        }
        return later.whiteYardsNow(common) >= n ? DAYS_AHEAD : NONE;
    }

    // ---- the best ways

    public int pack(int strips) throws IllegalArgumentException {
        need(areBits(strips, common.strips));
        return packing.find(common, linen, strips);
    }

    public int packed(int strips, int strip) throws NoSuchElementException, IllegalArgumentException {
        needStrip(strip);
        need(areBits(strips, common.strips));
        packing.find(common, linen, strips);
        return packing.place[strip];
    }

    public int wets(int n) throws IllegalArgumentException {
        need(isWithin(n, 0, MOST_DEALT));
        return dealing.find(common, linen, n);
    }

    public int wetted(int n, int strip) throws NoSuchElementException, IllegalArgumentException {
        needStrip(strip);
        need(isWithin(n, 0, MOST_DEALT));
        return dealing.find(common, linen, n) == NONE ? NONE : dealing.given[strip];
    }

    public long likely(int strip, int q, int r, int n, int part)
            throws NoSuchElementException, IllegalArgumentException {
        needStrip(strip);
        need(isWithin(q, 0, 16) && isWithin(r, 0, 9) && isWithin(n, 0, 8) && isWithin(part, 0, 1));
        odds.find(common, linen, strip, q, r, n);
        return part == 0 ? odds.above : odds.below;
    }

    // ---- deeds

    public int mayBe(int y, int what) throws IllegalArgumentException {
        need(isWithin(y, 0, MOST_DEED_YARDS) && isWithin(what, 0, 3));
        int all = (1 << common.deeds) - 1;
        int many = 0;
        int least = NONE;
        int inEach = all;
        int inAny = 0;
        for (int set = 0; set <= all; set++) {
            if (isRight(set, y)) {
                many++;
                least = least == NONE ? set : least;
                inEach &= set;
                inAny |= set;
            }
        }
        switch (what) {
            case 0: return many;
            case 1: return least;
            case 2: return many == 0 ? 0 : inEach;
            default: return many == 0 ? 0 : all & ~inAny;
        }
    }

    public int ask(int y, int what) throws IllegalArgumentException {
        need(isWithin(y, 0, MOST_DEED_YARDS) && isWithin(what, 0, 1));
        int best = NONE;
        int fewest = NONE;
        for (int deed = 0; deed < common.deeds; deed++) {
            if (!said.speaksOf(deed)) {
                int left = leftAtWorst(y, deed);
                if (best == NONE || left < fewest) {
                    best = deed;
                    fewest = left;
                }
            }
        }
        return what == 0 ? best : fewest;
    }

    // ---- boxes, thief and watchman

    public int boxes() {
        int lain = linen.lainBits(common);
        int best = (1 << common.cells) - 1;
        for (int set = 0; set < 1 << common.cells; set++) {
            boolean fewer = Integer.bitCount(set) < Integer.bitCount(best);
            if (fewer && (lain & ~common.seenFrom(set)) == 0) {
                best = set;
            }
        }
        return best;
    }

    public int seen(int cells) throws IllegalArgumentException {
        need(areBits(cells, common.cells));
        return common.seenFrom(cells);
    }

    public int thief(int what) throws IllegalArgumentException {
        need(isWithin(what, 0, 2));
        int many = 0;
        int firstRest = NONE;
        int has = 0;
        for (int cell = 0; cell < common.cells; cell++) {
            for (int box = 0; box < common.cells; box++) {
                if (isRest(cell, box)) {
                    if (many == 0) {
                        firstRest = 100 * cell + box;
                        has = thiefHas(cell, box);
                    }
                    many++;
                }
            }
        }
        return what == 0 ? many : what == 1 ? firstRest : has;
    }

    // ---- shares, rows and wettings to spare

    public int share(int strip, int strips, int n) throws NoSuchElementException, IllegalArgumentException {
        needStrip(strip);
        need(areBits(strips, common.strips) && isWithin(n, 0, 999));
        int all = common.yardsOf(strips);
        if ((strips >> strip & 1) == 0 || all <= 0) {
            return 0;
        }
        int left = n;
        int ahead = 0;
        int mine = n * common.yards[strip] % all;
        for (int o = 0; o < common.strips; o++) {
            if ((strips >> o & 1) == 1) {
                int rest = n * common.yards[o] % all;
                left -= n * common.yards[o] / all;
                ahead += rest > mine || rest == mine && o < strip ? 1 : 0;
            }
        }
        return n * common.yards[strip] / all + (ahead < left ? 1 : 0);
    }

    public int free(int what) throws IllegalArgumentException {
        need(isWithin(what, 0, 1));
        int lain = linen.lainBits(common);
        int longest = 0;
        int start = NONE;
        int row = 0;
        for (int cell = 0; cell < common.cells; cell++) {
            row = (lain >> cell & 1) == 1 ? 0 : row + 1;
            if (row > longest) {
                longest = row;
                start = cell - row + 1;
            }
        }
        return what == 0 ? longest : start;
    }

    public int greyest(int what) throws IllegalArgumentException {
        need(isWithin(what, 0, 1));
        int best = NONE;
        int most = NONE;
        for (int strip = 0; strip < common.strips; strip++) {
            if (linen.first[strip] != NONE && linen.grey[strip] > most) {
                best = strip;
                most = linen.grey[strip];
            }
        }
        return what == 0 ? best : most;
    }

    public int sunniest(int strip, int what) throws NoSuchElementException, IllegalArgumentException {
        needStrip(strip);
        need(isWithin(what, 0, 1));
        int best = NONE;
        int most = NONE;
        for (int cell = 0; cell + common.yards[strip] <= common.cells; cell++) {
            int whitens = linen.whitensDry(common, strip, cell);
            if (whitens > most) {
                best = cell;
                most = whitens;
            }
        }
        return what == 0 ? best : most;
    }

    public int sunny(int n, int what) throws IllegalArgumentException {
        need(isWithin(n, 1, MOST_CELLS) && isWithin(what, 0, 1));
        int lain = linen.lainBits(common);
        int best = NONE;
        int most = NONE;
        for (int cell = 0; cell + n <= common.cells; cell++) {
            int sun = common.sunOf(cell, n);
            if ((lain & rowBits(cell, n)) == 0 && sun > most) {
                best = cell;
                most = sun;
            }
        }
        return what == 0 ? best : most;
    }

    public int spare() {
        int many = 0;
        for (int strip = 0; strip < common.strips; strip++) {
            many += linen.first[strip] == NONE ? 0 : MOST_WETS - linen.wets[strip];
        }
        return many;
    }

    // ---- summers

    public int summer(int seed, int days, int q, int m, int what) throws IllegalArgumentException {
        need(isSummer(days, q, m) && isWithin(what, 0, 3));
        season.pass(common, linen, seed, days, q, m);
        switch (what) {
            case 0: return season.linen.greyOfAll(common);
            case 1: return season.linen.whiteBits(common);
            case 2: return season.moles;
            default: return season.rains;
        }
    }

    public int span(int seed, int many, int days, int q, int m, int what, int strip)
            throws IllegalArgumentException {
        need(isWithin(many, 1, MOST_SEEDS) && isSummer(days, q, m) && isWithin(what, 0, 2));
        need(isWithin(strip, 0, common.strips - 1));
        int least = NONE;
        int most = NONE;
        int white = 0;
        for (int i = 0; i < many; i++) {
            season.pass(common, linen, seed + i, days, q, m);
            int grey = season.linen.greyOfAll(common);
            least = least == NONE ? grey : Math.min(least, grey);
            most = Math.max(most, grey);
            white += season.linen.grey[strip] == 0 ? 1 : 0;
        }
        return what == 0 ? least : what == 1 ? most : white;
    }

    // ---- images and counts

    public int image() {
        if (imagesKept >= MOST_IMAGES) {
            return -1;
        }
        linenKept[imagesKept].copy(linen);
        pastKept[imagesKept].copy(past);
        imagesKept++;
        return imagesKept;
    }

    public int restore() {
        if (imagesKept <= 0) {
            return -1;
        }
        imagesKept--;
        linen.copy(linenKept[imagesKept]);
        past.copy(pastKept[imagesKept]);
        stepsRefused = 0;
        return imagesKept;
    }

    public int status(int what) {
        return what == 0 ? callsMissing : what == 1 ? callsWrong : NONE;
    }

    public int count(int what) {
        switch (what) {
            case 0: return imagesKept;
            case 1: return tape.count;
            case 2: return past.count;
            default: return NONE;
        }
    }

    // ---- refusals

    private void need(boolean right) throws IllegalArgumentException {
        if (!right) {
            callsWrong++;
            throw new IllegalArgumentException("not so");
        }
    }

    private void needThat(boolean there) throws NoSuchElementException {
        if (!there) {
            callsMissing++;
            throw new NoSuchElementException("no such one");
        }
    }

    private void needStrip(int strip) throws NoSuchElementException {
        needThat(isWithin(strip, 0, common.strips - 1));
    }

    private void needCell(int cell) throws NoSuchElementException {
        needThat(isWithin(cell, 0, common.cells - 1));
    }

    private boolean isTextLength(int n, int most) {
        return isWithin(n, 0, most) && n <= tape.count;
    }

    private static boolean isSummer(int days, int q, int m) {
        return isWithin(days, 1, 96) && isWithin(q, 0, 16) && isWithin(m, 0, 16);
    }

    private static boolean isWithin(int value, int least, int most) {
        return value >= least && value <= most;
    }

    private static boolean areBits(int bits, int many) {
        return bits >= 0 && bits < 1 << many;
    }

    private static int rowBits(int first, int many) {
        return ((1 << many) - 1) << first;
    }

    // ---- parts of the questions above

    private boolean isRight(int set, int y) {
        return said.agreeWith(set) && common.yardsOfDeeds(set) == y;
    }

    private int leftAtWorst(int y, int deed) {
        int with = 0;
        int without = 0;
        for (int set = 0; set < 1 << common.deeds; set++) {
            if (isRight(set, y)) {
                with += set >> deed & 1;
                without += 1 - (set >> deed & 1);
            }
        }
        return Math.max(with, without);
    }

    private int thiefHas(int cell, int box) {
        int strip = linen.lyingOn(common, cell);
        if (strip == NONE) {
            return 0;
        }
        int has = MOST_GREY - linen.grey[strip];
        return common.sees(box, cell) ? has - 99 : has;
    }

    private boolean isRest(int cell, int box) {
        if (linen.lyingOn(common, cell) == NONE) {
            return false;
        }
        int has = thiefHas(cell, box);
        for (int other = 0; other < common.cells; other++) {
            boolean thiefMoves = linen.lyingOn(common, other) != NONE && thiefHas(other, box) > has;
            if (thiefMoves || thiefHas(cell, other) < has) {
                return false;
            }
        }
        return true;
    }

    /** What was fed, and the reading of it: of a text's faults the first one stays, all reading behind it is idle. */
    private static final class Tape {
        static final int END = -1;
        private static final int HUGE = 100000;

        private final char[] bytes = new char[TAPE_BYTES];
        private int count;
        private int end;
        private int at;
        private int wordAt;
        private int wordEnd;
        private int faultKind;
        private int faultPlace = NONE;

        void put(int number) {
            for (int shift = 24; shift >= 0 && count < bytes.length; shift -= 8) {
                bytes[count] = (char) (number >>> shift & 255);
                count++;
            }
        }

        /** The bytes stay in their row while they are read, though the tape counts as empty from now on. */
        void open(int n) {
            end = Math.max(0, Math.min(n, bytes.length));
            count = 0;
            at = 0;
            wordAt = 0;
            wordEnd = 0;
            faultKind = 0;
            faultPlace = NONE;
        }

        boolean failed() {
            return faultKind != 0;
        }

        int faultAnswer() {
            return faultKind - 10;
        }

        void fail(int kind, int place) {
            if (faultKind == 0) {
                faultKind = kind;
                faultPlace = place;
            }
        }

        /** The sign that comes next behind blanks; END also behind a fault, so that every reading loop ends. */
        int peek() {
            for (int i = at; i < end && bytes[i] == ' '; i++) {
                at = i + 1;
            }
            return faultKind != 0 || at >= end ? END : bytes[at];
        }

        boolean isDigitNext() {
            int sign = peek();
            return sign >= '0' && sign <= '9';
        }

        void skipSign() {
            at = Math.min(at + 1, end);
        }

        void takeSign(char wanted) {
            if (peek() == wanted) {
                skipSign();
            } else {
                fail(FAULT_SIGN, at);
            }
        }

        int takeNumber(int least, int most) {
            if (!isDigitNext()) {
                fail(FAULT_SIGN, at);
                return least;
            }
            int start = at;
            int value = 0;
            for (int i = at; i < end && bytes[i] >= '0' && bytes[i] <= '9'; i++) {
                value = Math.min(HUGE, value * 10 + bytes[i] - '0');
                at = i + 1;
            }
            if (value < least || value > most) {
                fail(FAULT_NUMBER, start);
                return least;
            }
            return value;
        }

        void takeWord() {
            peek();
            wordAt = at;
            for (int i = at; i < end && bytes[i] >= 'a' && bytes[i] <= 'z'; i++) {
                at = i + 1;
            }
            wordEnd = at;
        }

        boolean isWord(String word) {
            if (wordEnd - wordAt != word.length()) {
                return false;
            }
            for (int i = 0; i < word.length() && wordAt + i < bytes.length; i++) {
                if (bytes[wordAt + i] != word.charAt(i)) {
                    return false;
                }
            }
            return true;
        }

        void failAtWord(int kind) {
            fail(kind, wordAt);
        }

        void takeEnd() {
            if (peek() != END) {
                fail(FAULT_SIGN, at);
            }
        }
    }

    /** A common as it is told, and the law that holds on it. */
    private static final class Common {
        private static final int CELL = 1;
        private static final int STRIP = 2;
        private static final int DEED = 3;
        private static final int RAIN = 4;
        private static final int MILK = 5;
        private static final int SIGHT = 6;

        private final int[] sun = new int[MOST_CELLS];
        private final int[] yards = new int[MOST_STRIPS];
        private final int[] greyAtFirst = new int[MOST_STRIPS];
        private final int[] deedYards = new int[MOST_DEEDS];
        private final int[] rain = new int[MOST_RAINS];
        private int cells;
        private int strips;
        private int deeds;
        private int rains;
        private int milk;
        private int sight;
        private Law law = new Law();

        private Common() {
            forget();
        }

        private void forget() {
            cells = 0;
            strips = 0;
            deeds = 0;
            rains = 0;
            milk = 5;
            sight = 1;
            law.becomePlain();
        }

        void read(Tape tape) {
            forget();
            for (int clauses = 0; clauses <= MOST_CLAUSES && tape.peek() != Tape.END; clauses++) {
                readClause(tape, clauses);
            }
        }

        private void readClause(Tape tape, int clauses) {
            tape.takeWord();
            int kind = kindNamed(tape);
            if (kind == NONE) {
                tape.failAtWord(FAULT_SIGN);
            } else if (clauses >= MOST_CLAUSES || isFull(kind)) {
                tape.failAtWord(FAULT_MANY);
            } else {
                readKind(tape, kind);
                tape.takeSign(';');
            }
        }

        private static int kindNamed(Tape tape) {
            return tape.isWord("cell") ? CELL : tape.isWord("strip") ? STRIP : tape.isWord("deed") ? DEED
                    : tape.isWord("rain") ? RAIN : tape.isWord("milk") ? MILK : tape.isWord("sight") ? SIGHT : NONE;
        }

        private boolean isFull(int kind) {
            return kind == CELL && cells >= MOST_CELLS || kind == STRIP && strips >= MOST_STRIPS
                    || kind == DEED && deeds >= MOST_DEEDS || kind == RAIN && rains >= MOST_RAINS;
        }

        private void readKind(Tape tape, int kind) {
            switch (kind) {
                case CELL:
                    sun[cells] = tape.takeNumber(0, 9);
                    cells++;
                    break;
                case STRIP:
                    yards[strips] = tape.takeNumber(1, MOST_YARDS);
                    greyAtFirst[strips] = tape.takeNumber(1, MOST_GREY);
                    strips++;
                    break;
                case DEED:
                    deedYards[deeds] = tape.takeNumber(1, 9);
                    deeds++;
                    break;
                case RAIN:
                    rain[rains] = tape.takeNumber(0, 9);
                    rains++;
                    break;
                case MILK:
                    milk = tape.takeNumber(0, 99);
                    break;
                default:
                    sight = tape.takeNumber(0, 4);
                    break;
            }
        }

        int rainOf(int day) {
            return rains <= 0 || day < 0 ? 0 : rain[day % rains];
        }

        int sunOf(int first, int many) {
            int all = 0;
            for (int cell = first; cell >= 0 && cell < first + many && cell < cells; cell++) {
                all += sun[cell];
            }
            return all;
        }

        int yardsOf(int set) {
            int all = 0;
            for (int strip = 0; strip < strips; strip++) {
                all += (set >> strip & 1) * yards[strip];
            }
            return all;
        }

        int yardsOfDeeds(int set) {
            int all = 0;
            for (int deed = 0; deed < deeds; deed++) {
                all += (set >> deed & 1) * deedYards[deed];
            }
            return all;
        }

        boolean sees(int box, int cell) {
            return Math.abs(box - cell) <= sight;
        }

        int seenFrom(int set) {
            int out = 0;
            for (int box = 0; box < cells; box++) {
                if ((set >> box & 1) == 1) {
                    int from = Math.max(0, box - sight);
                    int to = Math.min(cells - 1, box + sight);
                    out |= rowBits(from, to - from + 1);
                }
            }
            return out;
        }
    }

    /** A law, its signs put behind what they join, so that it is counted out from left to right on a stack. */
    private static final class Law {
        static final int SUN = 0;
        static final int YARDS = 1;
        static final int GREY = 2;
        static final int RAIN = 3;
        static final int WET = 4;
        static final int MILK = 5;
        static final int DAY = 6;
        static final int FIRST = 7;
        private static final int FACTS = 8;
        private static final int MOST_NUMBER = 999;
        private static final int FACT = 1000;
        private static final int PLUS = 2000;
        private static final int MINUS = 2001;
        private static final int TIMES = 2002;
        private static final int BY = 2003;
        private static final int REST = 2004;
        private static final int LEAST = 2005;
        private static final int MOST = 2006;

        private final int[] facts = new int[FACTS];
        private final int[] code = new int[LAW_BYTES];
        private final int[] stack = new int[LAW_BYTES];
        private int size;

        private Law() {
            becomePlain();
        }

        /** Sun / yards + rain + wet * 2. */
        void becomePlain() {
            size = 0;
            add(FACT + SUN);
            add(FACT + YARDS);
            add(BY);
            add(FACT + RAIN);
            add(PLUS);
            add(FACT + WET);
            add(2);
            add(TIMES);
            add(PLUS);
        }

        void read(Tape tape) {
            size = 0;
            readSum(tape, 0);
            tape.takeEnd();
        }

        private void add(int sign) {
            if (size < code.length) {
                code[size] = sign;
                size++;
            }
        }

        private void readSum(Tape tape, int open) {
            readProduct(tape, open);
            for (int i = 0; i < LAW_BYTES; i++) {
                int sign = tape.peek();
                if (sign != '+' && sign != '-') {
                    return;
                }
                tape.skipSign();
                readProduct(tape, open);
                add(sign == '+' ? PLUS : MINUS);
            }
        }

        private void readProduct(Tape tape, int open) {
            readUnit(tape, open);
            for (int i = 0; i < LAW_BYTES; i++) {
                int sign = tape.peek();
                if (sign != '*' && sign != '/' && sign != '%') {
                    return;
                }
                tape.skipSign();
                readUnit(tape, open);
                add(sign == '*' ? TIMES : sign == '/' ? BY : REST);
            }
        }

        private void readUnit(Tape tape, int open) {
            if (tape.isDigitNext()) {
                add(tape.takeNumber(0, MOST_NUMBER));
                return;
            }
            boolean bracket = tape.peek() == '(';
            tape.takeWord();
            int fact = factNamed(tape);
            boolean pair = tape.isWord("least") || tape.isWord("most");
            if (fact != NONE) {
                add(FACT + fact);
            } else if (!bracket && !pair) {
                tape.failAtWord(FAULT_SIGN);
            } else if (open >= MOST_OPEN) {
                tape.failAtWord(FAULT_MANY);
            } else if (bracket) {
                tape.takeSign('(');
                readSum(tape, open + 1);
                tape.takeSign(')');
            } else {
                readPair(tape, open + 1, tape.isWord("least") ? LEAST : MOST);
            }
        }

        private void readPair(Tape tape, int open, int sign) {
            tape.takeSign('[');
            readSum(tape, open);
            tape.takeSign(',');
            readSum(tape, open);
            tape.takeSign(']');
            add(sign);
        }

        private static int factNamed(Tape tape) {
            return tape.isWord("sun") ? SUN : tape.isWord("yards") ? YARDS : tape.isWord("grey") ? GREY
                    : tape.isWord("rain") ? RAIN : tape.isWord("wet") ? WET : tape.isWord("milk") ? MILK
                    : tape.isWord("day") ? DAY : tape.isWord("first") ? FIRST : NONE;
        }

        int whitens() {
            int top = 0;
            for (int i = 0; i < size; i++) {
                int sign = code[i];
                if (sign >= PLUS) {
                    if (top < 2) {
                        return 0;
                    }
                    top--;
                    stack[top - 1] = joined(sign, stack[top - 1], stack[top]);
                } else if (top < stack.length) {
                    stack[top] = sign < FACT ? sign : facts[sign - FACT];
                    top++;
                }
            }
            return top == 0 ? 0 : Math.max(0, Math.min(99, stack[0]));
        }

        private static int joined(int sign, int a, int b) {
            switch (sign) {
                case PLUS: return a + b;
                case MINUS: return a - b;
                case TIMES: return a * b;
                case BY: return b == 0 ? 0 : a / b;
                case REST: return b == 0 ? 0 : a % b;
                case LEAST: return a < b ? a : b;
                default: return a > b ? a : b;
            }
        }
    }

    /** The steps of one work, an again ahead of its own steps and with the place behind them. */
    private static final class Program {
        private static final int LAY = 1;
        private static final int FOLD = 2;
        private static final int WET = 3;
        private static final int MILK = 4;
        private static final int MOLE = 5;
        private static final int DAY = 6;
        private static final int AGAIN = 7;
        private static final int MOST_TIMES = 30;
        private static final int MOST_BEGUN = 200;

        private final int[] kind = new int[WORK_BYTES];
        private final int[] what = new int[WORK_BYTES];
        private final int[] where = new int[WORK_BYTES];
        private final int[] behind = new int[WORK_BYTES];
        private int size;
        private int begun;
        private int done;
        private int refused;

        void read(Tape tape, Common common) {
            size = 0;
            readSteps(tape, common, 0);
        }

        private void readSteps(Tape tape, Common common, int open) {
            for (int i = 0; i < WORK_BYTES; i++) {
                int sign = tape.peek();
                if (sign == Tape.END || open > 0 && sign == ']') {
                    return;
                }
                readStep(tape, common, open);
                tape.takeSign(';');
            }
        }

        private void readStep(Tape tape, Common common, int open) {
            tape.takeWord();
            int step = kindNamed(tape);
            if (step == NONE) {
                tape.failAtWord(FAULT_SIGN);
            } else if (step == AGAIN) {
                readAgain(tape, common, open);
            } else {
                int a = step == DAY ? 0 : tape.takeNumber(0, (step == MOLE ? common.cells : common.strips) - 1);
                int b = step == LAY ? tape.takeNumber(0, common.cells - 1) : 0;
                add(step, a, b);
            }
        }

        private void readAgain(Tape tape, Common common, int open) {
            if (open >= MOST_OPEN) {
                tape.failAtWord(FAULT_MANY);
                return;
            }
            int times = tape.takeNumber(0, MOST_TIMES);
            int place = add(AGAIN, times, 0);
            tape.takeSign('[');
            readSteps(tape, common, open + 1);
            tape.takeSign(']');
            behind[place] = size;
        }

        private static int kindNamed(Tape tape) {
            return tape.isWord("lay") ? LAY : tape.isWord("fold") ? FOLD : tape.isWord("wet") ? WET
                    : tape.isWord("milk") ? MILK : tape.isWord("mole") ? MOLE : tape.isWord("day") ? DAY
                    : tape.isWord("again") ? AGAIN : NONE;
        }

        /** The place is in the rows always: a text has fewer steps than bytes. */
        private int add(int step, int a, int b) {
            int place = Math.min(size, kind.length - 1);
            kind[place] = step;
            what[place] = a;
            where[place] = b;
            behind[place] = place + 1;
            size = place + 1;
            return place;
        }

        void run(Linen linen, Common common) {
            begun = 0;
            done = 0;
            refused = 0;
            runSteps(linen, common, 0, size, 0);
        }

        private void runSteps(Linen linen, Common common, int from, int to, int open) {
            for (int i = from; i < to && begun < MOST_BEGUN; i++) {
                begun++;
                if (kind[i] == AGAIN) {
                    runAgain(linen, common, i, open + 1);
                    i = Math.max(i, behind[i] - 1);
                } else if (runStep(linen, common, i)) {
                    done++;
                } else {
                    refused++;
                }
            }
        }

        private void runAgain(Linen linen, Common common, int place, int open) {
            for (int k = 0; k < what[place] && begun < MOST_BEGUN && open <= MOST_OPEN; k++) {
                runSteps(linen, common, place + 1, behind[place], open);
            }
        }

        private boolean runStep(Linen linen, Common common, int i) {
            switch (kind[i]) {
                case LAY: return linen.lay(common, what[i], where[i]);
                case FOLD: return linen.fold(what[i]);
                case WET: return linen.wet(what[i]);
                case MILK: return linen.giveMilk(what[i]);
                case MOLE: return linen.dig(common, what[i]);
                default:
                    if (linen.day >= LAST_DAY) {
                        return false;
                    }
                    linen.passDay(common, common.rainOf(linen.day));
                    return true;
            }
        }
    }

    /** All that work changes. */
    private static final class Linen {
        private final int[] grey = new int[MOST_STRIPS];
        private final int[] first = new int[MOST_STRIPS];
        private final int[] wets = new int[MOST_STRIPS];
        private final int[] milked = new int[MOST_STRIPS];
        private int day;
        private int milkLeft;

        void begin(Common common) {
            day = 0;
            milkLeft = common.milk;
            for (int strip = 0; strip < MOST_STRIPS; strip++) {
                grey[strip] = common.greyAtFirst[strip];
                first[strip] = NONE;
                wets[strip] = 0;
                milked[strip] = 0;
            }
        }

        void copy(Linen other) {
            System.arraycopy(other.grey, 0, grey, 0, MOST_STRIPS);
            System.arraycopy(other.first, 0, first, 0, MOST_STRIPS);
            System.arraycopy(other.wets, 0, wets, 0, MOST_STRIPS);
            System.arraycopy(other.milked, 0, milked, 0, MOST_STRIPS);
            day = other.day;
            milkLeft = other.milkLeft;
        }

        boolean lay(Common common, int strip, int cell) {
            if (first[strip] != NONE || !hasRoom(common, strip, cell)) {
                return false;
            }
            first[strip] = cell;
            return true;
        }

        boolean fold(int strip) {
            if (first[strip] == NONE) {
                return false;
            }
            first[strip] = NONE;
            wets[strip] = 0;
            milked[strip] = 0;
            return true;
        }

        boolean wet(int strip) {
            if (first[strip] == NONE || wets[strip] >= MOST_WETS) {
                return false;
            }
            wets[strip]++;
            return true;
        }

        boolean giveMilk(int strip) {
            if (first[strip] == NONE || milked[strip] == 1 || milkLeft <= 0) {
                return false;
            }
            milked[strip] = 1;
            milkLeft--;
            return true;
        }

        boolean dig(Common common, int cell) {
            int strip = lyingOn(common, cell);
            if (strip == NONE) {
                return false;
            }
            grey[strip] = Math.min(MOST_GREY, grey[strip] + 5);
            return true;
        }

        void passDay(Common common, int rain) {
            for (int strip = 0; strip < common.strips; strip++) {
                if (first[strip] != NONE && grey[strip] > 0) {
                    grey[strip] = Math.max(0, grey[strip] - whitensNow(common, strip, rain));
                }
                wets[strip] = 0;
                milked[strip] = 0;
            }
            day++;
        }

        /** Whether a strip, were it folded, could lie there: its own cells are as free as the others. */
        boolean hasRoom(Common common, int strip, int cell) {
            int end = cell + common.yards[strip];
            if (end > common.cells) {
                return false;
            }
            for (int o = 0; o < common.strips; o++) {
                boolean apart = first[o] == NONE || first[o] >= end || first[o] + common.yards[o] <= cell;
                if (o != strip && !apart) {
                    return false;
                }
            }
            return true;
        }

        int lyingOn(Common common, int cell) {
            for (int strip = 0; strip < common.strips; strip++) {
                if (first[strip] != NONE && first[strip] <= cell && cell < first[strip] + common.yards[strip]) {
                    return strip;
                }
            }
            return NONE;
        }

        int lainBits(Common common) {
            int bits = 0;
            for (int strip = 0; strip < common.strips; strip++) {
                bits |= first[strip] == NONE ? 0 : rowBits(first[strip], common.yards[strip]);
            }
            return bits;
        }

        int lyingCount(Common common) {
            int many = 0;
            for (int strip = 0; strip < common.strips; strip++) {
                many += first[strip] == NONE ? 0 : 1;
            }
            return many;
        }

        int whiteBits(Common common) {
            int bits = 0;
            for (int strip = 0; strip < common.strips; strip++) {
                bits |= grey[strip] == 0 ? 1 << strip : 0;
            }
            return bits;
        }

        int whiteYardsNow(Common common) {
            return common.yardsOf(whiteBits(common));
        }

        int greyOfAll(Common common) {
            int all = 0;
            for (int strip = 0; strip < common.strips; strip++) {
                all += grey[strip];
            }
            return all;
        }

        int whitensNow(Common common, int strip, int rain) {
            if (first[strip] == NONE) {
                return 0;
            }
            int[] facts = factsAt(common, strip, first[strip]);
            facts[Law.RAIN] = rain;
            facts[Law.WET] = wets[strip];
            facts[Law.MILK] = milked[strip];
            return common.law.whitens();
        }

        int whitensDry(Common common, int strip, int cell) {
            factsAt(common, strip, cell);
            return common.law.whitens();
        }

        /** The law's facts of a strip that would lie there today, dry and without buttermilk. */
        int[] factsAt(Common common, int strip, int cell) {
            int[] facts = common.law.facts;
            facts[Law.SUN] = common.sunOf(cell, common.yards[strip]);
            facts[Law.YARDS] = common.yards[strip];
            facts[Law.GREY] = grey[strip];
            facts[Law.RAIN] = common.rainOf(day);
            facts[Law.WET] = 0;
            facts[Law.MILK] = 0;
            facts[Law.DAY] = day;
            facts[Law.FIRST] = cell;
            return facts;
        }
    }

    /** How the linen was ahead of each work that was not undone. */
    private static final class Past {
        private final Linen[] before = new Linen[MOST_WORKS];
        private int count;

        private Past() {
            for (int i = 0; i < before.length; i++) {
                before[i] = new Linen();
            }
        }

        void add(Linen linen) {
            if (count < before.length) {
                before[count].copy(linen);
                count++;
            }
        }

        boolean takeLatest(Linen into) {
            if (count <= 0) {
                return false;
            }
            count--;
            into.copy(before[count]);
            return true;
        }

        void copy(Past other) {
            for (int i = 0; i < other.count && i < before.length; i++) {
                before[i].copy(other.before[i]);
            }
            count = other.count;
        }
    }

    private static final class Sayings {
        private int lines;
        private int done;
        private int undone;

        void forget() {
            lines = 0;
            done = 0;
            undone = 0;
        }

        void read(Tape tape, Common common) {
            forget();
            for (int i = 0; i < SAYING_BYTES && tape.peek() != Tape.END; i++) {
                int place = tape.at;
                int deed = tape.takeNumber(0, common.deeds - 1);
                if (speaksOf(deed)) {
                    tape.fail(FAULT_NUMBER, place);
                }
                int wasDone = tape.takeNumber(0, 1);
                tape.takeSign(';');
                done |= wasDone << deed;
                undone |= (1 - wasDone) << deed;
                lines++;
            }
        }

        boolean speaksOf(int deed) {
            return ((done | undone) >> deed & 1) == 1;
        }

        boolean agreeWith(int set) {
            return (done & ~set) == 0 && (undone & set) == 0;
        }
    }

    /** Strips laid so that most grey is gone: by the cells lain on, the best of the strips from one on. */
    private static final class Packing {
        private static final int SETS = 1 << MOST_CELLS;
        private static final int FOLDED = 15;

        private final int[] best = new int[SETS];
        private final int[] choices = new int[SETS];
        private final int[] gone = new int[MOST_CELLS];
        private final int[] place = new int[MOST_STRIPS];

        int find(Common common, Linen linen, int told) {
            for (int lain = 0; lain < SETS; lain++) {
                best[lain] = 0;
            }
            for (int strip = common.strips - 1; strip >= 0; strip--) {
                if ((told >> strip & 1) == 1) {
                    weigh(common, linen, strip);
                    chooseAll(common, strip, common.yardsOf(told & ((1 << strip) - 1)));
                }
            }
            trace(common, told);
            return best[0];
        }

        private void weigh(Common common, Linen linen, int strip) {
            for (int cell = 0; cell + common.yards[strip] <= common.cells; cell++) {
                gone[cell] = Math.min(linen.whitensDry(common, strip, cell), linen.grey[strip]);
            }
        }

        /**
         * A strip that lies makes the set greater, so from the least set on each one finds those of the strips behind.
         * Strips ahead can't lie on more cells than their yards: sets of more cells are never come to.
         */
        private void chooseAll(Common common, int strip, int yardsAhead) {
            for (int lain = 0; lain < 1 << common.cells; lain++) {
                if (Integer.bitCount(lain) <= yardsAhead) {
                    choose(common, strip, lain);
                }
            }
        }

        /** From the last cell to the first, so that of alike ways the least cell stays, and folded only if it is better. */
        private void choose(Common common, int strip, int lain) {
            int bits = rowBits(0, common.yards[strip]);
            int choice = FOLDED;
            for (int cell = common.cells - common.yards[strip]; cell >= 0; cell--) {
                boolean open = (lain & bits << cell) == 0;
                if (open && gone[cell] + best[lain | bits << cell] >= best[lain]) {
                    best[lain] = gone[cell] + best[lain | bits << cell];
                    choice = cell;
                }
            }
            choices[lain] = choices[lain] & ~(FOLDED << 4 * strip) | choice << 4 * strip;
        }

        private void trace(Common common, int told) {
            int lain = 0;
            for (int strip = 0; strip < common.strips; strip++) {
                int choice = (told >> strip & 1) == 1 ? choices[lain] >> 4 * strip & FOLDED : FOLDED;
                place[strip] = choice == FOLDED ? NONE : choice;
                lain |= choice == FOLDED ? 0 : rowBits(choice, common.yards[strip]);
            }
        }
    }

    /** Wettings dealt out so that most grey is gone: the best of each strip and those behind it, by what is left. */
    private static final class Dealing {
        private static final int ROW = MOST_DEALT + 1;

        private final int[] best = new int[(MOST_STRIPS + 1) * ROW];
        private final int[] choice = new int[MOST_STRIPS * ROW];
        private final int[] gone = new int[MOST_WETS + 1];
        private final int[] given = new int[MOST_STRIPS];

        /** NONE, if that many can't be dealt out. */
        int find(Common common, Linen linen, int n) {
            for (int left = 0; left < ROW; left++) {
                best[common.strips * ROW + left] = left == 0 ? 0 : NONE;
            }
            for (int strip = common.strips - 1; strip >= 0; strip--) {
                int most = weigh(common, linen, strip);
                for (int left = 0; left <= n; left++) {
                    choose(strip, left, Math.min(most, left));
                }
            }
            int left = n;
            for (int strip = 0; strip < common.strips; strip++) {
                given[strip] = choice[strip * ROW + left];
                left -= given[strip];
            }
            return best[n];
        }

        /** How many more a strip can have; what is gone by each number of them. */
        private int weigh(Common common, Linen linen, int strip) {
            gone[0] = 0;
            if (linen.first[strip] == NONE) {
                return 0;
            }
            int[] facts = linen.factsAt(common, strip, linen.first[strip]);
            facts[Law.MILK] = linen.milked[strip];
            int most = MOST_WETS - linen.wets[strip];
            for (int more = 0; more <= most; more++) {
                facts[Law.WET] = linen.wets[strip] + more;
                gone[more] = Math.min(common.law.whitens(), linen.grey[strip]);
            }
            return most;
        }

        private void choose(int strip, int left, int most) {
            int found = NONE;
            int fewest = 0;
            for (int more = 0; more <= most; more++) {
                int behind = best[(strip + 1) * ROW + left - more];
                if (behind != NONE && gone[more] + behind > found) {
                    found = gone[more] + behind;
                    fewest = more;
                }
            }
            best[strip * ROW + left] = found;
            choice[strip * ROW + left] = fewest;
        }
    }

    /** How likely a strip is white, as a fraction: each grey has as many of the sixteens as lead to it. */
    private static final class Odds {
        private long[] ways = new long[MOST_GREY + 1];
        private long[] next = new long[MOST_GREY + 1];
        private long above;
        private long below = 1;

        void find(Common common, Linen linen, int strip, int q, int r, int n) {
            for (int grey = 0; grey <= MOST_GREY; grey++) {
                ways[grey] = grey == linen.grey[strip] ? 1 : 0;
            }
            below = 1;
            for (int day = 0; day < n; day++) {
                passDay(common, linen, strip, day, q, r);
                below *= 16;
            }
            above = ways[0];
            for (int i = 0; i < 4 * n && above % 2 == 0; i++) {
                above /= 2;
                below /= 2;
            }
        }

        private void passDay(Common common, Linen linen, int strip, int day, int q, int r) {
            for (int grey = 0; grey <= MOST_GREY; grey++) {
                next[grey] = 0;
            }
            boolean lies = linen.first[strip] != NONE;
            int[] facts = linen.factsAt(common, strip, linen.first[strip]);
            facts[Law.DAY] = linen.day + day;
            facts[Law.WET] = day == 0 ? linen.wets[strip] : 0;
            facts[Law.MILK] = day == 0 ? linen.milked[strip] : 0;
            for (int grey = 0; grey <= MOST_GREY; grey++) {
                if (ways[grey] > 0) {
                    next[lies ? greyThen(common.law, grey, r) : grey] += ways[grey] * q;
                    next[lies ? greyThen(common.law, grey, 0) : grey] += ways[grey] * (16 - q);
                }
            }
            long[] row = ways;
            ways = next;
            next = row;
        }

        private static int greyThen(Law law, int grey, int rain) {
            law.facts[Law.GREY] = grey;
            law.facts[Law.RAIN] = rain;
            return Math.max(0, grey - law.whitens());
        }
    }

    private static final class Summer {
        private final Linen linen = new Linen();
        private int seed;
        private int moles;
        private int rains;

        void pass(Common common, Linen from, int firstSeed, int days, int q, int m) {
            linen.copy(from);
            seed = firstSeed;
            moles = 0;
            rains = 0;
            for (int i = 0; i < days; i++) {
                int rain = common.rainOf(linen.day);
                if (draw(16) < q) {
                    rain = draw(10);
                    rains++;
                }
                if (draw(16) < m && common.cells > 0) {
                    moles += linen.dig(common, draw(common.cells)) ? 1 : 0;
                }
                linen.passDay(common, rain);
            }
        }

        private int draw(int by) {
            seed = seed * 1103515245 + 12345;
            return by <= 0 ? 0 : (seed >>> 16 & 32767) % by;
        }
    }
}
