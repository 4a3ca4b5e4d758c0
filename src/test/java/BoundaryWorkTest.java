/**
 * The boundary cases of STEPS and DAYS, sentence by sentence as DOC.md has them: ==== 2. of its Terms, and the
 * promises that tell how things stand (8 to 14, 33, 36 to 39).
 */
public final class BoundaryWorkTest {
    private static final Checks C = new Checks("BoundaryWorkTest");
    private static final int NONE = LinenGuilt.NONE;
    private static final String CELLS = "cell 3;cell 7;cell 0;cell 5;cell 5;cell 2;";
    private static final String COMMON = CELLS + "strip 3 30;strip 2 40;strip 1 50;deed 4;deed 9;rain 1;rain 6;milk 2;";

    public static void main(String[] args) {
        steps();
        undoAndTold();
        oneByOne();
        woulds();
        rooms();
        images();
        statusAndCount();
        C.finish();
    }

    private static void work(LinenGuilt x, String text, int done, int refused) {
        C.due("work of '" + text + "'", done, Checks.work(x, text));
        C.due("told(10) behind '" + text + "'", refused, x.told(10));
    }

    /** All that WORK changes, but for the STEPS REFUSED. */
    private static String state(LinenGuilt x) {
        StringBuilder out = new StringBuilder();
        int[] asked = {4, 6, 7, 8, 11};
        for (int what : asked) {
            out.append(x.told(what)).append(' ');
        }
        for (int strip = 0; strip < x.told(1); strip++) {
            for (int what = 1; what < 5; what++) {
                out.append(x.strip(strip, what)).append(' ');
            }
        }
        return out.toString();
    }

    private static void alike(String call, String due, String got) {
        C.due(call + ": due '" + due + "', not '" + got + "'", true, due.equals(got));
    }

    private static String times(int n, String part) {
        return Checks.times(n, part);
    }

    // ---- STEPS and DAYS

    private static void steps() {
        beginning();
        refused();
        twoHundred();
        laying();
        folding();
        wetting();
        buttermilk();
        moles();
        lastDay();
        days();
        white();
    }

    private static void beginning() {
        C.says("It is DAY 0 at first, all STRIPS are folded, dry");
        LinenGuilt x = Checks.told(COMMON);
        C.due("told(4)", 0, x.told(4));
        C.due("told(7)", 0, x.told(7));
        for (int strip = 0; strip < 3; strip++) {
            C.due("strip(" + strip + ", 2)", NONE, x.strip(strip, 2));
            C.due("strip(" + strip + ", 3)", 0, x.strip(strip, 3));
            C.due("strip(" + strip + ", 4)", 0, x.strip(strip, 4));
        }
    }

    private static void refused() {
        C.says("STEPS are done in order");
        work(Checks.told(COMMON), "lay 0 0;wet 0;fold 0;", 3, 0);
        work(Checks.told(COMMON), "fold 0;wet 0;lay 0 0;", 1, 2);
        C.says("one that can't be done is REFUSED, and changes nothing");
        LinenGuilt x = Checks.told(COMMON, "lay 0 0;milk 0;again 9 [wet 0;];lay 2 5;milk 2;");
        String[] those = {"lay 0 0;", "lay 0 3;", "lay 1 2;", "lay 1 5;", "lay 1 4;", "fold 1;", "wet 1;", "milk 1;",
            "wet 0;", "milk 0;", "mole 3;", "mole 4;"};
        String ahead = state(x);
        for (String step : those) {
            work(x, step, 0, 1);
            alike("behind '" + step + "'", ahead, state(x));
        }
        // a REFUSED one does not keep those behind it from being done
        work(x, "fold 1;fold 0;fold 0;fold 2;", 2, 2);
    }

    private static void twoHundred() {
        C.says("200 STEPS at most are begun by one WORK");
        String many = "again 9 [again 20 [day;];];";
        work(Checks.told(""), many + times(9, "day;"), 189, 0);
        work(Checks.told(""), many + times(10, "day;"), 190, 0);
        work(Checks.told(""), many + times(11, "day;"), 190, 0);
        LinenGuilt x = Checks.told("", many + times(20, "day;"));
        work(x, many + times(20, "day;"), 190, 0);
        C.due("DAYS of two WORKS", 380, x.told(4));
        C.says("(an again, too, each time it is come to; REFUSED ones, too)");
        // 1 and 9 times 21 are begun, though no STEP is done
        String none = "again 9 [again 20 [again 0 [];];];";
        work(Checks.told(""), none + times(9, "day;"), 9, 0);
        work(Checks.told(""), none + times(10, "day;"), 10, 0);
        work(Checks.told(""), none + times(11, "day;"), 10, 0);
        work(Checks.told(""), none + times(9, "day;") + "again 9 [day;];", 9, 0);
        work(Checks.told(""), none + times(8, "day;") + "again 9 [day;];", 9, 0);
        work(Checks.told(COMMON), "again 7 [again 27 [fold 0;];];lay 0 0;lay 1 3;day;", 3, 189);
        work(Checks.told(COMMON), "again 7 [again 27 [fold 0;];];wet 0;lay 0 0;lay 1 3;day;", 2, 190);
        C.says("what would come behind is left out");
        LinenGuilt y = Checks.told(COMMON);
        work(y, "again 20 [again 9 [fold 0;];];day;lay 0 0;", 0, 179);
        C.due("told(4)", 0, y.told(4));
        C.due("told(7)", 0, y.told(7));
        work(y, "again 30 [again 30 [again 30 [again 30 [again 30 [again 30 [day;];];];];];];", 188, 0);
    }

    private static void laying() {
        C.says("lay: STRIP P lies on CELL X and those behind it, as many as its YARDS");
        LinenGuilt x = Checks.told(COMMON, "lay 1 2;");
        int[] due = {NONE, NONE, 1, 1, NONE, NONE};
        for (int cell = 0; cell < 6; cell++) {
            C.due("cell(" + cell + ", 1)", due[cell], x.cell(cell, 1));
        }
        C.says("(REFUSED, if it lies,");
        work(x, "lay 1 2;lay 1 0;lay 1 4;", 0, 3);
        C.due("strip(1, 2)", 2, x.strip(1, 2));
        C.says("if there are not as many CELLS,");
        work(Checks.told(COMMON), "lay 0 4;", 0, 1);
        work(Checks.told(COMMON), "lay 0 3;", 1, 0);
        work(Checks.told(COMMON), "lay 2 5;", 1, 0);
        work(Checks.told(CELLS + "strip 6 9;"), "lay 0 1;lay 0 0;", 1, 1);
        work(Checks.told("cell 1;cell 1;strip 3 9;"), "lay 0 0;lay 0 1;", 0, 2);
        C.says("or another one lies on one of these)");
        work(Checks.told(COMMON, "lay 1 2;"), "lay 0 0;", 0, 1);
        work(Checks.told(COMMON, "lay 1 3;"), "lay 0 0;", 1, 0);
        work(Checks.told(COMMON, "lay 1 2;"), "lay 2 3;lay 2 2;lay 2 4;", 1, 2);
        work(Checks.told(COMMON, "lay 1 2;"), "lay 2 1;", 1, 0);
        work(Checks.told(COMMON, "lay 0 0;"), "lay 1 2;lay 1 3;", 1, 1);
        work(Checks.told(COMMON, "lay 2 1;"), "lay 0 0;", 0, 1);
        work(Checks.told(COMMON, "lay 1 2;fold 1;"), "lay 0 0;", 1, 0);
    }

    private static void folding() {
        C.says("fold: it is folded (REFUSED, if it is)");
        LinenGuilt x = Checks.told(COMMON, "lay 0 0;wet 0;milk 0;lay 1 3;wet 1;milk 1;");
        work(x, "fold 0;fold 0;fold 2;", 1, 2);
        C.due("strip(0, 2)", NONE, x.strip(0, 2));
        C.due("cell(0, 1)", NONE, x.cell(0, 1));
        C.says("dry then, without buttermilk");
        C.due("wetted, folded", 0, x.strip(0, 3));
        C.due("buttermilk, folded", 0, x.strip(0, 4));
        work(x, "lay 0 0;", 1, 0);
        C.due("wetted, laid again", 0, x.strip(0, 3));
        C.due("buttermilk, laid again", 0, x.strip(0, 4));
        C.due("wetted, the other", 1, x.strip(1, 3));
        C.due("buttermilk, the other", 1, x.strip(1, 4));
        C.due("told(6)", 0, x.told(6));
    }

    private static void wetting() {
        C.says("wet (REFUSED, if it is folded, was wetted 9 times this DAY)");
        LinenGuilt x = Checks.told(COMMON, "lay 1 3;");
        work(x, "wet 0;", 0, 1);
        work(x, "again 8 [wet 1;];", 8, 0);
        work(x, "wet 1;", 1, 0);
        C.due("strip(1, 3)", 9, x.strip(1, 3));
        work(x, "wet 1;", 0, 1);
        C.due("strip(1, 3)", 9, x.strip(1, 3));
        work(x, "day;again 10 [wet 1;];", 10, 1);
        work(x, "fold 1;lay 1 3;again 10 [wet 1;];", 11, 1);
    }

    private static void buttermilk() {
        C.says("milk: it has buttermilk this DAY (REFUSED, if it is folded, has it, or none is left)");
        LinenGuilt x = Checks.told(COMMON, "lay 0 0;lay 1 3;lay 2 5;");
        work(x, "milk 0;", 1, 0);
        C.due("strip(0, 4)", 1, x.strip(0, 4));
        C.due("strip(1, 4)", 0, x.strip(1, 4));
        C.due("told(6)", 1, x.told(6));
        work(x, "milk 0;", 0, 1);
        C.due("told(6), refused", 1, x.told(6));
        work(x, "fold 2;milk 2;lay 2 5;", 2, 1);
        C.due("told(6), refused", 1, x.told(6));
        work(x, "milk 1;milk 2;", 1, 1);
        C.due("told(6), none is left", 0, x.told(6));
        C.due("strip(2, 4)", 0, x.strip(2, 4));
        work(Checks.told("cell 1;strip 1 9;milk 0;"), "lay 0 0;milk 0;", 1, 1);
    }

    private static void moles() {
        C.says("mole: what lies on CELL X is greyer by 5 (99 at most; REFUSED, if nothing does)");
        LinenGuilt x = Checks.told("cell 0;cell 0;cell 0;cell 0;strip 2 89;strip 1 3;rain 9;", "lay 0 1;");
        work(x, "mole 0;mole 3;", 0, 2);
        work(x, "mole 1;", 1, 0);
        C.due("from 89", 94, x.strip(0, 1));
        C.due("the folded one", 3, x.strip(1, 1));
        work(x, "mole 2;", 1, 0);
        C.due("from 94", 99, x.strip(0, 1));
        work(x, "mole 2;", 1, 0);
        C.due("from 99", 99, x.strip(0, 1));
        LinenGuilt y = Checks.told("cell 0;strip 1 95;", "lay 0 0;mole 0;");
        C.due("from 95", 99, y.strip(0, 1));
        work(x, "lay 1 0;day;mole 0;", 3, 0);
        C.due("from WHITE", 5, x.strip(1, 1));
        work(x, "fold 0;mole 1;", 1, 1);
    }

    /** It is DAY 500 then; a WORK begins 200 STEPS at most. */
    private static LinenGuilt onDay500(String common) {
        LinenGuilt x = Checks.told(common);
        for (int i = 0; i < 5; i++) {
            C.due("a hundred DAYS", 100, Checks.work(x, "again 10 [again 10 [day;];];"));
        }
        return x;
    }

    private static void lastDay() {
        C.says("day (REFUSED from 500 on)");
        LinenGuilt x = onDay500("cell 1;strip 1 9;rain 1;rain 2;rain 3;");
        C.due("told(4)", 500, x.told(4));
        work(x, "day;", 0, 1);
        C.due("told(4)", 500, x.told(4));
        work(x, "lay 0 0;wet 0;day;day;", 2, 2);
        C.due("strip(0, 1) is not less grey", 9, x.strip(0, 1));
        C.due("strip(0, 3) is not dry", 1, x.strip(0, 3));
        x.undo();
        x.undo();
        C.due("five WORKS less one", 4, x.undo());
        C.due("told(4)", 400, x.told(4));
        work(x, "again 10 [again 10 [day;];];day;", 100, 1);
    }

    private static void days() {
        C.says("each STRIP that lies is less grey by what it WHITENS (0 at least)");
        LinenGuilt x = Checks.told("cell 5;cell 5;cell 5;strip 1 5;strip 1 6;strip 1 4;strip 1 4;",
                "lay 0 0;lay 1 1;lay 2 2;");
        work(x, "day;", 1, 0);
        C.due("as much as its GREY", 0, x.strip(0, 1));
        C.due("less than its GREY", 1, x.strip(1, 1));
        C.due("more than its GREY", 0, x.strip(2, 1));
        C.due("a folded one", 4, x.strip(3, 1));
        work(x, "day;", 1, 0);
        C.due("WHITE as it was", 0, x.strip(0, 1));
        Checks.law(x, "0-7");
        work(x, "mole 1;day;", 2, 0);
        C.due("a LAW of less than 0", 5, x.strip(1, 1));
        C.says("all are dry, without buttermilk; it is the next DAY");
        LinenGuilt y = Checks.told(COMMON, "lay 0 0;wet 0;milk 0;lay 1 3;wet 1;milk 1;");
        work(y, "day;", 1, 0);
        for (int strip = 0; strip < 2; strip++) {
            C.due("strip(" + strip + ", 3)", 0, y.strip(strip, 3));
            C.due("strip(" + strip + ", 4)", 0, y.strip(strip, 4));
            C.due("strip(" + strip + ", 2)", 3 * strip, y.strip(strip, 2));
        }
        C.due("told(4)", 1, y.told(4));
        C.due("told(5)", 6, y.told(5));
        C.due("told(6) is not given back", 0, y.told(6));
    }

    private static void white() {
        C.says("WHITE: of GREY 0");
        LinenGuilt x = Checks.told("cell 5;cell 5;strip 1 5;strip 1 6;", "lay 0 0;lay 1 1;day;");
        C.due("told(8) of GREY 0 and 1", 1, x.told(8));
        work(x, "fold 0;day;", 2, 0);
        C.due("told(8), one of them folded", 3, x.told(8));
        work(x, "mole 1;", 1, 0);
        C.due("told(8) behind a mole", 1, x.told(8));
    }

    // ---- undo and told

    private static void undoAndTold() {
        C.says("The latest WORK that was done (of no STEPS, or with all of them REFUSED, too) is undone: how many are left");
        LinenGuilt x = Checks.told(COMMON);
        String first = state(x);
        work(x, "lay 0 0;wet 0;milk 0;", 3, 0);
        String second = state(x);
        work(x, "", 0, 0);
        work(x, "fold 2;fold 2;", 0, 2);
        work(x, "day;mole 0;lay 1 3;fold 0;", 4, 0);
        Checks.work(x, "day;day;fold 9;");
        C.due("undo()", 3, x.undo());
        alike("behind it", second, state(x));
        C.due("undo() of REFUSED ones", 2, x.undo());
        alike("behind it", second, state(x));
        C.due("undo() of no STEPS", 1, x.undo());
        alike("behind it", second, state(x));
        C.due("undo() of the first", 0, x.undo());
        alike("behind it", first, state(x));
        C.says("-1: there is none");
        C.due("undo()", -1, x.undo());
        alike("behind it", first, state(x));
        C.due("count(2)", 0, x.count(2));
        C.due("undo() of a new one", -1, new LinenGuilt().undo());
        told();
        stepsRefused();
    }

    private static void told() {
        C.says("0 CELLS, 1 STRIPS, 2 DEEDS, 3 RAINS, 4 the DAY, 5 its rain, 6 buttermilk that is left, 7 STRIPS that lie");
        LinenGuilt x = Checks.told(COMMON, "day;lay 0 0;lay 1 3;milk 1;");
        Checks.sayings(x, "1 0;0 1;");
        int[] due = {6, 3, 2, 2, 1, 6, 1, 2, 0, 2, 0, 120};
        for (int what = 0; what < 12; what++) {
            C.due("told(" + what + ")", due[what], x.told(what));
        }
        C.says("IllegalArgumentException: another what (so below)");
        C.wrong("told(-1)", x, () -> x.told(-1));
        C.wrong("told(12)", x, () -> x.told(12));
        C.wrong("told(greatest of all)", x, () -> x.told(Integer.MAX_VALUE));
        C.wrong("told(least of all)", x, () -> x.told(Integer.MIN_VALUE));
        C.says("7 STRIPS that lie, 8 WHITE ones (bits)");
        LinenGuilt all = Checks.told(times(6, "cell 9;") + times(6, "strip 1 9;"), "lay 0 0;lay 2 2;lay 5 5;day;");
        C.due("told(7)", 3, all.told(7));
        C.due("told(8)", 1 + 4 + 32, all.told(8));
        C.says("11 GREY of all together");
        C.due("told(11), folded ones too", 27, all.told(11));
    }

    private static void stepsRefused() {
        C.says("10 STEPS REFUSED by the latest WORK (0 ahead of any, behind common() without a FAULT, undo(), restore(); "
                + "a FAULT, -20, -1 leave it)");
        LinenGuilt x = new LinenGuilt();
        C.due("ahead of any", 0, x.told(10));
        Checks.common(x, COMMON);
        work(x, "fold 0;fold 0;", 0, 2);
        Checks.common(x, "cell 1;x");
        C.due("behind a FAULT of common()", 2, x.told(10));
        Checks.law(x, "x");
        C.due("behind a FAULT of law()", 2, x.told(10));
        Checks.law(x, "1");
        C.due("behind law()", 2, x.told(10));
        Checks.sayings(x, "0 1;");
        C.due("behind sayings()", 2, x.told(10));
        Checks.work(x, "fold 0;x");
        C.due("behind a FAULT of work()", 2, x.told(10));
        C.due("restore()", -1, x.restore());
        C.due("behind -1 of restore()", 2, x.told(10));
        x.image();
        C.due("behind image()", 2, x.told(10));
        C.due("restore()", 0, x.restore());
        C.due("behind restore()", 0, x.told(10));
        work(x, "fold 0;", 0, 1);
        C.due("undo()", 1, x.undo());
        C.due("behind undo()", 0, x.told(10));
        work(x, "fold 0;fold 0;fold 0;", 0, 3);
        Checks.common(x, COMMON);
        C.due("behind common()", 0, x.told(10));
        C.due("undo()", -1, x.undo());
        behindMinusOnes(x);
    }

    private static void behindMinusOnes(LinenGuilt x) {
        work(x, "", 0, 0);
        for (int i = 0; i < 14; i++) {
            x.work(0);
        }
        work(x, "fold 0;", 0, 1);
        C.due("a 17th", -20, Checks.work(x, "fold 0;fold 0;"));
        C.due("behind -20", 1, x.told(10));
        for (int i = 0; i < 3; i++) {
            x.image();
        }
        C.due("a 4th image()", -1, x.image());
        C.due("behind -1 of image()", 1, x.told(10));
        LinenGuilt y = Checks.told(COMMON, "lay 0 0;");
        y.image();
        y.undo();
        work(y, "fold 0;", 0, 1);
        y.restore();
        y.undo();
        C.due("undo()", -1, y.undo());
        C.due("behind both", 0, y.told(10));
    }

    // ---- a CELL, a STRIP, a DEED

    private static void oneByOne() {
        LinenGuilt x = Checks.told(COMMON, "lay 1 3;again 9 [wet 1;];milk 1;");
        C.says("0 its SUN, 1 the STRIP that lies on it (NONE)");
        C.due("cell(0, 0)", 3, x.cell(0, 0));
        C.due("cell(5, 0)", 2, x.cell(5, 0));
        C.due("cell(2, 1)", NONE, x.cell(2, 1));
        C.due("cell(3, 1)", 1, x.cell(3, 1));
        C.due("cell(4, 1)", 1, x.cell(4, 1));
        C.due("cell(5, 1)", NONE, x.cell(5, 1));
        LinenGuilt six = Checks.told(times(7, "cell 1;") + times(6, "strip 1 9;"),
                "lay 0 0;lay 1 1;lay 2 2;lay 3 3;lay 4 4;lay 5 5;");
        C.due("cell(5, 1) of six that lie", 5, six.cell(5, 1));
        C.due("cell(6, 1) of six that lie", NONE, six.cell(6, 1));
        C.wrong("cell(0, 2)", x, () -> x.cell(0, 2));
        C.wrong("cell(0, -1)", x, () -> x.cell(0, -1));
        C.says("NoSuchElementException: no such CELL, STRIP, DEED (so below, ahead of others)");
        C.missing("cell(6, 0)", x, () -> x.cell(6, 0));
        C.missing("cell(-1, 0)", x, () -> x.cell(-1, 0));
        C.missing("cell(6, 9)", x, () -> x.cell(6, 9));
        C.missing("cell(-1, -1)", x, () -> x.cell(-1, -1));
        C.missing("strip(3, 0)", x, () -> x.strip(3, 0));
        C.missing("strip(-1, 0)", x, () -> x.strip(-1, 0));
        C.missing("strip(3, 6)", x, () -> x.strip(3, 6));
        C.missing("deed(2)", x, () -> x.deed(2));
        C.missing("deed(-1)", x, () -> x.deed(-1));
        C.missing("deed(greatest of all)", x, () -> x.deed(Integer.MAX_VALUE));
        C.says("0 YARDS, 1 GREY now, 2 the first CELL it lies on (NONE: folded), 3 how often it was wetted this DAY, "
                + "4 1 buttermilk, 0 not, 5 what it WHITENS this DAY (0: folded)");
        int[] lies = {2, 40, 3, 9, 1, 24};
        int[] folded = {1, 50, NONE, 0, 0, 0};
        for (int what = 0; what < 6; what++) {
            C.due("strip(1, " + what + ")", lies[what], x.strip(1, what));
            C.due("strip(2, " + what + ")", folded[what], x.strip(2, what));
        }
        C.wrong("strip(0, 6)", x, () -> x.strip(0, 6));
        C.wrong("strip(0, -1)", x, () -> x.strip(0, -1));
        Checks.law(x, "99");
        C.due("strip(1, 5), more than its GREY", 99, x.strip(1, 5));
        C.due("strip(2, 5), folded", 0, x.strip(2, 5));
        C.says("Yards of a DEED");
        C.due("deed(0)", 4, x.deed(0));
        C.due("deed(1)", 9, x.deed(1));
    }

    private static void woulds() {
        C.says("sun (0 to 54), yards (1 to 6), grey (0 to 99), rain, wet (0 to 9), milk (0, 1), day (0 to 500), first (0 to 11)");
        String[] names = {"sun", "yards", "grey", "rain", "wet", "milk", "day", "first"};
        int[] least = {0, 1, 0, 0, 0, 0, 0, 0};
        int[] most = {54, 6, 99, 9, 9, 1, 500, 11};
        for (int i = 0; i < 8; i++) {
            LinenGuilt x = Checks.told("cell 1;");
            C.due("law", 1, Checks.law(x, names[i] + "/10 + " + names[i] + "%10"));
            C.due("would, least " + names[i], least[i], would(x, least, i, least[i]));
            C.due("would, most " + names[i], most[i] / 10 + most[i] % 10, would(x, least, i, most[i]));
            C.due("would, most of all", most[i] / 10 + most[i] % 10, would(x, most, i, most[i]));
            int at = i;
            C.wrong("would, less " + names[i], x, () -> would(x, least, at, least[at] - 1));
            C.wrong("would, more " + names[i], x, () -> would(x, most, at, most[at] + 1));
            C.wrong("would, least of all " + names[i], x, () -> would(x, most, at, Integer.MIN_VALUE));
        }
    }

    private static int would(LinenGuilt x, int[] all, int at, int value) {
        int[] v = all.clone();
        v[at] = value;
        return x.would(v[0], v[1], v[2], v[3], v[4], v[5], v[6], v[7]);
    }

    private static void rooms() {
        C.says("Whether a STRIP, were it folded, could lie from a CELL on now");
        LinenGuilt x = Checks.told(COMMON, "lay 1 2;");
        C.due("on its own CELLS", true, x.fits(1, 2));
        C.due("over its own CELLS", true, x.fits(1, 1));
        C.due("over its own CELLS", true, x.fits(1, 3));
        C.due("on the last CELLS", true, x.fits(1, 4));
        C.due("beyond the last CELL", false, x.fits(1, 5));
        C.due("on another's first", false, x.fits(2, 2));
        C.due("on another's last", false, x.fits(2, 3));
        C.due("just ahead of another", true, x.fits(2, 1));
        C.due("just behind another", true, x.fits(2, 4));
        C.due("into another", false, x.fits(0, 0));
        C.due("onto another's last", false, x.fits(0, 3));
        C.due("nothing stays changed", 2, x.strip(1, 2));
        C.missing("fits(3, 0)", x, () -> x.fits(3, 0));
        C.missing("fits(-1, 0)", x, () -> x.fits(-1, 0));
        C.missing("fits(0, 6)", x, () -> x.fits(0, 6));
        C.missing("fits(0, -1)", x, () -> x.fits(0, -1));
        C.missing("fits(9, 9), one refusal", x, () -> x.fits(9, 9));
        C.due("a longer one than all CELLS", false, Checks.told("cell 1;strip 2 9;").fits(0, 0));
        C.says("Wettings that STRIPS that lie can have yet this DAY, together");
        LinenGuilt y = Checks.told(COMMON);
        C.due("spare(), none lies", 0, y.spare());
        Checks.work(y, "lay 0 0;");
        C.due("spare(), one lies", 9, y.spare());
        Checks.work(y, "lay 1 3;wet 1;");
        C.due("spare(), one wetted", 17, y.spare());
        Checks.work(y, "again 9 [wet 0;];again 9 [wet 1;];");
        C.due("spare(), all wetted", 0, y.spare());
        Checks.work(y, "day;");
        C.due("spare(), the next DAY", 18, y.spare());
    }

    // ---- images, status, count

    private static void images() {
        C.says("An IMAGE of all that WORK changes, and of WORKS that can be undone: how many there are; -1: there are 3");
        LinenGuilt x = Checks.told(COMMON);
        String[] was = new String[3];
        String[] works = {"lay 0 0;wet 0;milk 0;", "day;mole 0;lay 1 3;milk 1;", "fold 0;lay 2 0;again 9 [wet 2;];"};
        for (int i = 0; i < 3; i++) {
            Checks.work(x, works[i]);
            was[i] = state(x);
            C.due("image()", i + 1, x.image());
        }
        Checks.work(x, "day;fold 1;");
        C.due("a 4th image()", -1, x.image());
        C.due("count(0)", 3, x.count(0));
        C.says("All that is as in the latest IMAGE, which is gone: how many are left; -1: there is none");
        Checks.law(x, "8");
        Checks.sayings(x, "0 1;");
        for (int i = 2; i >= 0; i--) {
            C.due("restore()", i, x.restore());
            alike("behind it", was[i], state(x));
            C.due("count(2)", i + 1, x.count(2));
            C.due("undo()", i, x.undo());
            Checks.work(x, "day;");
        }
        C.due("restore()", -1, x.restore());
        C.due("count(0)", 0, x.count(0));
        C.due("the LAW stays", 8, x.would(0, 1, 0, 0, 0, 0, 0, 0));
        C.due("SAYINGS stay", 1, x.told(9));
        C.due("image() again", 1, x.image());
        C.due("restore() of a new one", -1, new LinenGuilt().restore());
        imageOfWorks();
    }

    private static void imageOfWorks() {
        LinenGuilt x = Checks.told(COMMON, "lay 0 0;");
        Checks.work(x, "lay 1 3;");
        x.image();
        x.undo();
        x.undo();
        Checks.work(x, "day;");
        Checks.work(x, "day;lay 2 1;");
        Checks.work(x, "day;");
        C.due("restore()", 0, x.restore());
        C.due("undo() of the IMAGE's second WORK", 1, x.undo());
        C.due("told(4)", 0, x.told(4));
        C.due("strip(0, 2)", 0, x.strip(0, 2));
        C.due("told(7)", 1, x.told(7));
        C.due("undo() of the IMAGE's first WORK", 0, x.undo());
        C.due("told(4)", 0, x.told(4));
        C.due("told(7)", 0, x.told(7));
        LinenGuilt y = Checks.told(COMMON);
        for (int i = 0; i < 16; i++) {
            Checks.work(y, "day;");
        }
        y.image();
        for (int i = 0; i < 16; i++) {
            y.undo();
        }
        C.due("restore()", 0, y.restore());
        C.due("a 17th of those that the IMAGE has", -20, Checks.work(y, "day;"));
        for (int i = 15; i >= 0; i--) {
            C.due("undo()", i, y.undo());
            C.due("told(4)", i, y.told(4));
        }
    }

    private static void statusAndCount() {
        C.says("How many calls were refused: 0 NoSuchElementException, 1 IllegalArgumentException; NONE for others");
        LinenGuilt x = Checks.told(COMMON);
        C.due("status(0)", 0, x.status(0));
        C.due("status(1)", 0, x.status(1));
        C.missing("deed(2)", x, () -> x.deed(2));
        C.wrong("told(12)", x, () -> x.told(12));
        C.wrong("common(1)", x, () -> x.common(1));
        C.due("status(0)", 1, x.status(0));
        C.due("status(1)", 2, x.status(1));
        Checks.work(x, "x");
        x.undo();
        C.due("status(1), a FAULT and -1 are no refusals", 2, x.status(1));
        C.due("status(2)", NONE, x.status(2));
        C.due("status(-1)", NONE, x.status(-1));
        C.says("(No IMAGE keeps it.)");
        x.image();
        C.wrong("told(-1)", x, () -> x.told(-1));
        C.missing("deed(-1)", x, () -> x.deed(-1));
        x.restore();
        C.due("status(0)", 2, x.status(0));
        C.due("status(1)", 3, x.status(1));
        Checks.common(x, COMMON);
        C.due("status(0), behind common()", 2, x.status(0));
        C.due("status(1), behind common()", 3, x.status(1));
        C.says("0 IMAGES, 1 bytes of the TAPE, 2 WORKS that can be undone; NONE for others");
        x.image();
        x.work(0);
        x.work(0);
        x.feed(0, 0, 0, 0, 0);
        C.due("count(0)", 1, x.count(0));
        C.due("count(1)", 20, x.count(1));
        C.due("count(2)", 2, x.count(2));
        C.due("count(3)", NONE, x.count(3));
        C.due("count(-1)", NONE, x.count(-1));
    }
}
