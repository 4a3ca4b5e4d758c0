/** Promises 15 to 35: what is asked, by answers counted by hand. */
public final class QuestionsTest {
    private static final Checks C = new Checks("QuestionsTest");
    private static final String COMMON = "cell 3;cell 7;cell 0;cell 5;cell 5;cell 2;strip 2 30;strip 1 4;strip 3 60;"
            + "deed 3;deed 2;deed 5;deed 2;rain 2;rain 0;rain 5;milk 3;sight 1;";

    public static void main(String[] args) {
        daysAhead();
        packing();
        dealing();
        likely();
        deeds();
        boxes();
        thieves();
        shares();
        rows();
        summers();
        fullCommon();
        C.finish();
    }

    private static LinenGuilt laid() {
        return Checks.told(COMMON, "lay 0 3;lay 1 1;");
    }

    private static void daysAhead() {
        LinenGuilt x = laid();
        int[] grey = {94, 83, 78, 68, 61, 60, 60};
        for (int n = 0; n < grey.length; n++) {
            C.due("15: ahead(" + n + ", 0)", grey[n], x.ahead(n, 0));
        }
        C.due("15: WHITE now", 0, x.ahead(0, 1));
        C.due("15: WHITE in one DAY", 2, x.ahead(1, 1));
        C.due("15: WHITE in 99", 3, x.ahead(99, 1));
        C.wrong("15: ahead(100, 0)", x, () -> x.ahead(100, 0));
        C.wrong("15: ahead(-1, 0)", x, () -> x.ahead(-1, 0));
        C.wrong("15: ahead(1, 2)", x, () -> x.ahead(1, 2));
        C.due("16: white(0)", 5, x.white(0));
        C.due("16: white(1)", 1, x.white(1));
        C.due("16: folded", -1, x.white(2));
        C.missing("16: white(3)", x, () -> x.white(3));
        C.missing("16: white(-1)", x, () -> x.white(-1));
        int[] yards = {0, 1, 5, 5, -1};
        for (int n = 0; n < yards.length; n++) {
            C.due("32: whiteYards(" + n + ")", yards[n], x.whiteYards(n));
        }
        C.due("32: whiteYards(36)", -1, x.whiteYards(36));
        C.wrong("32: whiteYards(37)", x, () -> x.whiteYards(37));
        C.wrong("32: whiteYards(-1)", x, () -> x.whiteYards(-1));
        Checks.work(x, "day;");
        C.due("16: WHITE now", 0, x.white(1));
        C.due("32: now", 0, x.whiteYards(1));
        LinenGuilt y = Checks.told("cell 0;strip 1 2;", "lay 0 0;");
        Checks.law(y, "day / 99 * day % 2");
        C.due("16: in exactly 102", 102, y.white(0));
        Checks.law(y, "day / 198");
        C.due("16: in exactly 200", 200, y.white(0));
        C.due("32: in exactly 200", 200, y.whiteYards(1));
        Checks.law(y, "least[day / 199, 1]");
        C.due("16: in 201 is too late", -1, y.white(0));
        C.due("32: in 201 is too late", -1, y.whiteYards(1));
        // wetted and with buttermilk on the first DAY alone
        LinenGuilt z = Checks.told("cell 1;strip 1 20;", "lay 0 0;wet 0;wet 0;milk 0;");
        Checks.law(z, "1 + wet * 3 + milk * 4");
        C.due("15: the first DAY", 9, z.ahead(1, 0));
        C.due("15: the second", 8, z.ahead(2, 0));
        C.due("16: white", 10, z.white(0));
        C.due("15: nothing stays changed", 2, z.strip(0, 3));
    }

    private static void packing() {
        LinenGuilt x = Checks.told(COMMON);
        packed(x, 7, 16, 0, 5, 2);
        packed(x, 3, 11, 0, 3, -1);
        packed(x, 6, 10, -1, 0, 1);
        packed(x, 1, 7, 0, -1, -1);
        packed(x, 0, 0, -1, -1, -1);
        packed(x, 5, 13, 0, -1, 3);
        C.due("18: packed with another pack ahead", 5, x.packed(7, 1));
        Checks.work(x, "lay 2 0;wet 2;milk 2;");
        packed(x, 7, 16, 0, 5, 2);
        // the third DAY's rain, and the GREY that is left
        Checks.work(x, "fold 2;lay 1 1;day;day;");
        packed(x, 3, 10, 0, 2, -1);
        C.wrong("17: pack(8)", x, () -> x.pack(8));
        C.wrong("17: pack(-1)", x, () -> x.pack(-1));
        C.wrong("18: packed(8, 0)", x, () -> x.packed(8, 0));
        C.missing("18: packed(8, 3)", x, () -> x.packed(8, 3));
        C.missing("18: packed(7, -1)", x, () -> x.packed(7, -1));
        C.due("17: nothing stays changed", 1, x.strip(1, 2));
        // one that gains nothing is laid all the same, on the least CELL
        LinenGuilt y = Checks.told("cell 0;cell 0;cell 9;strip 1 9;strip 2 9;");
        packed(y, 3, 9, 2, 0, 0);
        packed(y, 2, 4, -1, 1, 0);
        // a long one stays folded for two short ones
        LinenGuilt z = Checks.told("cell 9;cell 9;strip 2 99;strip 1 50;strip 1 50;");
        packed(z, 7, 18, -1, 0, 1);
        LinenGuilt w = Checks.told("strip 1 1;");
        packed(w, 1, 0, -1, 0, 0);
        LinenGuilt all = Checks.told(Checks.times(12, "cell 9;") + Checks.times(6, "strip 2 99;"));
        C.due("17: pack(63)", 54, all.pack(63));
        for (int strip = 0; strip < 6; strip++) {
            C.due("18: packed(63, " + strip + ")", 2 * strip, all.packed(63, strip));
        }
        // the LAW asks for the first CELL and the DAY
        LinenGuilt v = Checks.told("cell 1;cell 1;cell 1;cell 1;strip 2 50;strip 2 50;");
        Checks.law(v, "first * (1 - day * 2) + day * 7 + wet * 50 + milk * 50");
        packed(v, 3, 2, 0, 2, 0);
        packed(v, 1, 2, 2, -1, 0);
        Checks.work(v, "day;lay 0 0;wet 0;milk 0;");
        C.due("11: WHITENS, wetted and with buttermilk", 99, v.strip(0, 5));
        packed(v, 1, 7, 0, -1, 0);
        C.due("11: WHITENS, wetted and with buttermilk", 99, v.strip(0, 5));
        C.due("30: sunniest, dry", 7, v.sunniest(0, 1));
        // fewer STRIPS than the pack ahead was of
        Checks.common(v, "cell 1;cell 4;strip 1 50;");
        packed(v, 1, 4, 1, 0, 0);
        Checks.common(v, "cell 1;");
        packed(v, 0, 0, 0, 0, 0);
    }

    private static void packed(LinenGuilt x, int strips, int gone, int a, int b, int c) {
        C.due("17: pack(" + strips + ")", gone, x.pack(strips));
        int[] due = {a, b, c};
        for (int strip = 0; strip < x.told(1); strip++) {
            C.due("18: packed(" + strips + ", " + strip + ")", due[strip], x.packed(strips, strip));
        }
    }

    private static void wetted(LinenGuilt x, int n, int gone, int a, int b, int c) {
        C.due("19: wets(" + n + ")", gone, x.wets(n));
        int[] due = {a, b, c};
        for (int strip = 0; strip < x.told(1); strip++) {
            C.due("20: wetted(" + n + ", " + strip + ")", due[strip], x.wetted(n, strip));
        }
    }

    private static void dealing() {
        LinenGuilt x = laid();
        wetted(x, 0, 11, 0, 0, 0);
        wetted(x, 1, 13, 1, 0, 0);
        wetted(x, 9, 29, 9, 0, 0);
        wetted(x, 10, 29, 9, 1, 0);
        wetted(x, 18, 29, 9, 9, 0);
        wetted(x, 19, -1, -1, -1, -1);
        Checks.work(x, "again 7 [wet 0;];");
        wetted(x, 0, 25, 0, 0, 0);
        wetted(x, 3, 29, 2, 1, 0);
        wetted(x, 12, -1, -1, -1, -1);
        C.due("19: nothing stays changed", 7, x.strip(0, 3));
        C.wrong("19: wets(21)", x, () -> x.wets(21));
        C.wrong("19: wets(-1)", x, () -> x.wets(-1));
        C.wrong("20: wetted(21, 0)", x, () -> x.wetted(21, 0));
        C.missing("20: wetted(21, 3)", x, () -> x.wetted(21, 3));
        C.missing("20: wetted(0, -1)", x, () -> x.wetted(0, -1));
        C.due("33: spare()", 2 + 9, x.spare());
        LinenGuilt y = Checks.told("cell 9;cell 9;strip 1 5;strip 1 5;", "lay 0 0;lay 1 1;");
        wetted(y, 3, 10, 0, 3, 0);
        wetted(y, 12, 10, 3, 9, 0);
        C.due("33: spare()", 18, y.spare());
        // a LAW by which wetting harms, and one with buttermilk
        Checks.law(y, "5 - wet");
        wetted(y, 4, 6, 0, 4, 0);
        Checks.law(y, "milk * wet");
        Checks.work(y, "milk 0;");
        wetted(y, 4, 4, 4, 0, 0);
        wetted(y, 6, 5, 5, 1, 0);
        LinenGuilt z = Checks.told(Checks.times(3, "cell 0;") + Checks.times(3, "strip 1 50;"), "lay 0 0;lay 1 1;lay 2 2;");
        wetted(z, 20, 40, 2, 9, 9);
    }

    private static void likely(LinenGuilt x, int strip, int q, int r, int n, long above, long below) {
        String call = "21: likely(" + strip + ", " + q + ", " + r + ", " + n + ", ";
        C.due(call + "0)", above, x.likely(strip, q, r, n, 0));
        C.due(call + "1)", below, x.likely(strip, q, r, n, 1));
    }

    private static void likely() {
        LinenGuilt x = laid();
        likely(x, 0, 8, 5, 0, 0, 1);
        likely(x, 0, 8, 5, 3, 1, 8);
        likely(x, 0, 8, 5, 4, 11, 16);
        likely(x, 0, 8, 5, 5, 31, 32);
        likely(x, 0, 4, 5, 3, 1, 64);
        likely(x, 0, 0, 5, 6, 1, 1);
        likely(x, 0, 0, 5, 5, 0, 1);
        likely(x, 0, 16, 5, 3, 1, 1);
        likely(x, 0, 1, 5, 3, 1, 4096);
        likely(x, 2, 16, 9, 8, 0, 1);
        Checks.work(x, "wet 0;wet 0;");
        likely(x, 0, 8, 3, 3, 0, 1);
        likely(x, 0, 8, 6, 3, 1, 2);
        likely(x, 0, 8, 0, 3, 0, 1);
        Checks.work(x, "day;");
        likely(x, 1, 3, 3, 0, 1, 1);
        likely(x, 1, 3, 3, 8, 1, 1);
        C.missing("21: likely(3, ..)", x, () -> x.likely(3, 99, 0, 0, 0));
        C.missing("21: likely(-1, ..)", x, () -> x.likely(-1, 0, 0, 0, 0));
        C.wrong("21: q 17", x, () -> x.likely(0, 17, 0, 0, 0));
        C.wrong("21: q -1", x, () -> x.likely(0, -1, 0, 0, 0));
        C.wrong("21: r 10", x, () -> x.likely(0, 0, 10, 0, 0));
        C.wrong("21: r -1", x, () -> x.likely(0, 0, -1, 0, 0));
        C.wrong("21: n 9", x, () -> x.likely(0, 0, 0, 9, 0));
        C.wrong("21: n -1", x, () -> x.likely(0, 0, 0, -1, 0));
        C.wrong("21: part 2", x, () -> x.likely(0, 0, 0, 0, 2));
        C.wrong("21: part -1", x, () -> x.likely(0, 0, 0, 0, -1));
        // 8 DAYS that all must rain: 1 by 16^8
        LinenGuilt y = Checks.told("cell 0;strip 1 72;", "lay 0 0;");
        likely(y, 0, 1, 9, 8, 1, 4294967296L);
        likely(y, 0, 15, 9, 8, 2562890625L, 4294967296L);
        // greyest of all; then by a LAW that asks for the GREY: 99 32 10 3 0 by rain alone, 99 65 43 .. without
        LinenGuilt w = Checks.told("cell 0;strip 1 99;", "lay 0 0;");
        likely(w, 0, 16, 9, 8, 0, 1);
        Checks.law(w, "99 * (rain - 8) + 9");
        likely(w, 0, 3, 9, 1, 3, 16);
        Checks.law(w, "grey * (1 + rain) / 3 + 1");
        likely(w, 0, 8, 1, 3, 0, 1);
        likely(w, 0, 8, 1, 4, 1, 16);
        likely(w, 0, 8, 1, 5, 13, 32);
        // wetted and with buttermilk on the first DAY
        LinenGuilt first = Checks.told("cell 0;strip 1 20;", "lay 0 0;wet 0;milk 0;");
        Checks.law(first, "wet * 20");
        likely(first, 0, 8, 1, 1, 1, 1);
        Checks.law(first, "milk * 20");
        likely(first, 0, 8, 1, 1, 1, 1);
        Checks.law(first, "most[wet, milk] * day * 20 + day / 2");
        likely(first, 0, 8, 1, 3, 0, 1);
        // the DAY counts on, buttermilk is there the first DAY
        LinenGuilt z = Checks.told("cell 0;strip 1 9;", "day;lay 0 0;milk 0;");
        Checks.law(z, "milk * 3 + day * (1 - rain) + wet");
        likely(z, 0, 8, 1, 3, 1, 8);
        Checks.law(z, "milk * 3 + day * (1 - rain) * 3");
        likely(z, 0, 4, 1, 2, 3, 4);
    }

    private static void deeds() {
        LinenGuilt x = Checks.told(COMMON);
        mayBe(x, 5, 3, 3, 0, 0);
        ask(x, 5, 0, 2);
        mayBe(x, 0, 1, 0, 0, 15);
        mayBe(x, 12, 1, 15, 15, 0);
        mayBe(x, 11, 0, -1, 0, 0);
        mayBe(x, 72, 0, -1, 0, 0);
        ask(x, 11, 0, 0);
        ask(x, 0, 0, 1);
        Checks.sayings(x, "2 0;");
        mayBe(x, 5, 2, 3, 1, 4);
        ask(x, 5, 1, 1);
        Checks.sayings(x, "1 1;0 1;");
        mayBe(x, 5, 1, 3, 3, 12);
        ask(x, 5, 2, 1);
        mayBe(x, 2, 0, -1, 0, 0);
        Checks.sayings(x, "0 0;1 0;2 1;3 0;");
        mayBe(x, 5, 1, 4, 4, 11);
        ask(x, 5, -1, -1);
        // no line of any SAYINGS ahead is left
        Checks.sayings(x, "0 1;");
        Checks.sayings(x, "1 1;");
        Checks.sayings(x, "2 1;");
        mayBe(x, 5, 1, 4, 4, 11);
        Checks.sayings(x, "3 1;");
        mayBe(x, 5, 1, 9, 9, 6);
        Checks.sayings(x, "1 0;");
        mayBe(x, 5, 2, 4, 0, 2);
        Checks.sayings(x, "");
        mayBe(x, 5, 3, 3, 0, 0);
        C.wrong("22: mayBe(73, 0)", x, () -> x.mayBe(73, 0));
        C.wrong("22: mayBe(-1, 0)", x, () -> x.mayBe(-1, 0));
        C.wrong("22: mayBe(0, 4)", x, () -> x.mayBe(0, 4));
        C.wrong("22: mayBe(0, -1)", x, () -> x.mayBe(0, -1));
        C.wrong("23: ask(73, 0)", x, () -> x.ask(73, 0));
        C.wrong("23: ask(-1, 0)", x, () -> x.ask(-1, 0));
        C.wrong("23: ask(0, 2)", x, () -> x.ask(0, 2));
        C.wrong("23: ask(0, -1)", x, () -> x.ask(0, -1));
        LinenGuilt y = Checks.told(Checks.times(8, "deed 9;"));
        mayBe(y, 72, 1, 255, 255, 0);
        mayBe(y, 36, 70, 15, 0, 0);
        ask(y, 36, 0, 35);
        ask(y, 9, 0, 7);
    }

    private static void mayBe(LinenGuilt x, int y, int many, int first, int sure, int none) {
        int[] due = {many, first, sure, none};
        for (int what = 0; what < 4; what++) {
            C.due("22: mayBe(" + y + ", " + what + ")", due[what], x.mayBe(y, what));
        }
    }

    private static void ask(LinenGuilt x, int y, int deed, int left) {
        C.due("23: ask(" + y + ", 0)", deed, x.ask(y, 0));
        C.due("23: ask(" + y + ", 1)", left, x.ask(y, 1));
    }

    private static void boxes() {
        LinenGuilt x = laid();
        C.due("24: boxes()", 9, x.boxes());
        C.due("25: seen(9)", 31, x.seen(9));
        C.due("25: seen(0)", 0, x.seen(0));
        C.due("25: seen(32)", 48, x.seen(32));
        C.due("25: seen(63)", 63, x.seen(63));
        C.wrong("25: seen(64)", x, () -> x.seen(64));
        C.wrong("25: seen(-1)", x, () -> x.seen(-1));
        Checks.work(x, "fold 0;fold 1;");
        C.due("24: nothing lies", 0, x.boxes());
        String cells = Checks.times(12, "cell 1;") + "strip 6 9;strip 6 9;";
        LinenGuilt blind = Checks.told(cells + "sight 0;", "lay 0 0;lay 1 6;");
        C.due("24: sight 0", 4095, blind.boxes());
        C.due("25: sight 0", 2730, blind.seen(2730));
        LinenGuilt far = Checks.told(cells + "sight 4;", "lay 0 0;lay 1 6;");
        C.due("24: sight 4, of two the least bits", 1 + 128, far.boxes());
        C.due("25: sight 4", 4095, far.seen(8 + 256));
        far.undo();
        Checks.work(far, "lay 1 4;");
        C.due("24: one is enough", 32, far.boxes());
    }

    private static void thieves() {
        LinenGuilt x = laid();
        thief(x, 0, -1, 0);
        LinenGuilt y = Checks.told(COMMON + "sight 2;", "lay 0 3;lay 1 1;");
        thief(y, 2, 102, -4);
        C.wrong("26: thief(3)", y, () -> y.thief(3));
        C.wrong("26: thief(-1)", y, () -> y.thief(-1));
        thief(Checks.told(COMMON), 0, -1, 0);
        LinenGuilt one = Checks.told("cell 1;strip 1 40;", "lay 0 0;");
        thief(one, 1, 0, -40);
        LinenGuilt wide = Checks.told("cell 1;cell 1;cell 1;strip 3 40;sight 2;", "lay 0 0;");
        thief(wide, 9, 0, -40);
        // 99 at most is 0 for him unseen, -99 seen
        LinenGuilt dark = Checks.told("cell 1;cell 1;strip 1 99;strip 1 1;sight 0;", "lay 0 0;");
        thief(dark, 1, 0, -99);
        // far off is a strip so grey that he takes the white one under the watchman's eyes as readily
        LinenGuilt even = Checks.told("cell 9;cell 1;cell 1;strip 1 9;strip 1 99;sight 0;", "lay 0 0;lay 1 2;day;");
        C.due("26: WHITE", 0, even.strip(0, 1));
        Checks.work(even, "again 4 [mole 2;];");
        C.due("26: as grey as can be", 99, even.strip(1, 1));
        thief(even, 1, 0, 0);
    }

    private static void thief(LinenGuilt x, int rests, int first, int has) {
        int[] due = {rests, first, has};
        for (int what = 0; what < 3; what++) {
            C.due("26: thief(" + what + ")", due[what], x.thief(what));
        }
    }

    private static void shares() {
        LinenGuilt x = Checks.told(COMMON);
        share(x, 7, 11, 4, 2, 5);
        share(x, 7, 3, 1, 1, 1);
        share(x, 7, 0, 0, 0, 0);
        share(x, 7, 999, 333, 167, 499);
        share(x, 5, 4, 2, 0, 2);
        share(x, 3, 1, 1, 0, 0);
        share(x, 0, 9, 0, 0, 0);
        share(x, 2, 9, 0, 9, 0);
        C.missing("27: share(3, ..)", x, () -> x.share(3, 8, 0));
        C.missing("27: share(-1, ..)", x, () -> x.share(-1, 0, 0));
        C.wrong("27: strips 8", x, () -> x.share(0, 8, 0));
        C.wrong("27: strips -1", x, () -> x.share(0, -1, 0));
        C.wrong("27: n 1000", x, () -> x.share(0, 0, 1000));
        C.wrong("27: n -1", x, () -> x.share(0, 0, -1));
        LinenGuilt y = Checks.told("strip 1 1;strip 1 1;strip 1 1;");
        share(y, 7, 2, 1, 1, 0);
        share(y, 6, 3, 0, 2, 1);
    }

    private static void share(LinenGuilt x, int strips, int n, int a, int b, int c) {
        int[] due = {a, b, c};
        for (int strip = 0; strip < 3; strip++) {
            C.due("27: share(" + strip + ", " + strips + ", " + n + ")", due[strip], x.share(strip, strips, n));
        }
    }

    private static void pair(String call, int what0, int what1, int got0, int got1) {
        C.due(call + ", 0", what0, got0);
        C.due(call + ", 1", what1, got1);
    }

    private static void rows() {
        LinenGuilt x = laid();
        pair("28: free", 1, 0, x.free(0), x.free(1));
        pair("29: greyest", 0, 30, x.greyest(0), x.greyest(1));
        pair("30: sunniest(0)", 0, 7, x.sunniest(0, 0), x.sunniest(0, 1));
        pair("30: sunniest(1)", 1, 9, x.sunniest(1, 0), x.sunniest(1, 1));
        pair("30: sunniest(2)", 1, 6, x.sunniest(2, 0), x.sunniest(2, 1));
        pair("31: sunny(1)", 0, 3, x.sunny(1, 0), x.sunny(1, 1));
        pair("31: sunny(2)", -1, -1, x.sunny(2, 0), x.sunny(2, 1));
        C.due("33: spare()", 18, x.spare());
        Checks.work(x, "fold 1;wet 0;");
        pair("28: free", 3, 0, x.free(0), x.free(1));
        pair("31: sunny(1)", 1, 7, x.sunny(1, 0), x.sunny(1, 1));
        pair("31: sunny(3)", 0, 10, x.sunny(3, 0), x.sunny(3, 1));
        C.due("33: spare()", 8, x.spare());
        Checks.work(x, "fold 0;");
        pair("28: free", 6, 0, x.free(0), x.free(1));
        pair("29: greyest", -1, -1, x.greyest(0), x.greyest(1));
        pair("31: sunny(2), of alike ones the first", 0, 10, x.sunny(2, 0), x.sunny(2, 1));
        pair("31: sunny(6)", 0, 22, x.sunny(6, 0), x.sunny(6, 1));
        pair("31: sunny(7)", -1, -1, x.sunny(7, 0), x.sunny(7, 1));
        pair("31: sunny(12)", -1, -1, x.sunny(12, 0), x.sunny(12, 1));
        C.due("33: spare()", 0, x.spare());
        C.wrong("28: free(2)", x, () -> x.free(2));
        C.wrong("28: free(-1)", x, () -> x.free(-1));
        C.wrong("29: greyest(2)", x, () -> x.greyest(2));
        C.wrong("29: greyest(-1)", x, () -> x.greyest(-1));
        C.wrong("30: sunniest(0, 2)", x, () -> x.sunniest(0, 2));
        C.wrong("30: sunniest(0, -1)", x, () -> x.sunniest(0, -1));
        C.missing("30: sunniest(3, 2)", x, () -> x.sunniest(3, 2));
        C.missing("30: sunniest(-1, 0)", x, () -> x.sunniest(-1, 0));
        C.wrong("31: sunny(0, 0)", x, () -> x.sunny(0, 0));
        C.wrong("31: sunny(13, 0)", x, () -> x.sunny(13, 0));
        C.wrong("31: sunny(1, 2)", x, () -> x.sunny(1, 2));
        C.wrong("31: sunny(1, -1)", x, () -> x.sunny(1, -1));
        // full, and strips of alike grey
        LinenGuilt y = Checks.told("cell 0;cell 9;strip 1 5;strip 1 5;strip 3 9;", "lay 1 0;lay 0 1;wet 0;milk 0;");
        pair("28: none is free", 0, -1, y.free(0), y.free(1));
        pair("29: of alike ones the first", 0, 5, y.greyest(0), y.greyest(1));
        pair("30: not as many CELLS", -1, -1, y.sunniest(2, 0), y.sunniest(2, 1));
        pair("30: dry, more than its GREY", 1, 9, y.sunniest(0, 0), y.sunniest(0, 1));
        pair("31: no free row", -1, -1, y.sunny(1, 0), y.sunny(1, 1));
        Checks.law(y, "1 + milk * 9");
        pair("30: without buttermilk, the first", 0, 1, y.sunniest(0, 0), y.sunniest(0, 1));
        // two rows as long: the first; then the second is longer
        LinenGuilt z = Checks.told(Checks.times(5, "cell 1;") + "strip 1 5;", "lay 0 2;");
        pair("28: of alike ones the first", 2, 0, z.free(0), z.free(1));
        Checks.work(z, "fold 0;lay 0 1;");
        pair("28: the longer one", 3, 2, z.free(0), z.free(1));
    }

    /** The draws of seed 1 begin 16838, 5758, 10113, 17515, 31051, 5627, 23010, 7419, 16212, 4086, ... */
    private static void summers() {
        LinenGuilt x = laid();
        // day 0: 16838 % 16 = 6 is below 7: rain 5758 % 10 = 8; 10113 % 16 = 1 is below 2: mole at 17515 % 6 = 1
        summer(x, 1, 1, 7, 2, 30 - 13 + 0 + 60, 2, 1, 1);
        // as much, but Q 6 is not above 6: then 5758 % 16 = 14 is no mole
        summer(x, 1, 1, 6, 2, 30 - 7 + 0 + 60, 2, 0, 0);
        // M 15 is above 14: the mole at 10113 % 6 = 3 makes strip 0 35 grey
        summer(x, 1, 1, 6, 15, 35 - 7 + 0 + 60, 2, 1, 0);
        // a second day: 31051 % 16 = 11, 5627 % 16 = 11: neither, and rain 0 as told
        summer(x, 1, 2, 7, 2, 30 - 13 - 5 + 60, 2, 1, 1);
        Checks.work(x, "wet 0;wet 0;");
        summer(x, 1, 1, 7, 2, 30 - 17 + 60, 2, 1, 1);
        C.due("34: nothing stays changed", 30, x.strip(0, 1));
        C.due("34: a Summer of no rain is DAYS ahead", x.ahead(96, 0), x.summer(9, 96, 0, 0, 0));
        C.due("34: rain each DAY", 96, x.summer(-9, 96, 16, 0, 3));
        // without cells there are no moles
        LinenGuilt bare = Checks.told("");
        summer(bare, 1, 3, 16, 16, 0, 0, 0, 3);
        summer(bare, 1, 1, 6, 16, 0, 0, 0, 0);
        // the third draw of a mole's DAY is there with a CELL alone, so the two summers part
        summer(bare, 1, 6, 8, 8, 0, 0, 0, 2);
        summer(Checks.told("cell 1;"), 1, 6, 8, 8, 0, 0, 0, 3);
        C.wrong("34: no DAYS", x, () -> x.summer(1, 0, 0, 0, 0));
        C.wrong("34: 97 DAYS", x, () -> x.summer(1, 97, 0, 0, 0));
        C.wrong("34: Q 17", x, () -> x.summer(1, 1, 17, 0, 0));
        C.wrong("34: Q -1", x, () -> x.summer(1, 1, -1, 0, 0));
        C.wrong("34: M 17", x, () -> x.summer(1, 1, 0, 17, 0));
        C.wrong("34: M -1", x, () -> x.summer(1, 1, 0, -1, 0));
        C.wrong("34: what 4", x, () -> x.summer(1, 1, 0, 0, 4));
        C.wrong("34: what -1", x, () -> x.summer(1, 1, 0, 0, -1));
        spans(laid());
    }

    /** As much of all as a COMMON can have. */
    private static void fullCommon() {
        LinenGuilt x = Checks.told(Checks.times(12, "cell 9;") + Checks.times(6, "strip 2 50;")
                + Checks.times(8, "deed 1;") + Checks.times(7, "rain 0;"),
                "lay 0 0;lay 1 2;lay 2 4;lay 3 6;lay 4 8;lay 5 10;");
        C.due("9: all lie", 6, x.told(7));
        C.due("10: on the last CELL", 5, x.cell(11, 1));
        C.due("14: fits", true, x.fits(5, 10));
        C.due("14: fits not", false, x.fits(5, 9));
        C.due("15: ahead", 6 * 41, x.ahead(1, 0));
        C.due("15: WHITE", 63, x.ahead(6, 1));
        C.due("16: white", 6, x.white(5));
        C.due("17: pack", 54, x.pack(63));
        C.due("18: packed", 10, x.packed(63, 5));
        int[] given = {0, 0, 0, 2, 9, 9};
        C.due("19: wets", 54 + 40, x.wets(20));
        for (int strip = 0; strip < 6; strip++) {
            C.due("20: wetted(20, " + strip + ")", given[strip], x.wetted(20, strip));
        }
        likely(x, 5, 16, 1, 5, 1, 1);
        mayBe(x, 8, 1, 255, 255, 0);
        ask(x, 0, 0, 1);
        C.due("24: boxes", 2 + 16 + 128 + 1024, x.boxes());
        C.due("25: seen", 4095, x.seen(4095));
        C.due("27: share", 1, x.share(5, 63, 6));
        pair("28: free", 0, -1, x.free(0), x.free(1));
        pair("29: greyest", 0, 50, x.greyest(0), x.greyest(1));
        pair("31: sunny", -1, -1, x.sunny(1, 0), x.sunny(1, 1));
        C.due("32: whiteYards", 6, x.whiteYards(12));
        C.due("32: whiteYards", -1, x.whiteYards(13));
        C.due("33: spare", 54, x.spare());
        C.due("34: summer", 6 * 41, x.summer(1, 1, 0, 0, 0));
        C.due("35: span, one of one seed", 6 * 41, x.span(1, 1, 1, 0, 0, 0, 5));
        C.due("35: span, by how many of twenty", 20, x.span(1, 20, 6, 0, 0, 2, 5));
        C.due("35: span, by how many of three", 3, x.span(1, 3, 6, 0, 0, 2, 5));
        Checks.work(x, "again 10 [mole 11;];");
        C.due("5: moles", 99, x.strip(5, 1));
        pair("29: greyest, the last", 5, 99, x.greyest(0), x.greyest(1));
    }

    private static void summer(LinenGuilt x, int seed, int days, int q, int m, int grey, int white, int moles, int rains) {
        int[] due = {grey, white, moles, rains};
        for (int what = 0; what < 4; what++) {
            C.due("34: summer(" + seed + ", " + days + ", " + q + ", " + m + ", " + what + ")", due[what],
                    x.summer(seed, days, q, m, what));
        }
    }

    private static void spans(LinenGuilt x) {
        int seed = Integer.MAX_VALUE - 3;
        int least = 1000;
        int most = 0;
        int white = 0;
        for (int i = 0; i < 20; i++) {
            int grey = x.summer(seed + i, 4, 8, 6, 0);
            least = Math.min(least, grey);
            most = Math.max(most, grey);
            white += x.summer(seed + i, 4, 8, 6, 1) & 1;
        }
        C.due("35: seeds differ", true, least < most && white > 0 && white < 20);
        C.due("35: the least", least, x.span(seed, 20, 4, 8, 6, 0, 2));
        C.due("35: the most", most, x.span(seed, 20, 4, 8, 6, 1, 2));
        C.due("35: by how many it is WHITE", white, x.span(seed, 20, 4, 8, 6, 2, 0));
        C.due("35: one SEED", x.summer(7, 4, 8, 6, 0), x.span(7, 1, 4, 8, 6, 1, 0));
        C.wrong("35: no SEEDS", x, () -> x.span(1, 0, 1, 0, 0, 0, 0));
        C.wrong("35: 21 SEEDS", x, () -> x.span(1, 21, 1, 0, 0, 0, 0));
        C.wrong("35: no DAYS", x, () -> x.span(1, 1, 0, 0, 0, 0, 0));
        C.wrong("35: 97 DAYS", x, () -> x.span(1, 1, 97, 0, 0, 0, 0));
        C.wrong("35: Q 17", x, () -> x.span(1, 1, 1, 17, 0, 0, 0));
        C.wrong("35: Q -1", x, () -> x.span(1, 1, 1, -1, 0, 0, 0));
        C.wrong("35: M 17", x, () -> x.span(1, 1, 1, 0, 17, 0, 0));
        C.wrong("35: M -1", x, () -> x.span(1, 1, 1, 0, -1, 0, 0));
        C.wrong("35: what 3", x, () -> x.span(1, 1, 1, 0, 0, 3, 0));
        C.wrong("35: what -1", x, () -> x.span(1, 1, 1, 0, 0, -1, 0));
        for (int what = 0; what < 3; what++) {
            int asked = what;
            C.wrong("35: no such STRIP", x, () -> x.span(1, 1, 1, 0, 0, asked, 3));
            C.wrong("35: no such STRIP", x, () -> x.span(1, 1, 1, 0, 0, asked, -1));
        }
    }
}
