/** The boundary cases of what is asked, sentence by sentence as DOC.md has them: ==== 3. of its Terms, promises 15 to 35. */
public final class BoundaryQuestionsTest {
    private static final Checks C = new Checks("BoundaryQuestionsTest");
    private static final int NONE = LinenGuilt.NONE;
    private static final String CELLS = "cell 3;cell 7;cell 0;cell 5;cell 5;cell 2;";

    public static void main(String[] args) {
        nothingStays();
        beyond500();
        ahead();
        whites();
        packs();
        wettings();
        likely();
        mayBe();
        ask();
        boxes();
        thief();
        shares();
        rows();
        summers();
        spans();
        C.finish();
    }

    private static String times(int n, String part) {
        return Checks.times(n, part);
    }

    private static LinenGuilt lawful(String law, String common, String work) {
        LinenGuilt x = Checks.told(common, work);
        C.due("law of '" + law + "'", 1, Checks.law(x, law));
        return x;
    }

    private static void pair(String call, int due0, int due1, int got0, int got1) {
        C.due(call + " 0", due0, got0);
        C.due(call + " 1", due1, got1);
    }

    // ---- all that is asked

    private static String state(LinenGuilt x) {
        StringBuilder out = new StringBuilder();
        for (int what = 0; what < 12; what++) {
            out.append(x.told(what)).append(' ');
        }
        for (int strip = 0; strip < x.told(1); strip++) {
            for (int what = 0; what < 6; what++) {
                out.append(x.strip(strip, what)).append(' ');
            }
        }
        return out.append(x.count(0)).append(' ').append(x.count(1)).append(' ').append(x.count(2)).append(' ')
                .append(x.fault()).toString();
    }

    private static void nothingStays() {
        C.says("Asked, nothing stays changed");
        LinenGuilt x = Checks.told(CELLS + "strip 2 30;strip 1 40;strip 2 50;deed 3;deed 3;rain 4;rain 1;",
                "day;lay 0 1;lay 2 4;wet 0;wet 0;milk 2;fold 1;");
        Checks.sayings(x, "1 0;");
        x.feed(1, 2, 3, 4, 5);
        String was = state(x);
        long[] first = asked(x);
        C.due("all stays: '" + was + "', not '" + state(x) + "'", true, was.equals(state(x)));
        long[] second = asked(x);
        for (int i = 0; i < first.length; i++) {
            C.due("question " + i + " asked again", first[i], second[i]);
        }
    }

    private static long[] asked(LinenGuilt x) {
        return new long[] {x.would(1, 2, 3, 4, 5, 0, 6, 7), x.fits(1, 0) ? 1 : 0, x.ahead(9, 0), x.ahead(9, 1), x.white(0),
            x.pack(7), x.packed(7, 1), x.wets(7), x.wetted(7, 2), x.likely(0, 5, 6, 7, 0), x.mayBe(3, 1), x.ask(3, 0),
            x.boxes(), x.seen(9), x.thief(1), x.share(0, 7, 9), x.free(0), x.greyest(0), x.sunniest(0, 0), x.sunny(1, 0),
            x.whiteYards(2), x.spare(), x.summer(8, 9, 8, 8, 0), x.span(8, 5, 9, 8, 8, 1, 0)};
    }

    private static void beyond500() {
        C.says("DAYS go by as by day (beyond 500, too)");
        LinenGuilt x = Checks.told("cell 0;cell 0;strip 1 9;strip 1 9;rain 0;rain 0;rain 9;");
        for (int i = 0; i < 5; i++) {
            Checks.work(x, "again 10 [again 10 [day;];];");
        }
        Checks.work(x, "lay 0 0;day;");
        C.due("told(4)", 500, x.told(4));
        Checks.law(x, "day - 499");
        int[] grey = {9, 8, 6, 3, 0, 0};
        for (int n = 0; n < grey.length; n++) {
            C.due("ahead(" + n + ", 0)", 9 + grey[n], x.ahead(n, 0));
        }
        C.due("white(0)", 4, x.white(0));
        C.due("whiteYards(1)", 4, x.whiteYards(1));
        C.due("likely above, 3 DAYS", 0, x.likely(0, 8, 5, 3, 0));
        C.due("likely above, 4 DAYS", 1, x.likely(0, 8, 5, 4, 0));
        C.due("summer of 3 DAYS", 9 + 3, x.summer(1, 3, 0, 0, 0));
        C.due("span of 3 DAYS", 9 + 3, x.span(1, 3, 3, 0, 0, 1, 0));
        Checks.law(x, "rain");
        C.due("rain of DAY 500", 9, x.ahead(1, 0));
        Checks.law(x, "rain / 9 * 4");
        C.due("rain of DAY 501 and 502", 9 + 5, x.ahead(3, 0));
        C.due("rain of DAY 503", 9 + 1, x.ahead(4, 0));
        C.due("told(4)", 500, x.told(4));
    }

    private static void ahead() {
        C.says("In n DAYS (0 to 99), nothing being done: 0 GREY of all together, 1 WHITE ones (bits)");
        LinenGuilt x = lawful("day / 98 + 1", "cell 1;cell 1;strip 1 99;strip 1 2;strip 1 3;", "lay 0 0;lay 1 1;");
        C.due("ahead(0, 0)", 104, x.ahead(0, 0));
        C.due("ahead(0, 1)", 0, x.ahead(0, 1));
        C.due("ahead(2, 0)", 97 + 3, x.ahead(2, 0));
        C.due("ahead(2, 1)", 2, x.ahead(2, 1));
        C.due("ahead(98, 0)", 1 + 3, x.ahead(98, 0));
        C.due("ahead(98, 1)", 2, x.ahead(98, 1));
        C.due("ahead(99, 0)", 3, x.ahead(99, 0));
        C.due("ahead(99, 1)", 3, x.ahead(99, 1));
        C.wrong("ahead(100, 0)", x, () -> x.ahead(100, 0));
        C.wrong("ahead(-1, 0)", x, () -> x.ahead(-1, 0));
        C.wrong("ahead(0, 2)", x, () -> x.ahead(0, 2));
        C.wrong("ahead(0, -1)", x, () -> x.ahead(0, -1));
        LinenGuilt y = lawful("wet * 3 + milk * 4 + rain", "cell 1;strip 1 99;rain 1;rain 2;", "lay 0 0;wet 0;milk 0;");
        C.due("ahead(1, 0), wetted and with buttermilk", 91, y.ahead(1, 0));
        C.due("ahead(2, 0), dry and without", 89, y.ahead(2, 0));
        C.due("ahead(3, 0)", 88, y.ahead(3, 0));
    }

    private static void whites() {
        String common = "cell 1;cell 1;strip 1 9;strip 1 1;strip 2 5;";
        C.says("In how many DAYS (0: now; of 200) a STRIP is WHITE, nothing being done; NONE");
        LinenGuilt x = lawful("day / 199", common, "lay 0 0;lay 1 1;");
        Checks.work(x, "day;");
        C.due("white(1) in exactly 199 more", 199, x.white(1));
        x.undo();
        C.due("white(1) in exactly 200", 200, x.white(1));
        C.due("white(0) in 209", NONE, x.white(0));
        C.due("white(2), folded", NONE, x.white(2));
        Checks.law(x, "day / 200");
        C.due("white(1) in 201", NONE, x.white(1));
        Checks.law(x, "8");
        C.due("white(0)", 2, x.white(0));
        C.due("white(1)", 1, x.white(1));
        Checks.work(x, "day;");
        C.due("white(1) now", 0, x.white(1));
        Checks.work(x, "fold 1;");
        C.due("white(1) now, folded", 0, x.white(1));
        C.missing("white(3)", x, () -> x.white(3));
        C.missing("white(-1)", x, () -> x.white(-1));
        whiteYards(common);
    }

    private static void whiteYards(String common) {
        C.says("In how many DAYS (0: now; of 200), nothing being done, n (0 to 36) YARDS of STRIPS or more are WHITE; NONE");
        LinenGuilt y = lawful("day / 199", common, "lay 1 1;");
        C.due("whiteYards(0)", 0, y.whiteYards(0));
        C.due("whiteYards(1) in exactly 200", 200, y.whiteYards(1));
        C.due("whiteYards(2)", NONE, y.whiteYards(2));
        Checks.law(y, "day / 200");
        C.due("whiteYards(1) in 201", NONE, y.whiteYards(1));
        C.due("whiteYards(0), without STRIPS", 0, new LinenGuilt().whiteYards(0));
        C.due("whiteYards(1), without STRIPS", NONE, new LinenGuilt().whiteYards(1));
        C.wrong("whiteYards(-1)", y, () -> y.whiteYards(-1));
        C.wrong("whiteYards(37)", y, () -> y.whiteYards(37));
        String two = "lay 0 0;lay 1 6;day;fold 0;fold 1;";
        LinenGuilt z = Checks.told(times(12, "cell 9;") + times(6, "strip 6 9;"), two);
        Checks.work(z, "lay 2 0;lay 3 6;day;fold 2;fold 3;lay 4 0;lay 5 6;");
        C.due("whiteYards(24) now", 0, z.whiteYards(24));
        C.due("whiteYards(23) now, or more", 0, z.whiteYards(23));
        C.due("whiteYards(25)", 1, z.whiteYards(25));
        C.due("whiteYards(36)", 1, z.whiteYards(36));
        Checks.work(z, "day;");
        C.due("whiteYards(36) now", 0, z.whiteYards(36));
    }

    // ---- PACK and WETS

    private static void packed(LinenGuilt x, int strips, int gone, int... cells) {
        C.due("pack(" + strips + ")", gone, x.pack(strips));
        for (int strip = 0; strip < cells.length; strip++) {
            C.due("packed(" + strips + ", " + strip + ")", cells[strip], x.packed(strips, strip));
        }
    }

    private static void packs() {
        C.says("PACK of told STRIPS (bits): were the common empty");
        packed(Checks.told("cell 1;cell 9;strip 1 50;strip 1 50;", "lay 1 1;"), 1, 9, 1, NONE);
        packed(Checks.told("cell 1;cell 9;strip 1 50;strip 1 50;", "lay 0 0;"), 1, 9, 1, NONE);
        C.says("of all ways to lay some of these that by which most GREY is gone by day now");
        packed(Checks.told("cell 9;cell 9;strip 2 50;strip 1 50;strip 1 50;"), 7, 18, NONE, 0, 1);
        packed(Checks.told("cell 9;cell 9;strip 2 50;strip 1 50;strip 1 50;"), 5, 9, 0, NONE, NONE);
        packed(Checks.told("cell 9;cell 9;cell 9;strip 1 50;strip 2 50;strip 1 50;strip 1 50;"), 15, 27, 0, NONE, 1, 2);
        packed(Checks.told("cell 1;strip 2 50;"), 1, 0, NONE);
        packed(Checks.told("strip 1 50;"), 1, 0, NONE);
        packed(Checks.told("cell 1;cell 9;strip 1 50;"), 0, 0, NONE);
        packed(Checks.told("cell 1;cell 2;rain 3;rain 5;strip 1 50;", "day;"), 1, 7, 1);
        packed(lawful("day * 9 + first", "cell 1;cell 2;strip 1 50;", "day;"), 1, 10, 1);
        C.says("(of each what it WHITENS, dry, without buttermilk, but no more than its GREY)");
        LinenGuilt wet = lawful("wet * 9 + milk * 20 + 2", "cell 1;strip 1 50;", "lay 0 0;wet 0;milk 0;");
        C.due("strip(0, 5), as it lies", 9 + 20 + 2, wet.strip(0, 5));
        packed(wet, 1, 2, 0);
        packed(Checks.told("cell 9;cell 9;strip 1 8;strip 1 9;"), 3, 17, 0, 1);
        packed(Checks.told("cell 9;strip 1 8;strip 1 9;"), 3, 9, NONE, 0);
        packed(Checks.told("cell 9;strip 1 9;strip 1 9;", "lay 0 0;day;"), 3, 9, NONE, 0);
        C.says("of alike ways the first (STRIP by STRIP the least CELL, folded last)");
        packed(lawful("0", "cell 9;cell 9;cell 9;strip 1 50;strip 2 50;", ""), 3, 0, 0, 1);
        packed(lawful("0", "cell 9;cell 9;cell 9;strip 2 50;strip 2 50;", ""), 3, 0, 0, NONE);
        packed(Checks.told("cell 9;strip 1 50;strip 1 50;"), 3, 9, 0, NONE);
        packed(Checks.told("cell 9;cell 9;strip 1 50;strip 1 50;"), 3, 18, 0, 1);
        packed(Checks.told("cell 0;cell 9;cell 9;strip 1 50;strip 1 50;"), 3, 18, 1, 2);
        packed(Checks.told("cell 0;cell 9;cell 0;strip 1 5;strip 1 50;"), 3, 9, 0, 1);
        packed(lawful("most[0, yards - 1] * 9", "cell 1;cell 1;cell 1;strip 1 50;strip 2 50;", ""), 3, 9, 0, 1);
        packed(lawful("most[0, yards - 1] * 9", "cell 1;cell 1;strip 1 50;strip 2 50;", ""), 3, 9, NONE, 0);
        C.says("IllegalArgumentException: bits of no STRIPS (so below)");
        LinenGuilt x = Checks.told("cell 1;" + times(6, "strip 1 9;"));
        packed(x, 63, 1, 0, NONE, NONE, NONE, NONE, NONE);
        C.wrong("pack(64)", x, () -> x.pack(64));
        C.wrong("pack(-1)", x, () -> x.pack(-1));
        C.wrong("pack(least of all)", x, () -> x.pack(Integer.MIN_VALUE));
        C.wrong("packed(64, 0)", x, () -> x.packed(64, 0));
        C.wrong("packed(-1, 0)", x, () -> x.packed(-1, 0));
        C.missing("packed(64, 6)", x, () -> x.packed(64, 6));
        C.missing("packed(63, -1)", x, () -> x.packed(63, -1));
        LinenGuilt none = new LinenGuilt();
        C.due("pack(0), without STRIPS", 0, none.pack(0));
        C.wrong("pack(1), without STRIPS", none, () -> none.pack(1));
        C.says("The CELL from which a STRIP lies by PACK; NONE: it does not");
        packed(Checks.told(times(12, "cell 9;") + times(6, "strip 2 50;")), 63, 54, 0, 2, 4, 6, 8, 10);
        packed(Checks.told(times(12, "cell 9;") + times(6, "strip 2 50;")), 42, 27, NONE, 0, NONE, 2, NONE, 4);
        LinenGuilt alone = Checks.told("cell 1;cell 9;strip 1 50;strip 1 50;");
        C.due("packed(2, 1), nothing asked ahead", 1, alone.packed(2, 1));
        C.due("packed(3, 1), packed(2, 1) asked ahead", 1, alone.packed(3, 1));
        C.due("packed(3, 0)", 0, alone.packed(3, 0));
        C.due("packed(1, 0)", 1, alone.packed(1, 0));
        Checks.common(alone, "cell 1;cell 9;strip 1 50;");
        packed(alone, 1, 9, 1);
        Checks.common(alone, "cell 1;cell 9;");
        C.due("pack(0), no STRIPS any more", 0, alone.pack(0));
    }

    private static void wetted(LinenGuilt x, int n, int gone, int... given) {
        C.due("wets(" + n + ")", gone, x.wets(n));
        for (int strip = 0; strip < given.length; strip++) {
            C.due("wetted(" + n + ", " + strip + ")", given[strip], x.wetted(n, strip));
        }
    }

    private static void wettings() {
        String common = "cell 0;cell 0;cell 0;strip 1 50;strip 1 50;strip 1 50;";
        C.says("WETS of n: just n wettings more dealt out among STRIPS that lie");
        LinenGuilt two = Checks.told(common, "lay 0 0;lay 2 2;");
        wetted(two, 0, 0, 0, 0, 0);
        wetted(two, 1, 2, 0, 0, 1);
        wetted(lawful("9 - wet", common, "lay 0 0;lay 2 2;"), 1, 17, 0, 0, 1);
        wetted(lawful("9 - wet", common, "lay 0 0;lay 2 2;"), 18, 0, 9, 0, 9);
        C.says("(each wetted 9 times this DAY at most, as wetted already)");
        wetted(two, 9, 18, 0, 0, 9);
        wetted(two, 10, 20, 1, 0, 9);
        wetted(two, 18, 36, 9, 0, 9);
        wetted(two, 19, NONE, NONE, NONE, NONE);
        Checks.work(two, "again 7 [wet 2;];");
        wetted(two, 0, 14, 0, 0, 0);
        wetted(two, 3, 20, 1, 0, 2);
        wetted(two, 11, 36, 9, 0, 2);
        wetted(two, 12, NONE, NONE, NONE, NONE);
        Checks.work(two, "day;");
        wetted(two, 18, 36, 9, 0, 9);
        C.says("so that most GREY is gone by day (no STRIP more than its GREY)");
        LinenGuilt few = Checks.told("cell 1;cell 1;strip 1 5;strip 1 50;", "lay 0 0;lay 1 1;");
        wetted(few, 9, 1 + 19, 0, 9);
        wetted(few, 10, 3 + 19, 1, 9);
        wetted(few, 12, 5 + 19, 3, 9);
        wetted(few, 11, 5 + 19, 2, 9);
        LinenGuilt milk = lawful("milk * wet", "cell 0;cell 0;strip 1 50;strip 1 50;rain 4;", "lay 0 0;lay 1 1;milk 0;");
        wetted(milk, 3, 3, 3, 0);
        wetted(lawful("rain * wet", "cell 0;strip 1 50;rain 2;rain 4;", "day;lay 0 0;"), 3, 12, 3);
        C.says("of alike ways the first (STRIP by STRIP the fewest)");
        wetted(lawful("0", common, "lay 0 0;lay 1 1;lay 2 2;"), 11, 0, 0, 2, 9);
        wetted(lawful("wet", common, "lay 0 0;lay 1 1;"), 3, 3, 0, 3, 0);
        wetted(lawful("wet / 2", common, "lay 0 0;lay 1 1;"), 3, 1, 0, 3, 0);
        wetted(lawful("wet / 2", common, "lay 0 0;lay 1 1;"), 10, 5, 2, 8, 0);
        C.says("WETS of n (0 to 20): the GREY that is gone; NONE: not so many can be dealt out");
        LinenGuilt x = Checks.told(common, "lay 0 0;lay 1 1;lay 2 2;");
        wetted(x, 20, 40, 2, 9, 9);
        LinenGuilt six = Checks.told(times(6, "cell 9;") + times(3, "strip 1 50;") + times(3, "strip 1 9;"),
                "lay 0 0;lay 1 1;lay 2 2;lay 3 3;lay 4 4;lay 5 5;");
        wetted(six, 20, 54 + 40, 2, 9, 9, 0, 0, 0);
        wetted(six, 0, 54, 0, 0, 0, 0, 0, 0);
        C.due("wetted(9, 2), wets(20) asked ahead", 9, six.wetted(9, 2));
        Checks.common(six, "cell 1;cell 1;strip 1 50;strip 1 50;");
        Checks.work(six, "lay 0 0;");
        wetted(six, 0, 1, 0, 0);
        wetted(six, 9, 19, 9, 0);
        Checks.common(six, "cell 1;");
        C.due("wets(0), no STRIPS any more", 0, six.wets(0));
        C.wrong("wets(21)", x, () -> x.wets(21));
        C.wrong("wets(-1)", x, () -> x.wets(-1));
        LinenGuilt none = Checks.told(common);
        wetted(none, 0, 0, 0, 0, 0);
        wetted(none, 1, NONE, NONE, NONE, NONE);
        C.due("wets(0), without STRIPS", 0, new LinenGuilt().wets(0));
        C.due("wets(1), without STRIPS", NONE, new LinenGuilt().wets(1));
        C.says("How many of these a STRIP gets; NONE: not so");
        C.wrong("wetted(21, 0)", x, () -> x.wetted(21, 0));
        C.wrong("wetted(-1, 0)", x, () -> x.wetted(-1, 0));
        C.missing("wetted(21, 3)", x, () -> x.wetted(21, 3));
        C.missing("wetted(0, -1)", x, () -> x.wetted(0, -1));
    }

    // ---- LIKELY

    private static void likely(LinenGuilt x, int strip, int q, int r, int n, long above, long below) {
        String call = "likely(" + strip + ", " + q + ", " + r + ", " + n + ", ";
        C.due(call + "0)", above, x.likely(strip, q, r, n, 0));
        C.due(call + "1)", below, x.likely(strip, q, r, n, 1));
    }

    private static void likely() {
        String common = "cell 0;cell 0;strip 1 9;strip 1 18;strip 1 9;rain 9;";
        LinenGuilt x = lawful("rain", common, "lay 0 0;lay 1 1;");
        C.says("LIKELY of a STRIP by q, r, n: in each of the next n DAYS it rains r by q of 16, else not at all");
        likely(x, 0, 5, 9, 1, 5, 16);
        likely(x, 0, 5, 8, 1, 0, 1);
        likely(x, 1, 5, 9, 2, 25, 256);
        likely(x, 0, 5, 9, 2, 256 - 121, 256);
        likely(lawful("(1 - rain) * 9", common, "lay 0 0;"), 0, 5, 9, 1, 11, 16);
        C.says("(what is told of rain is not asked)");
        likely(x, 0, 0, 9, 8, 0, 1);
        C.says("all else as by day (a folded one stays as it is)");
        likely(x, 2, 16, 9, 8, 0, 1);
        likely(lawful("wet * 5 + milk * 4", common, "lay 0 0;wet 0;milk 0;"), 0, 8, 1, 1, 1, 1);
        likely(lawful("wet * 5 + milk * 3", common, "lay 0 0;wet 0;milk 0;"), 0, 8, 1, 8, 0, 1);
        likely(lawful("day / 3 * 9", common, "day;lay 0 0;"), 0, 8, 1, 2, 0, 1);
        likely(lawful("day / 3 * 9", common, "day;lay 0 0;"), 0, 8, 1, 3, 1, 1);
        likely(lawful("grey / 9 * 9", common, "lay 1 1;"), 1, 8, 1, 1, 1, 1);
        likely(lawful("0 - 9", common, "lay 0 0;"), 0, 8, 1, 8, 0, 1);
        likely(lawful("99", "cell 0;strip 1 99;", "lay 0 0;"), 0, 8, 1, 1, 1, 1);
        likely(lawful("0", "cell 0;strip 1 99;", "lay 0 0;"), 0, 8, 1, 8, 0, 1);
        // 18 becomes 9, if it rains, else 12; 9 is WHITE then, if it rains, else 6; 12 is 5 or 8
        LinenGuilt byGrey = lawful("grey / 3 + grey % 2 * rain * 6 + (1 - grey % 2) * rain * 3", common, "lay 1 1;");
        likely(byGrey, 1, 4, 1, 2, 1, 16);
        likely(byGrey, 1, 4, 1, 3, 7, 64);
        LinenGuilt two = lawful("0", "cell 0;cell 0;strip 1 99;strip 1 98;", "lay 0 0;lay 1 1;");
        likely(two, 0, 8, 1, 3, 0, 1);
        Checks.law(two, "(100 - grey) * 49");
        likely(two, 1, 8, 1, 3, 1, 1);
        likely(two, 1, 8, 1, 1, 1, 1);
        likely(two, 0, 8, 1, 1, 0, 1);
        likely(two, 0, 8, 1, 2, 1, 1);
        likely(lawful("99", common, "lay 0 0;"), 0, 8, 1, 1, 1, 1);
        C.says("LIKELY (q 0 to 16; r 0 to 9; n 0 to 8): above (part 0), below (part 1), in least terms");
        likely(x, 0, 0, 9, 1, 0, 1);
        likely(x, 0, 1, 9, 1, 1, 16);
        likely(x, 0, 4, 9, 1, 1, 4);
        likely(x, 0, 6, 9, 1, 3, 8);
        likely(x, 0, 15, 9, 1, 15, 16);
        likely(x, 0, 16, 9, 1, 1, 1);
        likely(x, 0, 16, 0, 8, 0, 1);
        likely(x, 0, 8, 9, 0, 0, 1);
        LinenGuilt eight = lawful("rain", "cell 0;cell 0;strip 1 72;strip 1 9;", "lay 0 0;lay 1 1;");
        likely(eight, 0, 1, 9, 8, 1, 4294967296L);
        likely(eight, 0, 15, 9, 8, 2562890625L, 4294967296L);
        likely(eight, 0, 2, 9, 8, 1, 16777216);
        likely(eight, 0, 15, 9, 7, 0, 1);
        likely(eight, 1, 1, 9, 8, 4294967296L - 2562890625L, 4294967296L);
        Checks.law(eight, "9");
        Checks.work(eight, "day;");
        likely(eight, 1, 3, 3, 0, 1, 1);
        likely(eight, 1, 3, 3, 8, 1, 1);
        C.missing("likely of no STRIP, and all else wrong", x, () -> x.likely(3, 99, 99, 99, 99));
        C.missing("likely(-1, ..)", x, () -> x.likely(-1, 0, 0, 0, 0));
        int[] most = {2, 16, 9, 8, 1};
        for (int i = 1; i < 5; i++) {
            int[] more = most.clone();
            int[] less = most.clone();
            more[i]++;
            less[i] = -1;
            C.wrong("likely, number " + i + " too great", x, () -> x.likely(more[0], more[1], more[2], more[3], more[4]));
            C.wrong("likely, number " + i + " too small", x, () -> x.likely(less[0], less[1], less[2], less[3], less[4]));
        }
        C.due("likely, most of all", 1, x.likely(2, 16, 9, 8, 1));
    }

    // ---- DEEDS

    private static void mayBe(LinenGuilt x, int y, int many, int first, int sure, int none) {
        int[] due = {many, first, sure, none};
        for (int what = 0; what < 4; what++) {
            C.due("mayBe(" + y + ", " + what + ")", due[what], x.mayBe(y, what));
        }
    }

    private static void mayBe() {
        C.says("MAY BE of y yards: sets of DEEDS with y yards together by which all SAYINGS are right");
        LinenGuilt x = Checks.told("deed 2;deed 3;deed 5;deed 5;");
        mayBe(x, 5, 3, 3, 0, 0);
        mayBe(x, 10, 3, 7, 0, 0);
        mayBe(x, 0, 1, 0, 0, 15);
        mayBe(x, 15, 1, 15, 15, 0);
        Checks.sayings(x, "2 1;");
        mayBe(x, 5, 1, 4, 4, 11);
        mayBe(x, 10, 2, 7, 4, 0);
        mayBe(x, 0, 0, NONE, 0, 0);
        Checks.sayings(x, "2 0;");
        mayBe(x, 5, 2, 3, 0, 4);
        mayBe(x, 10, 1, 11, 11, 4);
        Checks.sayings(x, "3 0;2 0;1 0;0 0;");
        mayBe(x, 0, 1, 0, 0, 15);
        mayBe(x, 5, 0, NONE, 0, 0);
        Checks.sayings(x, "3 1;2 1;1 1;0 1;");
        mayBe(x, 15, 1, 15, 15, 0);
        C.says("MAY BE of y (0 to 72): 0 how many sets, 1 the first (NONE), 2 SURE (bits; 0 without), "
                + "3 DEEDS that are in none (bits; 0 without)");
        LinenGuilt nines = Checks.told(times(8, "deed 9;"));
        mayBe(nines, 72, 1, 255, 255, 0);
        mayBe(nines, 71, 0, NONE, 0, 0);
        mayBe(nines, 0, 1, 0, 0, 255);
        mayBe(nines, 36, 70, 15, 0, 0);
        mayBe(new LinenGuilt(), 0, 1, 0, 0, 0);
        mayBe(new LinenGuilt(), 1, 0, NONE, 0, 0);
        C.wrong("mayBe(73, 0)", x, () -> x.mayBe(73, 0));
        C.wrong("mayBe(-1, 0)", x, () -> x.mayBe(-1, 0));
        C.wrong("mayBe(0, 4)", x, () -> x.mayBe(0, 4));
        C.wrong("mayBe(0, -1)", x, () -> x.mayBe(0, -1));
    }

    private static void ask(LinenGuilt x, int y, int deed, int left) {
        C.due("ask(" + y + ", 0)", deed, x.ask(y, 0));
        C.due("ask(" + y + ", 1)", left, x.ask(y, 1));
    }

    private static void ask() {
        C.says("ASK: the DEED in no line by which, whatever is said, fewest such sets are left at the worst, "
                + "of these the first");
        // of 2 yards the sets 1 2, 1 3, 2 3 and 4, of 3 yards 1 2 3, 1 4, 2 4 and 3 4
        LinenGuilt x = Checks.told("deed 9;deed 1;deed 1;deed 1;deed 2;");
        ask(x, 2, 1, 2);
        ask(x, 3, 1, 2);
        ask(x, 9, 0, 1);
        ask(x, 12, 1, 2);
        Checks.sayings(x, "1 1;");
        ask(x, 2, 2, 1);
        ask(x, 3, 2, 1);
        Checks.sayings(x, "1 0;3 0;");
        ask(x, 3, 0, 1);
        Checks.sayings(x, "1 0;4 1;");
        ask(x, 2, 0, 1);
        ask(x, 3, 2, 1);
        ask(x, 72, 0, 0);
        C.says("0 the DEED, 1 how many sets are left at the worst; NONE: there is no such DEED");
        ask(new LinenGuilt(), 0, NONE, NONE);
        ask(new LinenGuilt(), 5, NONE, NONE);
        LinenGuilt y = Checks.told("deed 1;deed 1;");
        ask(y, 1, 0, 1);
        Checks.sayings(y, "0 1;");
        ask(y, 1, 1, 1);
        Checks.sayings(y, "0 1;1 1;");
        ask(y, 1, NONE, NONE);
        ask(y, 2, NONE, NONE);
        LinenGuilt nines = Checks.told(times(8, "deed 9;"));
        ask(nines, 72, 0, 1);
        ask(nines, 0, 0, 1);
        ask(nines, 1, 0, 0);
        Checks.sayings(nines, "0 1;1 1;2 1;3 1;4 1;5 1;6 1;");
        ask(nines, 72, 7, 1);
        C.wrong("ask(73, 0)", x, () -> x.ask(73, 0));
        C.wrong("ask(-1, 0)", x, () -> x.ask(-1, 0));
        C.wrong("ask(0, 2)", x, () -> x.ask(0, 2));
        C.wrong("ask(0, -1)", x, () -> x.ask(0, -1));
    }

    // ---- BOXES, THIEF

    private static void boxes() {
        String six = times(7, "cell 1;") + "strip 6 9;strip 5 9;strip 1 9;strip 1 9;";
        C.says("BOXES: one on a CELL sees CELLS no more than K away");
        C.due("boxes of 5 in a row, sight 2", 4, Checks.told(six + "sight 2;", "lay 1 0;").boxes());
        C.due("boxes of 6 in a row, sight 2", 1 + 8, Checks.told(six + "sight 2;", "lay 0 0;").boxes());
        C.due("boxes of 6 in a row, sight 0", 63, Checks.told(six + "sight 0;", "lay 0 0;").boxes());
        C.due("boxes of two CELLS 6 away, sight 4", 4, Checks.told(six + "sight 4;", "lay 2 0;lay 3 6;").boxes());
        C.due("boxes of two CELLS 6 away, sight 3", 8, Checks.told(six + "sight 3;", "lay 2 0;lay 3 6;").boxes());
        C.due("boxes of two CELLS 6 away, sight 2", 1 + 16, Checks.told(six + "sight 2;", "lay 2 0;lay 3 6;").boxes());
        C.says("the fewest by which all CELLS on which something lies are seen, of as few the least bits");
        C.due("boxes of 3 in a row", 2, Checks.told(six, "lay 2 0;lay 3 2;").boxes());
        C.due("boxes of one CELL", 1, Checks.told(six, "lay 2 0;").boxes());
        C.due("boxes of one CELL", 32, Checks.told(six, "lay 2 6;").boxes());
        C.due("boxes of two that both see", 1, Checks.told(six, "lay 2 0;lay 3 1;").boxes());
        C.due("boxes, nothing lies", 0, Checks.told(six).boxes());
        C.due("boxes, no CELLS", 0, new LinenGuilt().boxes());
        LinenGuilt all = Checks.told(times(12, "cell 1;") + "strip 6 9;strip 6 9;sight 0;", "lay 0 0;lay 1 6;");
        C.due("boxes of all, sight 0", 4095, all.boxes());
        C.says("CELLS (bits) that are seen from boxes on told CELLS (bits). IllegalArgumentException: bits of no CELLS");
        C.due("seen(0)", 0, all.seen(0));
        C.due("seen(4095)", 4095, all.seen(4095));
        LinenGuilt x = Checks.told(six + "sight 2;");
        C.due("seen(1)", 7, x.seen(1));
        C.due("seen(64)", 16 + 32 + 64, x.seen(64));
        C.due("seen(8)", 2 + 4 + 8 + 16 + 32, x.seen(8));
        C.due("seen(65)", 7 + 112, x.seen(65));
        C.wrong("seen(128)", x, () -> x.seen(128));
        C.wrong("seen(-1)", x, () -> x.seen(-1));
        C.wrong("seen(4096)", all, () -> all.seen(4096));
        LinenGuilt none = new LinenGuilt();
        C.due("seen(0), no CELLS", 0, none.seen(0));
        C.wrong("seen(1), no CELLS", none, () -> none.seen(1));
    }

    private static void thief(LinenGuilt x, int rests, int first, int has) {
        int[] due = {rests, first, has};
        for (int what = 0; what < 3; what++) {
            C.due("thief(" + what + ")", due[what], x.thief(what));
        }
    }

    private static void thief() {
        C.says("THIEF: he goes to a CELL on which something lies, the watchman sits on any CELL");
        thief(Checks.told("cell 1;cell 1;cell 1;strip 1 40;sight 1;", "lay 0 2;"), 2, 201, -40);
        thief(Checks.told("cell 1;cell 1;cell 1;strip 2 40;sight 4;", "lay 0 1;"), 6, 100, -40);
        C.says("the thief has 99 less the GREY of that STRIP, and 99 less than that, if his CELL is seen from there");
        thief(Checks.told("cell 1;strip 1 99;", "lay 0 0;"), 1, 0, -99);
        thief(Checks.told("cell 1;strip 1 1;", "lay 0 0;"), 1, 0, -1);
        thief(Checks.told("cell 9;strip 1 9;", "lay 0 0;day;"), 1, 0, 0);
        // one of GREY 1 is seen, one of GREY 99 is not: he would have 0 there, more than -1
        thief(Checks.told("cell 1;cell 1;strip 1 1;strip 1 99;sight 0;", "lay 0 0;lay 1 1;"), 0, NONE, 0);
        C.says("the watchman has as much less as the thief has; RESTS: neither would have more by another CELL");
        LinenGuilt even = Checks.told("cell 9;cell 0;strip 1 9;strip 1 94;sight 0;", "lay 0 0;lay 1 1;day;mole 1;");
        C.due("WHITE", 0, even.strip(0, 1));
        C.due("as grey as can be", 99, even.strip(1, 1));
        thief(even, 1, 0, 0);
        Checks.work(even, "mole 0;");
        thief(even, 0, NONE, 0);
        thief(Checks.told("cell 1;cell 1;strip 1 7;strip 1 8;", "lay 1 0;lay 0 1;"), 2, 100, -7);
        thief(Checks.told("cell 1;cell 1;strip 1 7;strip 1 7;", "lay 1 0;lay 0 1;"), 4, 0, -7);
        C.says("0 how many RESTS, 1 the first (100 times his CELL, and the watchman's; NONE), 2 what he has by it (0 without)");
        String wide = times(12, "cell 1;") + "strip 1 30;strip 1 20;sight 4;";
        thief(Checks.told(wide, "lay 0 11;"), 5, 1107, -30);
        thief(Checks.told(wide, "lay 0 3;lay 1 10;"), 2, 1006, -20);
        thief(Checks.told(wide), 0, NONE, 0);
        LinenGuilt x = new LinenGuilt();
        thief(x, 0, NONE, 0);
        C.wrong("thief(3)", x, () -> x.thief(3));
        C.wrong("thief(-1)", x, () -> x.thief(-1));
    }

    // ---- SHARES

    private static void share(LinenGuilt x, int strips, int n, int... due) {
        for (int strip = 0; strip < due.length; strip++) {
            C.due("share(" + strip + ", " + strips + ", " + n + ")", due[strip], x.share(strip, strips, n));
        }
    }

    private static void shares() {
        LinenGuilt x = Checks.told("strip 3 9;strip 2 9;strip 1 9;");
        C.says("SHARES of n among told STRIPS (bits) by YARDS: each has n times its YARDS by all YARDS together, cut");
        share(x, 7, 6, 3, 2, 1);
        share(x, 7, 60, 30, 20, 10);
        share(x, 3, 5, 3, 2, 0);
        share(x, 4, 5, 0, 0, 5);
        C.says("of what is left each one more has one, those first of whose n times YARDS most is left by all");
        share(x, 7, 1, 1, 0, 0);
        share(x, 7, 2, 1, 1, 0);
        share(x, 7, 5, 2, 2, 1);
        C.says("of alike ones the first");
        share(x, 7, 3, 2, 1, 0);
        LinenGuilt alike = Checks.told(times(6, "strip 1 9;"));
        share(alike, 63, 5, 1, 1, 1, 1, 1, 0);
        share(alike, 63, 1, 1, 0, 0, 0, 0, 0);
        share(alike, 62, 1, 0, 1, 0, 0, 0, 0);
        C.says("What a STRIP gets of n (0 to 999) by SHARES among told STRIPS (0, if it is none of them)");
        share(x, 7, 0, 0, 0, 0);
        share(x, 7, 999, 500, 333, 166);
        share(x, 6, 999, 0, 666, 333);
        share(x, 0, 999, 0, 0, 0);
        C.wrong("share(0, 7, 1000)", x, () -> x.share(0, 7, 1000));
        C.wrong("share(0, 7, -1)", x, () -> x.share(0, 7, -1));
        C.wrong("share(0, 8, 0)", x, () -> x.share(0, 8, 0));
        C.wrong("share(0, -1, 0)", x, () -> x.share(0, -1, 0));
        C.wrong("share(0, 6, 1000), though none of them", x, () -> x.share(0, 6, 1000));
        C.missing("share(3, 8, 1000)", x, () -> x.share(3, 8, 1000));
        C.missing("share(-1, 7, 0)", x, () -> x.share(-1, 7, 0));
    }

    // ---- rows

    private static void rows() {
        C.says("The longest row of CELLS on which nothing lies (what 0), the first of it (1; of alike ones the first; NONE)");
        String common = CELLS + "strip 2 30;strip 1 40;strip 6 50;";
        LinenGuilt x = Checks.told(common);
        pair("free, none lies", 6, 0, x.free(0), x.free(1));
        Checks.work(x, "lay 0 2;");
        pair("free, two alike", 2, 0, x.free(0), x.free(1));
        Checks.work(x, "lay 1 0;");
        pair("free, the last row", 2, 4, x.free(0), x.free(1));
        Checks.work(x, "fold 0;fold 1;lay 2 0;");
        pair("free, none is", 0, NONE, x.free(0), x.free(1));
        pair("free, no CELLS", 0, NONE, new LinenGuilt().free(0), new LinenGuilt().free(1));
        C.wrong("free(2)", x, () -> x.free(2));
        C.wrong("free(-1)", x, () -> x.free(-1));
        C.says("The greyest STRIP that lies (what 0), of alike ones the first, its GREY (1); NONE both: none lies");
        LinenGuilt y = Checks.told("cell 9;cell 9;cell 9;strip 1 9;strip 1 9;strip 1 50;");
        pair("greyest, none lies", NONE, NONE, y.greyest(0), y.greyest(1));
        Checks.work(y, "lay 1 0;");
        pair("greyest, one lies", 1, 9, y.greyest(0), y.greyest(1));
        Checks.work(y, "lay 0 1;");
        pair("greyest, two alike", 0, 9, y.greyest(0), y.greyest(1));
        Checks.work(y, "mole 0;");
        pair("greyest, the second", 1, 14, y.greyest(0), y.greyest(1));
        y.undo();
        Checks.work(y, "day;");
        pair("greyest, all WHITE", 0, 0, y.greyest(0), y.greyest(1));
        LinenGuilt six = Checks.told(times(12, "cell 0;") + times(5, "strip 2 9;") + "strip 2 99;",
                "lay 0 0;lay 1 2;lay 2 4;lay 3 6;lay 4 8;lay 5 10;");
        pair("greyest, the last of six", 5, 99, six.greyest(0), six.greyest(1));
        pair("free, all six lie", 0, NONE, six.free(0), six.free(1));
        C.due("spare(), all six lie", 54, six.spare());
        C.due("told(7), all six lie", 6, six.told(7));
        C.wrong("greyest(2)", y, () -> y.greyest(2));
        C.wrong("greyest(-1)", y, () -> y.greyest(-1));
        sunniest(common);
        sunny(common);
    }

    private static void sunniest(String common) {
        C.says("The CELL from which a STRIP, dry and without buttermilk, would WHITEN most now on the empty common (what 0), "
                + "of alike ones the first, how much (1); NONE both: there are not as many CELLS");
        LinenGuilt x = Checks.told(common, "lay 1 1;wet 1;milk 1;");
        pair("sunniest(0), alike ones, another lies there", 0, 5, x.sunniest(0, 0), x.sunniest(0, 1));
        pair("sunniest(1), it lies there wetted", 1, 7, x.sunniest(1, 0), x.sunniest(1, 1));
        pair("sunniest(2), as many CELLS", 0, 3, x.sunniest(2, 0), x.sunniest(2, 1));
        Checks.law(x, "milk * 50 + wet * 9 + first");
        C.due("strip(1, 5), as it lies", 50 + 9 + 1, x.strip(1, 5));
        pair("sunniest(1), the last CELL", 5, 5, x.sunniest(1, 0), x.sunniest(1, 1));
        pair("sunniest(0), the last row", 4, 4, x.sunniest(0, 0), x.sunniest(0, 1));
        Checks.law(x, "0 - 1");
        pair("sunniest(0), by none it WHITENS", 0, 0, x.sunniest(0, 0), x.sunniest(0, 1));
        Checks.law(x, "99");
        pair("sunniest(1), more than its GREY", 0, 99, x.sunniest(1, 0), x.sunniest(1, 1));
        LinenGuilt few = Checks.told("cell 1;cell 1;strip 2 9;strip 3 9;rain 1;rain 4;", "day;");
        pair("sunniest(0), of rain now", 0, 5, few.sunniest(0, 0), few.sunniest(0, 1));
        pair("sunniest(1), not as many CELLS", NONE, NONE, few.sunniest(1, 0), few.sunniest(1, 1));
        C.wrong("sunniest(0, 2)", few, () -> few.sunniest(0, 2));
        C.wrong("sunniest(0, -1)", few, () -> few.sunniest(0, -1));
        C.missing("sunniest(2, 2)", few, () -> few.sunniest(2, 2));
        C.missing("sunniest(-1, 0)", few, () -> few.sunniest(-1, 0));
    }

    private static void sunny(String common) {
        C.says("Of all rows of n CELLS (1 to 12) on which nothing lies the one of most SUN together: 0 its first CELL "
                + "(of alike ones the first), 1 that SUN; NONE both: there is none");
        LinenGuilt x = Checks.told(common);
        pair("sunny(1)", 1, 7, x.sunny(1, 0), x.sunny(1, 1));
        pair("sunny(2), alike ones", 0, 10, x.sunny(2, 0), x.sunny(2, 1));
        pair("sunny(6)", 0, 22, x.sunny(6, 0), x.sunny(6, 1));
        pair("sunny(7)", NONE, NONE, x.sunny(7, 0), x.sunny(7, 1));
        Checks.work(x, "lay 1 1;");
        pair("sunny(1), another lies there", 3, 5, x.sunny(1, 0), x.sunny(1, 1));
        pair("sunny(2)", 3, 10, x.sunny(2, 0), x.sunny(2, 1));
        pair("sunny(4)", 2, 12, x.sunny(4, 0), x.sunny(4, 1));
        pair("sunny(5)", NONE, NONE, x.sunny(5, 0), x.sunny(5, 1));
        LinenGuilt dark = Checks.told(times(12, "cell 0;"));
        pair("sunny(12), SUN 0", 0, 0, dark.sunny(12, 0), dark.sunny(12, 1));
        pair("sunny(1), no CELLS", NONE, NONE, new LinenGuilt().sunny(1, 0), new LinenGuilt().sunny(1, 1));
        C.wrong("sunny(0, 0)", x, () -> x.sunny(0, 0));
        C.wrong("sunny(13, 0)", x, () -> x.sunny(13, 0));
        C.wrong("sunny(-1, 0)", x, () -> x.sunny(-1, 0));
        C.wrong("sunny(1, 2)", x, () -> x.sunny(1, 2));
        C.wrong("sunny(1, -1)", x, () -> x.sunny(1, -1));
    }

    // ---- SUMMERS

    private static final int[] SEEDS = {0, 1, 2, 3, 5, 7, 11, 12345, 65535, 65536, 1 << 30, -1, -2, -7, -65536,
        Integer.MAX_VALUE, Integer.MIN_VALUE, 1103515245, 987654321, -987654321};

    /** DRAW by DRAW what is left of the SEED, counted in 64 bits. */
    private static int[] draws(int seed) {
        int[] out = new int[24];
        long s = seed & 0xffffffffL;
        for (int i = 0; i < out.length; i++) {
            s = (s * 1103515245L + 12345L) % 4294967296L;
            out[i] = (int) (s / 65536 % 32768);
        }
        return out;
    }

    private static void summers() {
        LinenGuilt x = lawful("rain", "cell 0;strip 1 99;rain 7;", "lay 0 0;");
        C.says("DRAW: the SEED (32 bits) becomes itself times 1,103,515,245, and 12,345 (it wraps); its bits 16 to 30");
        for (int seed : SEEDS) {
            C.due("summer(" + seed + ", 1, 16, 0, 0)", 99 - draws(seed)[1] % 10, x.summer(seed, 1, 16, 0, 0));
        }
        C.says("DRAW by 16 below Q: it rains DRAW by 10 this DAY (else as told)");
        for (int seed : SEEDS) {
            int q = draws(seed)[0] % 16;
            C.due("summer(" + seed + ", 1, " + q + ", 0, 3)", 0, x.summer(seed, 1, q, 0, 3));
            C.due("summer(" + seed + ", 1, " + q + ", 0, 0)", 99 - 7, x.summer(seed, 1, q, 0, 0));
            C.due("summer(" + seed + ", 1, " + (q + 1) + ", 0, 3)", 1, x.summer(seed, 1, q + 1, 0, 3));
            C.due("summer(" + seed + ", 1, " + (q + 1) + ", 0, 0)", 99 - draws(seed)[1] % 10, x.summer(seed, 1, q + 1, 0, 0));
        }
        molesOfASummer();
        withoutCells();
        C.says("then day");
        LinenGuilt wet = lawful("wet * 20 + milk * 7 + rain + day", "cell 0;strip 1 99;rain 1;rain 3;", "day;lay 0 0;wet 0;milk 0;");
        C.due("summer of one DAY", 99 - 20 - 7 - 3 - 1, wet.summer(1, 1, 0, 0, 0));
        C.due("summer of two DAYS", 68 - 1 - 2, wet.summer(1, 2, 0, 0, 0));
        C.due("summer of three DAYS", 65 - 3 - 3, wet.summer(1, 3, 0, 0, 0));
        boundsOfASummer();
    }

    private static void molesOfASummer() {
        C.says("DRAW by 16 below M: a mole at the CELL that is DRAW by how many there are, as by mole, if it can");
        for (int cell = 0; cell < 5; cell++) {
            LinenGuilt x = lawful("0", times(5, "cell 0;") + "strip 1 50;", "lay 0 " + cell + ";");
            for (int seed : SEEDS) {
                int[] draws = draws(seed);
                int m = draws[1] % 16;
                int hit = draws[2] % 5 == cell ? 1 : 0;
                String call = "cell " + cell + ", summer(" + seed + ", 1, 0, ";
                C.due(call + m + ", 2)", 0, x.summer(seed, 1, 0, m, 2));
                C.due(call + (m + 1) + ", 2)", hit, x.summer(seed, 1, 0, m + 1, 2));
                C.due(call + (m + 1) + ", 0)", 50 + 5 * hit, x.summer(seed, 1, 0, m + 1, 0));
                // behind the rain's own DRAW
                hit = draws[3] % 5 == cell ? 1 : 0;
                C.due(call.replace(" 0, ", " 16, ") + "16, 2)", hit, x.summer(seed, 1, 16, 16, 2));
            }
        }
        LinenGuilt full = lawful("0", "cell 0;strip 1 97;", "lay 0 0;");
        C.due("summer, 99 at most", 99, full.summer(1, 9, 0, 16, 0));
        C.due("summer, moles that could", 9, full.summer(1, 9, 0, 16, 2));
        C.due("summer, nothing lies", 0, Checks.told("cell 0;strip 1 97;").summer(1, 9, 0, 16, 2));
        LinenGuilt ahead = lawful("grey", "cell 0;strip 1 50;", "lay 0 0;");
        C.due("summer, the mole is ahead of the day", 1, ahead.summer(1, 1, 0, 16, 1));
        C.due("summer, WHITE ones greyer, and WHITE again", 0, ahead.summer(1, 3, 0, 16, 0));
    }

    private static void withoutCells() {
        C.says("(without CELLS none, and no such DRAW)");
        LinenGuilt x = Checks.told("strip 1 9;");
        LinenGuilt one = Checks.told("cell 1;strip 1 9;");
        for (int seed : SEEDS) {
            for (int m = 0; m <= 16; m += 8) {
                C.due("summer(" + seed + ", 5, 8, " + m + ", 3)", rains(seed, 5, 8, m, 0), x.summer(seed, 5, 8, m, 3));
                C.due("summer(" + seed + ", 5, 8, " + m + ", 2)", 0, x.summer(seed, 5, 8, m, 2));
                C.due("with a CELL, summer(" + seed + ", 5, 8, " + m + ", 3)", rains(seed, 5, 8, m, 1),
                        one.summer(seed, 5, 8, m, 3));
            }
        }
    }

    /** By Q and by M there is a DRAW each DAY, even if none can be below them. */
    private static int rains(int seed, int days, int q, int m, int cells) {
        int[] draws = draws(seed);
        int at = 0;
        int rains = 0;
        for (int day = 0; day < days; day++) {
            boolean rain = draws[at] % 16 < q;
            at += rain ? 2 : 1;
            boolean mole = draws[at] % 16 < m;
            at += mole && cells > 0 ? 2 : 1;
            rains += rain ? 1 : 0;
        }
        return rains;
    }

    private static void boundsOfASummer() {
        C.says("A SUMMER of so many DAYS (1 to 96), Q, M (0 to 16): 0 GREY of all then, 1 WHITE ones then (bits), "
                + "2 moles that could, 3 DAYS of drawn rain");
        LinenGuilt x = lawful("1", "cell 0;cell 0;cell 0;strip 1 99;strip 1 9;strip 1 96;", "lay 0 0;lay 1 1;lay 2 2;");
        C.due("summer of 1 DAY", 204 - 3, x.summer(4, 1, 0, 0, 0));
        C.due("summer of 96 DAYS", 3, x.summer(4, 96, 0, 0, 0));
        C.due("summer of 96 DAYS", 2 + 4, x.summer(4, 96, 0, 0, 1));
        C.due("summer of 95 DAYS", 2, x.summer(4, 95, 0, 0, 1));
        for (int seed : SEEDS) {
            C.due("summer(" + seed + ", 96, 16, 16, 3)", 96, x.summer(seed, 96, 16, 16, 3));
            C.due("summer(" + seed + ", 96, 16, 16, 2)", 96, x.summer(seed, 96, 16, 16, 2));
            C.due("summer(" + seed + ", 96, 0, 0, 3)", 0, x.summer(seed, 96, 0, 0, 3));
            C.due("summer(" + seed + ", 96, 0, 0, 2)", 0, x.summer(seed, 96, 0, 0, 2));
        }
        C.wrong("no DAYS", x, () -> x.summer(1, 0, 0, 0, 0));
        C.wrong("97 DAYS", x, () -> x.summer(1, 97, 0, 0, 0));
        C.wrong("Q 17", x, () -> x.summer(1, 1, 17, 0, 0));
        C.wrong("Q -1", x, () -> x.summer(1, 1, -1, 0, 0));
        C.wrong("M 17", x, () -> x.summer(1, 1, 0, 17, 0));
        C.wrong("M -1", x, () -> x.summer(1, 1, 0, -1, 0));
        C.wrong("what 4", x, () -> x.summer(1, 1, 0, 0, 4));
        C.wrong("what -1", x, () -> x.summer(1, 1, 0, 0, -1));
    }

    private static void spans() {
        C.says("Of so many SEEDS (1 to 20; seed, seed and 1, ..): 0 the least GREY of all then, 1 the most, "
                + "2 by how many a STRIP is WHITE then");
        LinenGuilt x = lawful("rain", "cell 0;cell 0;strip 1 9;strip 1 5;rain 4;", "lay 0 0;lay 1 1;");
        for (int seed : SEEDS) {
            spans(x, seed, 1);
            spans(x, seed, 2);
            spans(x, seed, 20);
        }
        spans(x, Integer.MAX_VALUE - 3, 20);
        C.wrong("no SEEDS", x, () -> x.span(1, 0, 1, 0, 0, 0, 0));
        C.wrong("21 SEEDS", x, () -> x.span(1, 21, 1, 0, 0, 0, 0));
        C.wrong("no DAYS", x, () -> x.span(1, 1, 0, 0, 0, 0, 0));
        C.wrong("97 DAYS", x, () -> x.span(1, 1, 97, 0, 0, 0, 0));
        C.wrong("Q 17", x, () -> x.span(1, 1, 1, 17, 0, 0, 0));
        C.wrong("Q -1", x, () -> x.span(1, 1, 1, -1, 0, 0, 0));
        C.wrong("M 17", x, () -> x.span(1, 1, 1, 0, 17, 0, 0));
        C.wrong("M -1", x, () -> x.span(1, 1, 1, 0, -1, 0, 0));
        C.wrong("what 3", x, () -> x.span(1, 1, 1, 0, 0, 3, 0));
        C.wrong("what -1", x, () -> x.span(1, 1, 1, 0, 0, -1, 0));
        C.due("96 DAYS", 0, x.span(1, 1, 96, 0, 0, 0, 0));
        C.says("(IllegalArgumentException: no such STRIP, also for 0, 1.)");
        LinenGuilt none = Checks.told("cell 1;");
        for (int what = 0; what < 3; what++) {
            int asked = what;
            C.due("the last STRIP", what == 2 ? 0 : 6, x.span(1, 1, 1, 0, 0, asked, 1));
            C.wrong("STRIP 2, what " + what, x, () -> x.span(1, 1, 1, 0, 0, asked, 2));
            C.wrong("STRIP -1, what " + what, x, () -> x.span(1, 1, 1, 0, 0, asked, -1));
            C.wrong("without STRIPS, what " + what, none, () -> none.span(1, 1, 1, 0, 0, asked, 0));
        }
    }

    private static void spans(LinenGuilt x, int seed, int many) {
        int least = Integer.MAX_VALUE;
        int most = 0;
        int white = 0;
        for (int i = 0; i < many; i++) {
            int grey = x.summer(seed + i, 1, 16, 0, 0);
            least = Math.min(least, grey);
            most = Math.max(most, grey);
            white += x.summer(seed + i, 1, 16, 0, 1) >> 1 & 1;
        }
        String call = "span(" + seed + ", " + many + ", 1, 16, 0, ";
        C.due(call + "0, 1)", least, x.span(seed, many, 1, 16, 0, 0, 1));
        C.due(call + "1, 1)", most, x.span(seed, many, 1, 16, 0, 1, 1));
        C.due(call + "2, 1)", white, x.span(seed, many, 1, 16, 0, 2, 1));
    }
}
