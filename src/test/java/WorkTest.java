/** Promises 5 and 8 to 14, 36 and 37: steps and days, what is told of them, work undone, images. */
public final class WorkTest {
    private static final Checks C = new Checks("WorkTest");
    static final String COMMON = "cell 3;cell 7;cell 0;cell 5;cell 5;cell 2;strip 2 30;strip 1 4;strip 3 60;"
            + "deed 3;deed 2;deed 5;deed 2;rain 2;rain 0;rain 5;milk 3;sight 1;";

    public static void main(String[] args) {
        laying();
        wetting();
        buttermilk();
        moles();
        days();
        agains();
        undoing();
        images();
        tellings();
        woulds();
        rooms();
        C.finish();
    }

    private static void steps(String text, LinenGuilt x, int done, int refused) {
        C.due("5: work of '" + text + "'", done, Checks.work(x, text));
        C.due("9: STEPS REFUSED by '" + text + "'", refused, x.told(10));
    }

    private static void laying() {
        LinenGuilt x = Checks.told(COMMON);
        steps("lay 2 4;lay 2 3;lay 2 0;lay 0 2;lay 0 5;", x, 1, 4);
        C.due("11: where it lies", 3, x.strip(2, 2));
        steps("lay 0 2;lay 1 5;lay 1 2;lay 0 0;", x, 2, 2);
        C.due("11: where it lies", 0, x.strip(0, 2));
        C.due("11: where it lies", 2, x.strip(1, 2));
        C.due("9: all lie", 3, x.told(7));
        int[] due = {0, 0, 1, 2, 2, 2};
        for (int cell = 0; cell < 6; cell++) {
            C.due("10: on CELL " + cell, due[cell], x.cell(cell, 1));
        }
        steps("fold 1;fold 1;lay 1 2;fold 0;lay 0 0;lay 0 0;", x, 4, 2);
        C.due("9: none is greyer", 94, x.told(11));
        steps("", x, 0, 0);
    }

    private static void wetting() {
        LinenGuilt x = Checks.told(COMMON);
        steps("wet 0;lay 0 0;wet 0;wet 0;", x, 3, 1);
        C.due("11: wetted", 2, x.strip(0, 3));
        steps("again 9 [wet 0;];", x, 7, 2);
        C.due("11: wetted 9 times", 9, x.strip(0, 3));
        C.due("11: WHITENS", 5 + 2 + 18, x.strip(0, 5));
        steps("fold 0;lay 0 0;", x, 2, 0);
        C.due("5: dry, once folded", 0, x.strip(0, 3));
        steps("wet 0;day;", x, 2, 0);
        C.due("5: dry the next DAY", 0, x.strip(0, 3));
        C.due("5: less grey", 30 - 9, x.strip(0, 1));
    }

    private static void buttermilk() {
        LinenGuilt x = Checks.told(COMMON);
        steps("milk 0;lay 0 0;milk 0;milk 0;lay 1 2;milk 1;", x, 4, 2);
        C.due("11: buttermilk", 1, x.strip(0, 4));
        C.due("11: none", 0, x.strip(2, 4));
        C.due("9: buttermilk that is left", 1, x.told(6));
        steps("fold 0;lay 0 0;", x, 2, 0);
        C.due("5: without buttermilk, once folded", 0, x.strip(0, 4));
        C.due("9: what is used is used", 1, x.told(6));
        steps("milk 0;lay 2 3;milk 2;", x, 2, 1);
        C.due("9: none is left", 0, x.told(6));
        steps("day;milk 0;", x, 1, 1);
        C.due("5: without buttermilk the next DAY", 0, x.strip(0, 4) + x.strip(1, 4));
        LinenGuilt y = Checks.told("cell 1;strip 1 50;", "lay 0 0;milk 0;");
        C.due("4: buttermilk in the LAW", 1, Checks.law(y, "milk * 7 + 1"));
        C.due("4: WHITENS", 8, y.strip(0, 5));
        steps("day;", y, 1, 0);
        C.due("4: WHITENS without", 1, y.strip(0, 5));
        C.due("9: of 5 without a telling", 4, y.told(6));
    }

    private static void moles() {
        LinenGuilt x = Checks.told("cell 1;cell 1;cell 1;strip 2 93;strip 1 1;", "lay 0 0;");
        steps("mole 2;mole 0;", x, 1, 1);
        C.due("5: greyer by 5", 98, x.strip(0, 1));
        steps("mole 1;mole 0;", x, 2, 0);
        C.due("5: 99 at most", 99, x.strip(0, 1));
        steps("fold 0;mole 0;", x, 1, 1);
    }

    private static void days() {
        LinenGuilt x = Checks.told(COMMON, "lay 0 3;lay 1 1;");
        steps("day;", x, 1, 0);
        C.due("5: less grey by what it WHITENS", 23, x.strip(0, 1));
        C.due("5: 0 at least", 0, x.strip(1, 1));
        C.due("5: a folded one stays", 60, x.strip(2, 1));
        C.due("9: the DAY", 1, x.told(4));
        C.due("9: its rain", 0, x.told(5));
        C.due("9: WHITE ones", 2, x.told(8));
        C.due("9: GREY of all", 83, x.told(11));
        steps("day;", x, 1, 0);
        C.due("9: rain of the third", 5, x.told(5));
        C.due("5: less grey", 18, x.strip(0, 1));
        steps("day;", x, 1, 0);
        C.due("9: behind the last rain the first", 2, x.told(5));
        C.due("5: less grey", 8, x.strip(0, 1));
        LinenGuilt y = Checks.told("cell 1;strip 1 9;");
        steps("again 30 [again 30 [day;];];", y, 192, 0);
        steps("again 30 [again 30 [day;];];", y, 192, 0);
        C.due("9: the DAY", 384, y.told(4));
        steps("again 30 [again 30 [day;];];", y, 116, 76);
        C.due("9: the last DAY", 500, y.told(4));
        steps("day;lay 0 0;day;", y, 1, 2);
        C.due("15: DAYS go by beyond 500", 6, y.ahead(3, 0));
        Checks.law(y, "day-499");
        C.due("15: and count on", 9 - 1 - 2 - 3, y.ahead(3, 0));
        C.due("9: nothing stays changed", 500, y.told(4));
    }

    private static void agains() {
        LinenGuilt x = Checks.told(COMMON);
        steps("again 3 [lay 0 0;wet 0;fold 0;];", x, 9, 0);
        steps("again 0 [lay 0 0;];", x, 0, 0);
        steps("again 30 [];lay 0 0;fold 0;", x, 2, 0);
        // an again that is come to begins as well: 1 + 7 * 28 = 197, then three more
        steps("again 7 [again 27 [fold 0;];];lay 0 0;lay 1 2;lay 2 3;lay 2 3;", x, 3, 189);
        // exactly 200 begun: the last one of them still is
        LinenGuilt y = Checks.told(COMMON);
        steps("again 30 [day;day;day;day;day;day;];again 18 [day;];day;", y, 198, 0);
        LinenGuilt z = Checks.told(COMMON);
        steps("again 20 [again 20 [lay 0 0;];];", z, 1, 188);
        steps("again 30 [again 30 [again 30 [again 30 [again 30 [again 30 [];];];];];];day;", z, 0, 0);
        C.due("5: what would come behind is left out", 0, z.told(4));
    }

    private static void undoing() {
        LinenGuilt x = Checks.told(COMMON);
        C.due("8: none", -1, x.undo());
        steps("lay 0 0;wet 0;milk 0;lay 0 0;", x, 3, 1);
        C.due("8: none to restore", -1, x.restore());
        C.due("9: -1 leaves them", 1, x.told(10));
        steps("day;mole 0;fold 0;fold 0;", x, 3, 1);
        steps("fold 0;", x, 0, 1);
        steps("", x, 0, 0);
        C.due("38: WORKS that can be undone", 4, x.count(2));
        C.due("8: one of no STEPS", 3, x.undo());
        steps("fold 0;", x, 0, 1);
        C.due("8: one REFUSED", 3, x.undo());
        C.due("9: 0 behind undo()", 0, x.told(10));
        C.due("8: another", 2, x.undo());
        C.due("8: with DAYS", 1, x.undo());
        C.due("8: DAY", 0, x.told(4));
        C.due("8: GREY", 30, x.strip(0, 1));
        C.due("8: where it lay", 0, x.strip(0, 2));
        C.due("8: wetted", 1, x.strip(0, 3));
        C.due("8: buttermilk", 1, x.strip(0, 4));
        C.due("8: buttermilk left", 2, x.told(6));
        Checks.law(x, "5");
        Checks.sayings(x, "0 1;");
        C.due("8: the last", 0, x.undo());
        C.due("8: folded", -1, x.strip(0, 2));
        C.due("8: buttermilk left", 3, x.told(6));
        C.due("8: the LAW stays", 5, x.would(0, 1, 0, 0, 0, 0, 0, 0));
        C.due("8: SAYINGS stay", 1, x.told(9));
        steps("fold 0;", x, 0, 1);
        x.undo();
        C.due("8: none is left", -1, x.undo());
        for (int i = 1; i <= 16; i++) {
            steps("day;", x, 1, 0);
            C.due("39: WORKS", i, x.count(2));
        }
        C.due("5: a 17th", -20, Checks.work(x, "day;"));
        C.due("9: the DAY", 16, x.told(4));
        for (int i = 15; i >= 0; i--) {
            C.due("8: undo()", i, x.undo());
            C.due("8: the DAY", i, x.told(4));
        }
    }

    private static void images() {
        LinenGuilt x = Checks.told(COMMON);
        C.due("37: none", -1, x.restore());
        steps("lay 0 0;milk 0;wet 0;day;wet 0;wet 0;", x, 6, 0);
        C.due("36: image()", 1, x.image());
        steps("lay 0 0;lay 1 2;milk 1;", x, 2, 1);
        C.due("36: image()", 2, x.image());
        C.due("9: image() leaves STEPS REFUSED", 1, x.told(10));
        steps("day;day;lay 2 3;", x, 3, 0);
        C.due("36: image()", 3, x.image());
        C.due("36: there are 3", -1, x.image());
        C.due("39: IMAGES", 3, x.count(0));
        steps("again 9 [day;];fold 2;fold 2;", x, 10, 1);
        C.due("37: restore()", 2, x.restore());
        C.due("9: 0 behind restore()", 0, x.told(10));
        C.due("37: the DAY", 3, x.told(4));
        C.due("37: WORKS", 3, x.count(2));
        x.undo();
        x.undo();
        x.undo();
        C.due("37: all undone", 0, x.told(7));
        Checks.law(x, "8");
        C.due("37: restore()", 1, x.restore());
        C.due("37: the DAY", 1, x.told(4));
        C.due("37: a STRIP lies", 2, x.strip(1, 2));
        C.due("37: buttermilk", 1, x.strip(1, 4));
        C.due("37: buttermilk left", 1, x.told(6));
        C.due("37: wetted", 2, x.strip(0, 3));
        C.due("37: grey", 30 - 5 - 2 - 2, x.strip(0, 1));
        C.due("37: the LAW stays", 8, x.strip(0, 5));
        C.due("37: WORKS to undo", 1, x.undo());
        C.due("37: as ahead of it", -1, x.strip(1, 2));
        C.due("37: WORKS to undo", 0, x.undo());
        C.due("37: as ahead of all", -1, x.strip(0, 2));
        C.due("37: the last", 0, x.restore());
        C.due("37: none", -1, x.restore());
        C.due("37: the DAY", 1, x.told(4));
        C.due("37: WORKS", 1, x.count(2));
        // works done behind the image, instead of those that it has, leave its own alone
        LinenGuilt y = Checks.told(COMMON);
        steps("lay 0 0;", y, 1, 0);
        steps("lay 1 2;", y, 1, 0);
        y.image();
        y.undo();
        y.undo();
        steps("again 9 [day;];", y, 9, 0);
        steps("lay 2 3;", y, 1, 0);
        steps("lay 0 0;", y, 1, 0);
        C.due("37: restore()", 0, y.restore());
        C.due("37: its own WORKS", 1, y.undo());
        C.due("37: as ahead of the second", 0, y.strip(0, 2));
        C.due("37: the DAY", 0, y.told(4));
        C.due("37: STRIPS that lie", 1, y.told(7));
        C.due("37: its own WORKS", 0, y.undo());
        C.due("37: the DAY", 0, y.told(4));
        C.due("37: none lies", 0, y.told(7));
        C.due("36: again one", 1, x.image());
        x.common(0);
        C.due("3: no IMAGES", -1, x.restore());
    }

    private static void tellings() {
        LinenGuilt x = Checks.told(COMMON, "lay 0 3;lay 1 1;");
        int[] due = {6, 3, 4, 3, 0, 2, 3, 2, 0, 0, 0, 94};
        for (int what = 0; what < due.length; what++) {
            C.due("9: told(" + what + ")", due[what], x.told(what));
        }
        C.wrong("9: told(-1)", x, () -> x.told(-1));
        C.wrong("9: told(12)", x, () -> x.told(12));
        C.due("10: SUN", 7, x.cell(1, 0));
        C.due("10: SUN of the last", 2, x.cell(5, 0));
        C.due("10: nothing lies on it", -1, x.cell(2, 1));
        C.missing("10: cell(6, 0)", x, () -> x.cell(6, 0));
        C.missing("10: cell(-1, 0)", x, () -> x.cell(-1, 0));
        C.missing("10: cell(6, 2), ahead of others", x, () -> x.cell(6, 2));
        C.wrong("10: cell(0, 2)", x, () -> x.cell(0, 2));
        C.wrong("10: cell(0, -1)", x, () -> x.cell(0, -1));
        int[] strip = {2, 30, 3, 0, 0, 7};
        for (int what = 0; what < strip.length; what++) {
            C.due("11: strip(0, " + what + ")", strip[what], x.strip(0, what));
        }
        C.due("11: folded, where", -1, x.strip(2, 2));
        C.due("11: folded, WHITENS", 0, x.strip(2, 5));
        C.due("11: WHITENS more than its GREY", 9, x.strip(1, 5));
        C.missing("11: strip(3, 0)", x, () -> x.strip(3, 0));
        C.missing("11: strip(-1, 9)", x, () -> x.strip(-1, 9));
        C.wrong("11: strip(0, 6)", x, () -> x.strip(0, 6));
        C.wrong("11: strip(0, -1)", x, () -> x.strip(0, -1));
        C.due("12: deed(2)", 5, x.deed(2));
        C.due("12: deed(0)", 3, x.deed(0));
        C.due("12: deed(3)", 2, x.deed(3));
        C.missing("12: deed(4)", x, () -> x.deed(4));
        C.missing("12: deed(-1)", x, () -> x.deed(-1));
        C.due("38: status(0)", 7, x.status(0));
        C.due("38: status(1)", 6, x.status(1));
        C.due("38: status(2)", -1, x.status(2));
        C.due("38: status(-1)", -1, x.status(-1));
        x.image();
        C.wrong("38: told(99)", x, () -> x.told(99));
        x.restore();
        C.due("38: no IMAGE keeps it", 7, x.status(1));
        x.common(0);
        C.due("38: nor does a COMMON change it", 7, x.status(0));
        C.due("39: count(3)", -1, x.count(3));
        C.due("39: count(-1)", -1, x.count(-1));
    }

    private static void woulds() {
        LinenGuilt x = Checks.told(COMMON, "lay 0 3;");
        C.due("13: would", 54 / 6 + 9 + 18, x.would(54, 6, 99, 9, 9, 1, 500, 11));
        C.due("13: least of all", 0, x.would(0, 1, 0, 0, 0, 0, 0, 0));
        Checks.law(x, "sun * 2 - grey");
        C.due("13: 99 at most", 99, x.would(50, 1, 0, 0, 0, 0, 0, 0));
        C.due("13: 0 at least", 0, x.would(5, 1, 11, 0, 0, 0, 0, 0));
        C.due("13: by the LAW", 9, x.would(10, 1, 11, 0, 0, 0, 0, 0));
        int[] most = {54, 6, 99, 9, 9, 1, 500, 11};
        for (int i = 0; i < 8; i++) {
            int[] v = most.clone();
            v[i]++;
            C.wrong("13: would, number " + i + " too great", x,
                    () -> x.would(v[0], v[1], v[2], v[3], v[4], v[5], v[6], v[7]));
            v[i] = i == 1 ? 0 : -1;
            C.wrong("13: would, number " + i + " too small", x,
                    () -> x.would(v[0], v[1], v[2], v[3], v[4], v[5], v[6], v[7]));
        }
    }

    private static void rooms() {
        LinenGuilt x = Checks.told(COMMON, "lay 0 3;");
        C.due("14: own CELLS are free", true, x.fits(0, 3));
        C.due("14: over its own", true, x.fits(0, 2));
        C.due("14: at the end", true, x.fits(0, 4));
        C.due("14: not as many CELLS", false, x.fits(0, 5));
        C.due("14: another lies there", false, x.fits(1, 4));
        C.due("14: ahead of it", true, x.fits(2, 0));
        C.due("14: into it", false, x.fits(2, 1));
        C.due("14: behind it", true, x.fits(1, 5));
        C.missing("14: fits(3, 0)", x, () -> x.fits(3, 0));
        C.missing("14: fits(0, 6)", x, () -> x.fits(0, 6));
        C.missing("14: fits(0, -1)", x, () -> x.fits(0, -1));
        C.missing("14: fits(-1, 0)", x, () -> x.fits(-1, 0));
    }
}
