/** Promises 1 to 7: a new object, the tape, the texts and their faults. */
public final class TextsTest {
    private static final Checks C = new Checks("TextsTest");

    public static void main(String[] args) {
        newObject();
        feeding();
        commonIsTold();
        commonFaults();
        lawIsTold();
        lawFaults();
        workFaults();
        sayingsAreTold();
        faultPlaces();
        C.finish();
    }

    private static void newObject() {
        LinenGuilt x = new LinenGuilt();
        int[] due = {0, 0, 0, 0, 0, 0, 5, 0, 0, 0, 0, 0};
        for (int what = 0; what < due.length; what++) {
            C.due("1: new, told(" + what + ")", due[what], x.told(what));
        }
        for (int what = 0; what < 3; what++) {
            C.due("1: new, count(" + what + ")", 0, x.count(what));
        }
        C.due("1: new, fault()", -1, x.fault());
        C.due("1: new, would by the plain law", 3 + 4 + 10, x.would(7, 2, 0, 4, 5, 0, 0, 0));
        C.due("1: NONE", -1, LinenGuilt.NONE);
        C.due("1: new, common(0)", 0, x.common(0));
    }

    private static void feeding() {
        LinenGuilt x = new LinenGuilt();
        for (int i = 1; i <= 30; i++) {
            C.due("2: feed", 20 * i, x.feed(0x63656c6c, 0x20343b20, 0x20202020, 0x20202020, 0x20202020));
        }
        C.due("2: feed on a full tape", -1, x.feed(0, 0, 0, 0, 0));
        C.due("2: bytes of a full tape", 600, x.count(1));
        C.due("2: 12 cells of 600 bytes, the 13th too many", -7, x.common(600));
        C.due("2: at the 13th word", 240, x.fault());
        C.due("2: the tape is empty", 0, x.count(1));
        C.due("2: feed anew", 20, x.feed(0x63656c6c, 0x20343bff, 0x80808080, 0, 0));
        C.due("2: a byte above 127 can't stand there", -9, x.common(8));
        C.due("2: its place", 7, x.fault());
        x.feed(0x20202020, 0x20202020, 0x20202020, 0x20202020, 0x20636565);
        x.feed(0x6c203130, 0x3b000000, 0, 0, 0);
        C.due("2: bytes join over feeds", -9, x.common(27));
        C.due("2: at that word", 17, x.fault());
    }

    private static void commonIsTold() {
        LinenGuilt x = new LinenGuilt();
        Checks.feed(x, "cell 0;cell 9;strip 6 99;strip 1 1;deed 1;deed 9;rain 9;rain 0;milk 0;milk 99;sight 0;sight 4;");
        C.wrong("3: common(-1)", x, () -> x.common(-1));
        C.wrong("3: common of more than the tape", x, () -> x.common(101));
        C.due("3: the tape stays behind the exception", 100, x.count(1));
        C.due("3: common", 2, x.common(94));
        C.due("3: the tape is empty", 0, x.count(1));
        int[] due = {2, 2, 2, 2, 0, 9, 99, 0, 0, 0, 0, 100};
        for (int what = 0; what < due.length; what++) {
            C.due("3: told(" + what + ")", due[what], x.told(what));
        }
        C.due("3: sight, the last one", 3, x.seen(1));
        C.due("3: work", 1, Checks.work(x, "lay 1 0;lay 0 0;"));
        C.due("3: law", 1, Checks.law(x, "7"));
        C.due("3: sayings", 1, Checks.sayings(x, "1 1;"));
        C.due("3: image", 1, x.image());
        C.due("3: common with a FAULT", -9, Checks.common(x, "cell 1; strip 1"));
        C.due("3: all stays: CELLS", 2, x.told(0));
        C.due("3: all stays: STEPS REFUSED", 1, x.told(10));
        C.due("3: all stays: a STRIP lies", 1, x.told(7));
        C.due("3: all stays: SAYINGS", 1, x.told(9));
        C.due("3: all stays: LAW", 7, x.strip(1, 5));
        C.due("3: all stays: IMAGES", 1, x.count(0));
        C.due("3: all stays: WORKS", 1, x.count(2));
        C.due("3: not the tape", 0, x.count(1));
        C.due("3: another common", 1, Checks.common(x, " cell  1 ;cell2;cell 3;strip1 2;  "));
        C.due("3: no IMAGES", 0, x.count(0));
        C.due("3: no WORKS", 0, x.count(2));
        C.due("3: no SAYINGS", 0, x.told(9));
        C.due("3: no STEPS REFUSED", 0, x.told(10));
        C.due("3: no LAW", 3, x.would(3, 1, 0, 0, 0, 0, 0, 0));
        C.due("3: milk and sight as without", 5, x.told(6));
        C.due("3: sight 1 without", 3, x.seen(1));
        C.due("3: no rain", 0, x.told(5));
        C.due("3: day 0 again", 0, x.told(4));
        Checks.work(x, "day;");
        C.due("3: the empty text", 0, x.common(0));
        C.due("3: DAY 0", 0, x.told(4));
        // what was read two commons ago is forgotten as well
        for (int i = 0; i < 3; i++) {
            Checks.common(x, "cell 5;cell 5;cell 5;strip 1 50;deed 7;rain 7;milk 7;sight 2;");
            Checks.law(x, "3");
            Checks.work(x, "lay 0 0;wet 0;milk 0;");
            C.due("3: yet another", 1, Checks.common(x, "cell 5;cell 5;cell 5;strip 1 60;"));
            int[] fresh = {3, 1, 0, 0, 0, 0, 5, 0, 0, 0, 0, 60};
            for (int what = 0; what < fresh.length; what++) {
                C.due("3: fresh, told(" + what + ")", fresh[what], x.told(what));
            }
            C.due("3: fresh, sight", 3, x.seen(1));
            C.due("3: fresh, dry", 0, x.strip(0, 3));
            C.due("3: fresh, without buttermilk", 0, x.strip(0, 4));
            C.due("3: fresh, LAW", 5, x.sunniest(0, 1));
        }
        C.due("3: 600 bytes", 0, Checks.common(x, Checks.times(60, "milk   99;")));
    }

    private static void fault(String what, int kind, int place, LinenGuilt x, int got) {
        C.due(what, kind - 10, got);
        C.due(what + ", its place", place, x.fault());
    }

    private static void commonFault(int kind, int place, String text) {
        LinenGuilt x = new LinenGuilt();
        fault("3: common of '" + text + "'", kind, place, x, Checks.common(x, text));
    }

    private static void commonFaults() {
        commonFault(1, 0, ";");
        commonFault(1, 0, "Cell 1;");
        commonFault(1, 0, "cel 1;");
        commonFault(1, 2, "  cells 1;");
        commonFault(1, 4, "cell;");
        commonFault(1, 5, "cell -1;");
        commonFault(1, 5, "cell x;");
        commonFault(1, 6, "cell 1");
        commonFault(1, 8, "cell 1  ");
        commonFault(1, 7, "cell 1 1;");
        commonFault(1, 6, "cell 1,");
        commonFault(1, 9, "strip 1 1x;");
        commonFault(1, 7, "strip 1;");
        commonFault(1, 3, "   \tcell 1;");
        commonFault(2, 5, "cell 10;");
        commonFault(2, 5, "cell 99999999999999999999");
        commonFault(2, 6, "strip 0 5;");
        commonFault(2, 6, "strip 7 5;");
        commonFault(2, 8, "strip 6 0;");
        commonFault(2, 8, "strip 6 100;");
        commonFault(2, 5, "deed 0;");
        commonFault(2, 5, "deed 10;");
        commonFault(2, 5, "rain 10;");
        commonFault(2, 5, "milk 100;");
        commonFault(2, 6, "sight 5;");
        commonFault(2, 5, "cell 4294967297;");
        commonFault(3, 84, Checks.times(13, "cell 1;"));
        commonFault(3, 60, Checks.times(7, "strip 1 1;"));
        commonFault(3, 56, Checks.times(9, "deed 1;"));
        commonFault(3, 49, Checks.times(8, "rain 1;"));
        commonFault(3, 420, Checks.times(61, "milk 1;"));
        commonFault(3, 421, Checks.times(60, "milk 1;") + " cell");
        commonFault(1, 420, Checks.times(60, "milk 1;") + "cells 1;");
        commonFault(1, 420, Checks.times(60, "milk 1;") + ";");
        commonFault(3, 84, Checks.times(12, "cell 1;") + "cell");
        commonFault(1, 84, Checks.times(12, "cell 1;") + "cells 1;");
        LinenGuilt x = new LinenGuilt();
        C.due("3: leading noughts", 1, Checks.common(x, "strip 0000000000006 0099;cell 0000000000000000000000009;"));
        C.due("3: YARDS of these", 6, x.strip(0, 0));
        C.due("3: SUN of these", 9, x.cell(0, 0));
    }

    private static void lawIs(int want, String law) {
        LinenGuilt x = new LinenGuilt();
        C.due("4: law of '" + law + "'", 1, Checks.law(x, law));
        C.due("4: would by '" + law + "'", want, x.would(50, 6, 30, 4, 7, 1, 20, 11));
    }

    private static void lawIsTold() {
        lawIs(50, "sun");
        lawIs(6, "yards");
        lawIs(30, "grey");
        lawIs(4, "rain");
        lawIs(7, "wet");
        lawIs(1, "milk");
        lawIs(20, "day");
        lawIs(11, "first");
        lawIs(99, "999");
        lawIs(0, "4-5");
        lawIs(3, "10 - 4 - 3");
        lawIs(14, "2+3*4");
        lawIs(20, "(2+3)*4");
        lawIs(10, "100/5/2");
        lawIs(2, "17 % 5");
        lawIs(3, "17 / 5");
        lawIs(0, "17 / 0");
        lawIs(0, "17 % (4-4)");
        lawIs(18, "20 + (0-17)%5");
        lawIs(17, "20 + (0-17)/5");
        lawIs(22, "20 + 17%(0-5)");
        lawIs(3, " least [ 5 , 3 ] ");
        lawIs(5, "most[5,3]");
        lawIs(8, "least[most[1,8],least[9,10+1]]");
        lawIs(6, "12/4*2");
        lawIs(1, "((((((1))))))");
        lawIs(3, "least[(((((3))))),4]+(0)");
        lawIs(7, "000000000007");
        // 999^3 wraps to 997002999 and 999^4 to -1.4e9: the 32 bits tell
        lawIs(0, "999*999*999*999");
        lawIs((999 * 999 * 999 * 999 % 900 + 900) % 100, "(999*999*999*999%900+900)%100");
        // the least number by -1 wraps to itself; its rest is 0
        lawIs(8, "(0-2*512*512*64*64)/(0-1)%10+16");
        lawIs(9, "(0-2*512*512*64*64)%(0-1)+9");
        LinenGuilt x = Checks.told("cell 4;cell 5;strip 2 50;rain 3;", "lay 0 0;wet 0;");
        C.due("4: without", 4 + 3 + 2, x.strip(0, 5));
        Checks.feed(x, "grey - 9            ");
        C.wrong("4: law(-1)", x, () -> x.law(-1));
        C.wrong("4: law of more than the tape", x, () -> x.law(21));
        C.due("4: the tape stays", 20, x.count(1));
        C.due("4: law", 1, x.law(8));
        C.due("4: the tape is empty", 0, x.count(1));
        C.due("4: WHITENS", 41, x.strip(0, 5));
        C.due("4: WORK and all else stays", 1, x.count(2));
        Checks.feed(x, Checks.times(160, " "));
        C.wrong("4: law(151)", x, () -> x.law(151));
        C.due("4: blanks alone", -9, x.law(150));
        C.due("4: at the length", 150, x.fault());
        C.due("4: the LAW stays", 41, x.strip(0, 5));
        C.due("4: 150 bytes", 1, Checks.law(x, "1" + Checks.times(74, "+1") + " "));
        C.due("4: of these", 75, x.strip(0, 5));
        C.due("4: without it again", 0, Checks.common(x, "cell 4;"));
        C.due("4: the plain one", 9, x.would(9, 1, 0, 0, 0, 0, 0, 0));
    }

    private static void lawFault(int kind, int place, String law) {
        LinenGuilt x = new LinenGuilt();
        fault("4: law of '" + law + "'", kind, place, x, Checks.law(x, law));
        C.due("4: the plain law stays", 5, x.would(5, 1, 0, 0, 0, 0, 0, 0));
    }

    private static void lawFaults() {
        lawFault(1, 0, "");
        lawFault(1, 0, "suns");
        lawFault(1, 0, "-1");
        lawFault(1, 0, ")");
        lawFault(1, 1, "1)");
        lawFault(1, 2, "1 2");
        lawFault(1, 1, "1x");
        lawFault(1, 4, "1 + ");
        lawFault(1, 2, "1+*2");
        lawFault(1, 2, "(1");
        lawFault(1, 1, "()");
        lawFault(1, 2, "(1]");
        lawFault(1, 5, "least(1,2)");
        lawFault(1, 8, "least [1]");
        lawFault(1, 7, "most[1 2]");
        lawFault(1, 8, "most[1,2)");
        lawFault(1, 8, "most[1,2");
        lawFault(1, 7, "most[1,]");
        lawFault(1, 3, "1 +\n2");
        lawFault(2, 0, "1000");
        lawFault(2, 3, "1+ 99999999999;");
        lawFault(3, 6, "(((((((1)))))))");
        lawFault(3, 6, "((((((least[1,2]))))))");
        lawFault(3, 6, "((((((most");
        lawFault(1, 6, "((((((mos");
        lawFault(3, 31, "least[((1)),most[1,(2)]]*(((((((1)))))))");
        lawFault(3, 30, Checks.times(6, "most[") + "(");
    }

    private static void workFault(int kind, int place, String work) {
        LinenGuilt x = Checks.told("cell 1;cell 2;strip 1 5;", "lay 0 0;lay 0 0;");
        fault("5: work of '" + work + "'", kind, place, x, Checks.work(x, work));
        C.due("5: none is done", 1, x.count(2));
        C.due("5: it still lies", 0, x.strip(0, 2));
        C.due("5: STEPS REFUSED by the WORK ahead", 1, x.told(10));
        C.due("5: the tape is empty", 0, x.count(1));
    }

    private static void workFaults() {
        workFault(1, 7, "fold 0;;");
        workFault(1, 0, "days;");
        workFault(1, 0, "dayz;");
        workFault(1, 0, "aday;");
        workFault(1, 3, "day`;");
        workFault(1, 3, "day{;");
        workFault(1, 4, "wet /;");
        workFault(1, 4, "wet :;");
        workFault(1, 3, "day");
        workFault(1, 3, "day,");
        workFault(1, 4, "day;]");
        workFault(1, 5, "lay 0;");
        workFault(1, 3, "lay;");
        workFault(1, 7, "fold 0;fol 0;");
        workFault(2, 4, "lay 1 0;");
        workFault(2, 6, "lay 0 2;");
        workFault(2, 5, "fold 1;");
        workFault(2, 4, "wet 1;");
        workFault(2, 5, "milk 1;");
        workFault(2, 5, "mole 2;");
        workFault(2, 6, "again 31 [];");
        workFault(1, 6, "again [];");
        workFault(1, 8, "again 2 day;");
        workFault(1, 9, "again 2 [");
        workFault(1, 14, "again 2 [day; ");
        workFault(1, 12, "again 2 [day];");
        workFault(1, 9, "again 2 [;");
        workFault(1, 14, "again 2 [day;]");
        workFault(1, 10, "again 2 []]");
        workFault(3, 54, Checks.times(7, "again 1 ["));
        workFault(3, 36 + 18, Checks.times(6, "again 1 [") + "again");
        workFault(1, 54, Checks.times(6, "again 1 [") + "agai");
        LinenGuilt x = Checks.told("cell 1;strip 1 5;");
        C.due("5: six agains open", 1, Checks.work(x, Checks.times(6, "again 1 [") + "day;" + Checks.times(6, "];")));
        C.due("5: two agains in a row, blanks", 3, Checks.work(x, " again 1[day ; ] ; again 02 [ day;]; "));
        LinenGuilt y = Checks.told("");
        fault("5: without STRIPS", 2, 4, y, Checks.work(y, "lay 0 0;"));
        fault("5: without CELLS", 2, 5, y, Checks.work(y, "mole 0;"));
    }

    private static void sayingsFault(int kind, int place, String text) {
        LinenGuilt x = Checks.told("deed 5;deed 3;deed 4;");
        C.due("6: sayings", 1, Checks.sayings(x, "1 1;"));
        fault("6: sayings of '" + text + "'", kind, place, x, Checks.sayings(x, text));
        C.due("6: those ahead stay", 1, x.told(9));
    }

    private static void sayingsAreTold() {
        LinenGuilt x = Checks.told("deed 5;deed 3;deed 4;");
        C.due("6: sayings", 3, Checks.sayings(x, "2 0;0 1;1 1;"));
        C.due("6: lines", 3, x.told(9));
        C.due("6: others instead", 1, Checks.sayings(x, " 2  1 ; "));
        C.due("6: lines", 1, x.told(9));
        Checks.feed(x, "1 0;");
        C.wrong("6: sayings(-1)", x, () -> x.sayings(-1));
        C.wrong("6: sayings of more than the tape", x, () -> x.sayings(21));
        C.due("6: the tape stays", 20, x.count(1));
        C.due("6: none", 0, x.sayings(0));
        C.due("6: lines", 0, x.told(9));
        Checks.feed(x, Checks.times(61, " "));
        C.wrong("6: sayings(61)", x, () -> x.sayings(61));
        C.due("6: 60 blanks", 0, x.sayings(60));
        sayingsFault(2, 0, "3 1;");
        sayingsFault(2, 2, "0 2;");
        sayingsFault(2, 4, "0 1;0 0;");
        sayingsFault(2, 5, "0 1; 0");
        sayingsFault(1, 3, "0 1");
        sayingsFault(1, 1, "0;");
        sayingsFault(1, 0, "x;");
        sayingsFault(1, 3, "0 1+1;");
    }

    private static void faultPlaces() {
        LinenGuilt x = Checks.told("cell 1;strip 1 5;");
        C.due("7: without", -1, x.fault());
        Checks.work(x, "lay 9 0;");
        C.due("7: of the WORK", 4, x.fault());
        C.wrong("7: a refused call is no text", x, () -> x.work(1));
        C.due("7: it stays", 4, x.fault());
        Checks.law(x, "sun");
        C.due("7: none in the latest", -1, x.fault());
        for (int i = 0; i < 16; i++) {
            C.due("7: 16 WORKS", 0, x.work(0));
        }
        Checks.sayings(x, "z");
        C.due("7: of the SAYINGS", 0, x.fault());
        Checks.feed(x, "day;");
        C.wrong("5: the exception is ahead of -20", x, () -> x.work(21));
        C.due("7: it stays behind the exception", 0, x.fault());
        C.due("5: the tape stays", 20, x.count(1));
        C.due("5: a 17th WORK", -20, x.work(4));
        C.due("7: no FAULT then", -1, x.fault());
        C.due("5: the tape is empty", 0, x.count(1));
        Checks.feed(x, "lay 9 9;");
        C.due("5: -20 is ahead of the FAULT", -20, x.work(8));
        C.due("7: nothing was read", -1, x.fault());
        C.due("5: nothing was done", 0, x.told(4));
        C.due("5: one is undone", 15, x.undo());
        Checks.feed(x, "lay 9 9;");
        C.due("5: then it is read", -8, x.work(8));
        C.due("5: and one more", 1, Checks.work(x, "day;"));
        Checks.feed(x, Checks.times(151, " "));
        C.wrong("5: work(151)", x, () -> x.work(151));
        C.wrong("5: work(-1)", x, () -> x.work(-1));
    }
}
