/** The boundary cases of the texts, sentence by sentence as DOC.md has them: its Terms up to FAULTS, promises 1 to 7. */
public final class BoundaryTextsTest {
    private static final Checks C = new Checks("BoundaryTextsTest");
    private static final int NONE = LinenGuilt.NONE;

    public static void main(String[] args) {
        commons();
        laws();
        worksAndSayings();
        signs();
        faults();
        promises();
        C.finish();
    }

    /** A text is read on a small common, so that each kind of it can be right. */
    private static LinenGuilt reads(String kind, String text, int answer, int place) {
        LinenGuilt x = Checks.told("cell 1;cell 2;strip 1 50;deed 1;deed 2;");
        C.due(kind + " of '" + text + "'", answer, read(x, kind, text));
        C.due("fault() of " + kind + " of '" + text + "'", place, x.fault());
        return x;
    }

    private static int read(LinenGuilt x, String kind, String text) {
        switch (kind) {
            case "common": return Checks.common(x, text);
            case "law": return Checks.law(x, text);
            case "work": return Checks.work(x, text);
            default: return Checks.sayings(x, text);
        }
    }

    private static String times(int n, String part) {
        return Checks.times(n, part);
    }

    // ---- A COMMON

    private static void commons() {
        bytesOfACommon();
        clausesOfACommon();
        cells();
        strips();
        deeds();
        rains();
        milk();
        sight();
    }

    private static void bytesOfACommon() {
        C.says("A COMMON is a text of up to 600 bytes");
        C.due("told(6) of 600 bytes", 98, reads("common", times(59, "milk   99;") + "milk 98  ;", 0, NONE).told(6));
        reads("common", times(599, " ") + "x", -9, 599);
        reads("common", "", 0, NONE);
    }

    private static void clausesOfACommon() {
        C.says("{ CLAUSE \";\" }, at most 60");
        C.due("told(0) of none", 0, reads("common", "", 0, NONE).told(0));
        C.due("told(6) of 60", 2, reads("common", times(59, "milk 1;") + "milk 2;", 0, NONE).told(6));
        reads("common", times(61, "milk 1;"), -7, 420);
        reads("common", times(60, "sight 1;") + "cell 1;", -7, 480);
    }

    private static void cells() {
        C.says("\"cell\" S (CELLS, numbered in a row from 0 on, 12 at most: SUN S, 0 to 9)");
        LinenGuilt x = reads("common", "cell 0;" + times(10, "cell 5;") + "cell 9;", 0, NONE);
        C.due("told(0)", 12, x.told(0));
        C.due("SUN of the first", 0, x.cell(0, 0));
        C.due("SUN of the second", 5, x.cell(1, 0));
        C.due("SUN of the last", 9, x.cell(11, 0));
        C.missing("cell(12, 0)", x, () -> x.cell(12, 0));
        reads("common", times(13, "cell 5;"), -7, 84);
        reads("common", "cell 10;", -8, 5);
    }

    private static void strips() {
        C.says("\"strip\" Y G (STRIPS likewise, 6: YARDS Y, 1 to 6, GREY G, 1 to 99)");
        LinenGuilt x = reads("common", "strip 1 99;" + times(4, "strip 2 50;") + "strip 6 1;", 6, NONE);
        C.due("YARDS of the first", 1, x.strip(0, 0));
        C.due("GREY of the first", 99, x.strip(0, 1));
        C.due("YARDS of the last", 6, x.strip(5, 0));
        C.due("GREY of the last", 1, x.strip(5, 1));
        C.missing("strip(6, 0)", x, () -> x.strip(6, 0));
        reads("common", times(7, "strip 1 1;"), -7, 60);
        reads("common", "strip 0 1;", -8, 6);
        reads("common", "strip 7 1;", -8, 6);
        reads("common", "strip 1 0;", -8, 8);
        reads("common", "strip 1 100;", -8, 8);
    }

    private static void deeds() {
        C.says("\"deed\" N (DEEDS likewise, 8: N yards, 1 to 9)");
        LinenGuilt x = reads("common", "deed 1;" + times(6, "deed 5;") + "deed 9;", 0, NONE);
        C.due("told(2)", 8, x.told(2));
        C.due("the first", 1, x.deed(0));
        C.due("the last", 9, x.deed(7));
        C.missing("deed(8)", x, () -> x.deed(8));
        reads("common", times(9, "deed 5;"), -7, 56);
        reads("common", "deed 0;", -8, 5);
        reads("common", "deed 10;", -8, 5);
    }

    private static void rains() {
        C.says("\"rain\" R (RAINS likewise, 7: 0 to 9;");
        LinenGuilt x = reads("common", "rain 9;rain 0;rain 1;rain 2;rain 3;rain 4;rain 5;", 0, NONE);
        C.due("told(3)", 7, x.told(3));
        reads("common", times(8, "rain 1;"), -7, 49);
        reads("common", "rain 10;", -8, 5);
        C.says("DAY by DAY, behind the last one the first is there again;");
        int[] due = {9, 0, 1, 2, 3, 4, 5, 9, 0};
        for (int day = 0; day < due.length; day++) {
            C.due("told(5) on DAY " + day, due[day], x.told(5));
            Checks.work(x, "day;");
        }
        LinenGuilt one = Checks.told("rain 6;", "day;");
        C.due("told(5) of one RAIN on DAY 1", 6, one.told(5));
        C.says("without any: 0)");
        LinenGuilt none = Checks.told("cell 1;");
        C.due("told(5) on DAY 0", 0, none.told(5));
        Checks.work(none, "day;");
        C.due("told(5) on DAY 1", 0, none.told(5));
    }

    private static void milk() {
        C.says("\"milk\" N (buttermilk for N days of a strip, 0 to 99; 5 without; the last counts)");
        C.due("told(6) of 0", 0, reads("common", "milk 0;", 0, NONE).told(6));
        C.due("told(6) of 99", 99, reads("common", "milk 99;", 0, NONE).told(6));
        reads("common", "milk 100;", -8, 5);
        C.due("told(6) without", 5, reads("common", "cell 1;", 0, NONE).told(6));
        C.due("told(6) of the last", 7, reads("common", "milk 9;milk 8;milk 7;", 0, NONE).told(6));
    }

    private static void sight() {
        String cells = times(9, "cell 1;");
        C.says("\"sight\" K (0 to 4; 1 without; the last counts)");
        C.due("seen(16) of 0", 16, reads("common", cells + "sight 0;", 0, NONE).seen(16));
        C.due("seen(16) of 4", 511, reads("common", cells + "sight 4;", 0, NONE).seen(16));
        reads("common", "sight 5;", -8, 6);
        C.due("seen(16) without", 8 + 16 + 32, reads("common", cells, 0, NONE).seen(16));
        C.due("seen(16) of the last", 4 + 8 + 16 + 32 + 64,
                reads("common", "sight 4;" + cells + "sight 0;sight 2;", 0, NONE).seen(16));
    }

    // ---- A LAW

    private static void laws() {
        bytesOfALaw();
        endOfALaw();
        plainLaw();
        boundsOfWhitens();
        sumsAndProducts();
        numbersOfALaw();
        factsOfALaw();
        wholeNumbers();
        leastAndMost();
    }

    /** Asked of sun 50, yards 6, grey 30, rain 4, wet 7, milk 1, day 20, first 11. */
    private static void lawIs(int whitens, String law) {
        LinenGuilt x = reads("law", law, 1, NONE);
        C.due("would by '" + law + "'", whitens, x.would(50, 6, 30, 4, 7, 1, 20, 11));
    }

    private static void bytesOfALaw() {
        C.says("A LAW is a text of up to 150 bytes");
        lawIs(76, times(74, "1+") + "2 ");
        lawIs(77, times(74, "1+") + " 3");
        LinenGuilt x = Checks.told("cell 1;");
        Checks.feed(x, times(150, " ") + "1");
        C.wrong("law(151)", x, () -> x.law(151));
        C.due("law(150)", -9, x.law(150));
    }

    private static void endOfALaw() {
        C.says("E, at the end nothing more");
        reads("law", "", -9, 0);
        reads("law", "1;", -9, 1);
        reads("law", "1 1", -9, 2);
        reads("law", "1)", -9, 1);
        reads("law", "1   ", 1, NONE);
    }

    private static void plainLaw() {
        C.says("without: sun / yards + rain + wet * 2");
        LinenGuilt x = Checks.told("cell 1;");
        C.due("would", 50 / 6 + 4 + 7 * 2, x.would(50, 6, 30, 4, 7, 1, 20, 11));
        C.due("would of least", 0, x.would(5, 6, 30, 0, 0, 1, 20, 11));
    }

    private static void boundsOfWhitens() {
        C.says("WHITENS: what comes out, 0 at least, 99 at most");
        lawIs(0, "0-1");
        lawIs(0, "1-1");
        lawIs(1, "2-1");
        lawIs(98, "98");
        lawIs(99, "99");
        lawIs(99, "100");
        lawIs(0, "0-999*999");
        LinenGuilt x = Checks.told("cell 1;strip 1 50;", "lay 0 0;");
        Checks.law(x, "100");
        C.due("strip(0, 5)", 99, x.strip(0, 5));
        Checks.law(x, "0-1");
        C.due("strip(0, 5)", 0, x.strip(0, 5));
    }

    private static void sumsAndProducts() {
        C.says("E: T { + or - T }. T: U { * or / or % U }");
        lawIs(7, "7");
        lawIs(3, "9-5-1");
        lawIs(5, "9-5+1");
        lawIs(2, "100/10/5");
        lawIs(50, "100/10*5");
        lawIs(1, "100%51%8");
        lawIs(23, "3+4*5");
        lawIs(17, "3*4+5");
        lawIs(11, "20-3*3");
        reads("law", "1+", -9, 2);
        reads("law", "1*", -9, 2);
        reads("law", "+1", -9, 0);
        reads("law", "1+-1", -9, 2);
        reads("law", "1**1", -9, 2);
    }

    private static void numbersOfALaw() {
        C.says("U: N (0 to 999)");
        lawIs(0, "0");
        lawIs(9, "999-990");
        reads("law", "1000", -8, 0);
        reads("law", "1+1000", -8, 2);
    }

    private static void factsOfALaw() {
        C.says("\"sun\" (SUN of the CELLS it lies on, together)");
        LinenGuilt x = Checks.told("cell 9;cell 1;cell 2;cell 4;cell 9;rain 3;rain 6;strip 3 60;strip 1 50;",
                "day;lay 0 1;lay 1 4;again 5 [wet 0;];milk 0;");
        due(x, "sun", 7, 9);
        C.says("\"yards\" (Y)");
        due(x, "yards", 3, 1);
        C.says("\"grey\" (now)");
        due(x, "grey", 60, 50);
        C.says("\"rain\" (of this DAY)");
        due(x, "rain", 6, 6);
        C.says("\"wet\" (how often it was wetted this DAY)");
        due(x, "wet", 5, 0);
        C.says("\"milk\" (1, if it has buttermilk this DAY, else 0)");
        due(x, "milk", 1, 0);
        C.says("\"day\" (its number)");
        due(x, "day", 1, 1);
        C.says("\"first\" (the first CELL it lies on)");
        due(x, "first", 1, 4);
    }

    private static void due(LinenGuilt x, String law, int a, int b) {
        C.due("law", 1, Checks.law(x, law));
        C.due("strip(0, 5) by " + law, a, x.strip(0, 5));
        C.due("strip(1, 5) by " + law, b, x.strip(1, 5));
    }

    private static void wholeNumbers() {
        C.says("Values are whole numbers of 32 bits that wrap");
        // 2^31 - 1 and 1 more is the least of all, one less the most of all
        lawIs(50, "(512*512*64*64*2 - 1 + 1) / (512*512*64*64) + 52");
        lawIs(48, "(0 - 512*512*64*64*2 - 1) / (512*512*64*64) + 47");
        lawIs(5, "65 * 65 * 0 + 512*512*128*128 + 5");
        lawIs(7, "(0-512*512*64*64*2)/(0-1) - 512*512*64*64*2 + 7");
        C.says("/ cuts");
        lawIs(3, "11/3");
        lawIs(17, "20 + (0-11)/3");
        lawIs(17, "20 + 11/(0-3)");
        C.says("% leaves (with the sign of what is divided)");
        lawIs(2, "11%3");
        lawIs(18, "20 + (0-11)%3");
        lawIs(22, "20 + 11%(0-3)");
        C.says("by 0 both are 0");
        lawIs(8, "8 + 11/0");
        lawIs(8, "8 + 11%0");
        lawIs(8, "8 + 0/0 + 0%0");
    }

    private static void leastAndMost() {
        C.says("\"least\" \"[\" E \",\" E \"]\", \"most\" \"[\" E \",\" E \"]\", or \"(\" E \")\"");
        lawIs(3, "least[3,8]");
        lawIs(3, "least[8,3]");
        lawIs(8, "most[3,8]");
        lawIs(8, "most[8,3]");
        lawIs(4, "least[4,4]*(0+1)");
        lawIs(4, "9 + least[0-5,0-4]");
        lawIs(5, "9 + most[0-5,0-4]");
        reads("law", "least[3]", -9, 7);
        reads("law", "most[3,4,5]", -9, 8);
        reads("law", "least(3,4)", -9, 5);
        reads("law", "()", -9, 1);
    }

    // ---- WORK and SAYINGS

    private static void worksAndSayings() {
        C.says("WORK is a text of up to 150 bytes: { STEP \";\" }");
        reads("work", "", 0, NONE);
        reads("work", times(37, "day;") + "  ", 37, NONE);
        reads("work", times(149, " ") + "x", -9, 149);
        C.says("\"lay\" P X, \"fold\" P, \"wet\" P, \"milk\" P, \"mole\" X, \"day\"");
        reads("work", "lay 0 1;wet 0;milk 0;mole 1;fold 0;day;", 6, NONE);
        reads("work", "lay 1 0;", -8, 4);
        reads("work", "lay 0 2;", -8, 6);
        reads("work", "fold 1;", -8, 5);
        reads("work", "wet 1;", -8, 4);
        reads("work", "milk 1;", -8, 5);
        reads("work", "mole 2;", -8, 5);
        reads("work", "day 0;", -9, 4);
        C.says("\"again\" N \"[\" { STEP \";\" } \"]\" (N 0 to 30)");
        reads("work", "again 0 [day;];", 0, NONE);
        reads("work", "again 30 [day;];", 30, NONE);
        reads("work", "again 31 [day;];", -8, 6);
        reads("work", "again 3 [];", 0, NONE);
        reads("work", "again 3 [day;day;];", 6, NONE);
        reads("work", "again 3 [day];", -9, 12);
        C.says("SAYINGS are a text of up to 60 bytes: { D B \";\" }");
        reads("sayings", "", 0, NONE);
        reads("sayings", "0 1;" + times(52, " ") + "1 1;", 2, NONE);
        reads("sayings", times(59, " ") + "x", -9, 59);
        reads("sayings", "2 1;", -8, 0);
        C.says("no D twice");
        reads("sayings", "1 0;1 0;", -8, 4);
        reads("sayings", "1 0;0 1;1 1;", -8, 8);
        C.says("DEED D was done (B 1), or not (0)");
        C.due("mayBe(1, 1) of 1", 1, reads("sayings", "0 1;", 1, NONE).mayBe(1, 1));
        C.due("mayBe(1, 1) of 0", NONE, reads("sayings", "0 0;", 1, NONE).mayBe(1, 1));
        reads("sayings", "0 2;", -8, 2);
    }

    // ---- numbers, words, blanks

    private static void signs() {
        C.says("Numbers: digits, as many as stand there");
        C.due("SUN of many noughts", 9, reads("common", "cell 000000000000000000000009;", 0, NONE).cell(0, 0));
        C.due("YARDS and GREY", 12, reads("common", "strip 1 12;", 1, NONE).strip(0, 1));
        reads("common", "strip 112;", -8, 6);
        reads("common", "cell 4294967296;", -8, 5);
        reads("common", "cell 4294967297;", -8, 5);
        reads("common", "cell 18446744073709551617;", -8, 5);
        reads("common", "cell " + times(200, "9") + ";", -8, 5);
        reads("common", "cell -1;", -9, 5);
        reads("common", "cell 1.0;", -9, 6);
        C.says("WORDS: small letters, as many as stand there");
        reads("common", "cell9;", 0, NONE);
        reads("common", "cel 9;", -9, 0);
        reads("common", "cells 9;", -9, 0);
        reads("common", "cellstrip 9;", -9, 0);
        reads("common", "cella 9;", -9, 0);
        reads("common", "cellz 9;", -9, 0);
        reads("common", "cell" + (char) ('a' - 1) + "9;", -9, 4);
        reads("common", "cell{9;", -9, 4);
        reads("common", "Cell 9;", -9, 0);
        reads("common", "cEll 9;", -9, 0);
        reads("common", "ce ll 9;", -9, 0);
        reads("law", "sunsun", -9, 0);
        reads("work", "days;", -9, 0);
        C.says("blanks (32) may stand ahead of all these, and at the end");
        reads("common", "  cell   9  ;  strip  6   99 ;  ", 1, NONE);
        reads("common", "cell9;strip6 99;", 1, NONE);
        reads("law", "  ( 1  +  sun )  *  least  [ 1 , 2 ]   ", 1, NONE);
        reads("work", "  again  2  [  day  ;  ]  ;   ", 2, NONE);
        reads("sayings", "  0   1  ;  ", 1, NONE);
        reads("common", "   ", 0, NONE);
        reads("common", "\tcell 9;", -9, 0);
        reads("common", "cell 9;\n", -9, 7);
        reads("common", "cell" + (char) 160 + "9;", -9, 4);
        reads("common", "cell 1 0;", -9, 7);
    }

    // ---- FAULTS

    private static void faults() {
        C.says("FAULTS, the first from the left, at its first byte");
        reads("common", "cell 10;cell 11;", -8, 5);
        reads("common", "cell 10;xell 1;", -8, 5);
        reads("common", "xell 10;cell 10;", -9, 0);
        reads("common", "strip 7 100;", -8, 6);
        reads("common", "  xell 1;", -9, 2);
        reads("common", "cell   10;", -8, 7);
        reads("common", times(12, "cell 1;") + "cell 10;", -7, 84);
        C.says("1 what can't stand there (at the length, if the text ends too early)");
        reads("common", "cell", -9, 4);
        reads("common", "cell  ", -9, 6);
        reads("common", "cell 1", -9, 6);
        reads("common", "cell 1  ", -9, 8);
        reads("common", "strip 1", -9, 7);
        reads("law", "", -9, 0);
        reads("law", "(1", -9, 2);
        reads("law", "most[1,", -9, 7);
        reads("work", "again 2 [day;", -9, 13);
        reads("work", "lay 0 0", -9, 7);
        reads("sayings", "0", -9, 1);
        LinenGuilt x = new LinenGuilt();
        Checks.feed(x, "cell 1;cell 2;");
        C.due("common(6), though more is on the TAPE", -9, x.common(6));
        C.due("fault()", 6, x.fault());
        reads("common", "cell ;", -9, 5);
        reads("common", "cell 1;;", -9, 7);
        reads("law", "1 +) 2", -9, 3);
        reads("work", "];", -9, 0);
        reads("sayings", "0 1,", -9, 3);
        for (String kind : new String[] {"common", "law", "work", "sayings"}) {
            String right = kind.equals("common") ? "cell 1;" : kind.equals("law") ? "sun" : kind.equals("work") ? "day;" : "0 1;";
            for (int sign : new int[] {0, 1, 9, 10, 31, 33, 126, 127, 128, 255}) {
                reads(kind, right + (char) sign, -9, right.length());
                reads(kind, (char) sign + right, -9, 0);
            }
        }
        C.says("2 a number that is none such (a D twice)");
        reads("common", "milk 100", -8, 5);
        reads("law", "1000x", -8, 0);
        reads("work", "again 31", -8, 6);
        reads("work", "mole 2", -8, 5);
        reads("sayings", "0 1;0", -8, 4);
        reads("sayings", "2", -8, 0);
        faultsOfTooMany();
    }

    private static void faultsOfTooMany() {
        C.says("3 a CLAUSE, CELL, STRIP, DEED or RAIN (at its word)");
        reads("common", times(60, "milk 1;") + "  sight 1;", -7, 422);
        reads("common", times(12, "cell 1;") + " cell", -7, 85);
        reads("common", times(6, "strip 1 1;") + " strip", -7, 61);
        reads("common", times(8, "deed 1;") + " deed", -7, 57);
        reads("common", times(7, "rain 1;") + " rain", -7, 50);
        C.says("or a 7th of ( least most again that is open at one time");
        reads("law", "((((((1))))))", 1, NONE);
        reads("law", "(((((((1)))))))", -7, 6);
        reads("law", times(6, "least[") + "1" + times(6, ",2]"), 1, NONE);
        reads("law", times(6, "least[") + " least[1,2]", -7, 37);
        reads("law", times(6, "most[") + "most", -7, 30);
        reads("law", times(5, "(") + "least[1,most[1,2]]" + times(5, ")"), -7, 13);
        reads("law", "((((((1))))))+((((((1))))))", 1, NONE);
        reads("law", "(((least[((1)),((1))])))", 1, NONE);
        reads("work", times(6, "again 1[") + "day;" + times(6, "];"), 1, NONE);
        reads("work", times(6, "again 1[") + "again", -7, 48);
        reads("work", times(5, "again 1[") + times(2, "again 1[day;];") + times(5, "];"), 2, NONE);
        C.says("of one the least");
        reads("common", times(60, "milk 1;") + "xilk 1;", -9, 420);
        reads("common", times(60, "milk 1;") + ";", -9, 420);
    }

    // ---- promises 1 to 7

    private static void promises() {
        newObject();
        feeding();
        lengthsOfTexts();
        behindACommon();
        behindAFault();
        worksDone();
        sixteenWorks();
        faultPlaces();
    }

    private static void newObject() {
        C.says("A COMMON without CLAUSES");
        LinenGuilt x = new LinenGuilt();
        LinenGuilt y = Checks.told("");
        int[] due = {0, 0, 0, 0, 0, 0, 5, 0, 0, 0, 0, 0};
        for (int what = 0; what < 12; what++) {
            C.due("told(" + what + ")", due[what], x.told(what));
            C.due("told(" + what + ") behind common(0)", due[what], y.told(what));
        }
        C.due("fault()", NONE, x.fault());
        C.due("undo()", -1, x.undo());
        C.due("restore()", -1, x.restore());
        C.due("status(0)", 0, x.status(0));
        C.due("status(1)", 0, x.status(1));
        for (int what = 0; what < 3; what++) {
            C.due("count(" + what + ")", 0, x.count(what));
        }
        C.due("work(0)", 0, x.work(0));
        C.due("sayings(0)", 0, x.sayings(0));
        C.missing("cell(0, 0)", x, () -> x.cell(0, 0));
        C.missing("strip(0, 0)", x, () -> x.strip(0, 0));
        C.missing("deed(0)", x, () -> x.deed(0));
        C.missing("fits(0, 0)", x, () -> x.fits(0, 0));
    }

    private static void feeding() {
        C.says("Twenty bytes come on the TAPE, of each number the highest first: how many there are");
        LinenGuilt x = new LinenGuilt();
        // "cell 7;strip 2 61;  "
        C.due("feed", 20, x.feed(0x63656c6c, 0x20373b73, 0x74726970, 0x20322036, 0x313b2020));
        C.due("common(20)", 1, x.common(20));
        C.due("SUN", 7, x.cell(0, 0));
        C.due("GREY", 61, x.strip(0, 1));
        C.due("feed of highest bits", 20, x.feed(-1, 0x80000000, 0, 0, 0));
        C.due("a byte of 255", -9, x.common(20));
        C.due("its place", 0, x.fault());
        C.says("NONE, doing nothing, if there would be more than 600");
        Checks.feed(x, times(58, "milk 1;   "));
        C.due("count(1)", 580, x.count(1));
        C.due("feed to 600", 600, x.feed(0x63656c6c, 0x20373b20, 0x20202020, 0x20202020, 0x20202020));
        C.due("feed beyond 600", NONE, x.feed(-1, -1, -1, -1, -1));
        C.due("feed beyond 600 again", NONE, x.feed(0, 0, 0, 0, 0));
        C.due("count(1)", 600, x.count(1));
        C.due("common(600)", 0, x.common(600));
        C.due("CELLS of it", 1, x.told(0));
    }

    private static void lengthsOfTexts() {
        C.says("IllegalArgumentException: n is not 0 to the TAPE's bytes (it stays)");
        for (String kind : new String[] {"common", "law", "work", "sayings"}) {
            LinenGuilt x = Checks.told("cell 1;deed 1;");
            wrongLength(kind + "(1) of an empty TAPE", x, kind, 1);
            Checks.feed(x, times(20, " "));
            wrongLength(kind + "(-1)", x, kind, -1);
            wrongLength(kind + "(least of all)", x, kind, Integer.MIN_VALUE);
            wrongLength(kind + "(21)", x, kind, 21);
            C.due("count(1) behind refused " + kind, 20, x.count(1));
            C.due(kind + "(20)", kind.equals("law") ? -9 : 0, call(x, kind, 20));
            C.due("count(1) behind " + kind, 0, x.count(1));
            Checks.feed(x, times(20, " "));
            C.due(kind + "(0)", kind.equals("law") ? -9 : 0, call(x, kind, 0));
            C.due("count(1) behind " + kind + "(0)", 0, x.count(1));
        }
        C.says("The first n bytes of the TAPE (empty then)");
        LinenGuilt x = Checks.told("cell 1;");
        Checks.feed(x, "12+grey");
        C.due("law(1)", 1, x.law(1));
        C.due("would by 1", 1, x.would(9, 1, 50, 0, 0, 0, 0, 0));
        Checks.feed(x, "sunk");
        C.due("law(3)", 1, x.law(3));
        C.due("would by sun", 9, x.would(9, 1, 50, 0, 0, 0, 0, 0));
        C.due("feed behind it", 20, x.feed(0x67726579, 0, 0, 0, 0));
        C.due("law(4)", 1, x.law(4));
        C.due("would by grey", 50, x.would(9, 1, 50, 0, 0, 0, 0, 0));
        longest("Likewise the LAW (n to 150): 1", "law", 150, -9);
        longest("Likewise WORK (n to 150)", "work", 150, 0);
        longest("Likewise SAYINGS (n to 60)", "sayings", 60, 0);
        longest("The first n bytes of the TAPE (empty then)", "common", 600, 0);
    }

    private static void longest(String sentence, String kind, int most, int answer) {
        C.says(sentence);
        LinenGuilt x = Checks.told("cell 1;deed 1;");
        Checks.feed(x, times(600, " "));
        wrongLength(kind + "(" + (most + 1) + ")", x, kind, most + 1);
        C.due("count(1)", 600, x.count(1));
        C.due(kind + "(" + most + ")", answer, call(x, kind, most));
        C.due("count(1)", 0, x.count(1));
    }

    private static void wrongLength(String call, LinenGuilt x, String kind, int n) {
        C.wrong(call, x, () -> call(x, kind, n));
    }

    private static int call(LinenGuilt x, String kind, int n) {
        switch (kind) {
            case "common": return x.common(n);
            case "law": return x.law(n);
            case "work": return x.work(n);
            default: return x.sayings(n);
        }
    }

    /** All that a COMMON without a FAULT begins anew is there. */
    private static void fill(LinenGuilt x) {
        Checks.common(x, "cell 3;cell 4;strip 1 50;strip 2 60;deed 4;rain 2;milk 9;sight 3;");
        Checks.law(x, "7");
        Checks.sayings(x, "0 1;");
        Checks.work(x, "day;lay 0 0;wet 0;milk 0;lay 0 0;");
        x.image();
    }

    private static void behindACommon() {
        C.says("(DAY 0; no LAW, SAYINGS, IMAGES, nothing to undo): how many STRIPS");
        LinenGuilt x = new LinenGuilt();
        // nor is there more behind a third COMMON than behind the second
        for (int i = 0; i < 6; i++) {
            if (i % 2 == 1) {
                C.due("common of none", 0, x.common(0));
            }
            fill(x);
            C.due("told(3)", 1, x.told(3));
            C.due("common", 2, Checks.common(x, "cell 3;cell 4;strip 1 50;strip 2 60;deed 4;"));
            int[] due = {2, 2, 1, 0, 0, 0, 5, 0, 0, 0, 0, 110};
            for (int what = 0; what < 12; what++) {
                C.due("told(" + what + ")", due[what], x.told(what));
            }
            int[] strip = {1, 50, NONE, 0, 0, 0};
            for (int what = 0; what < 6; what++) {
                C.due("strip(0, " + what + ")", strip[what], x.strip(0, what));
            }
            C.due("no LAW", 9, x.would(9, 1, 0, 0, 0, 0, 0, 0));
            C.due("no SAYINGS", 1, x.mayBe(0, 0));
            C.due("no IMAGES", 0, x.count(0));
            C.due("restore()", -1, x.restore());
            C.due("nothing to undo", 0, x.count(2));
            C.due("undo()", -1, x.undo());
        }
        C.due("common of none", 0, x.common(0));
        C.due("told(0)", 0, x.told(0));
        C.due("told(1)", 0, x.told(1));
        C.due("told(2)", 0, x.told(2));
    }

    private static void behindAFault() {
        C.says("or the FAULT less 10 (all but the TAPE stays)");
        LinenGuilt x = new LinenGuilt();
        fill(x);
        String ahead = state(x);
        C.due("common", -8, Checks.common(x, "cell 5;strip 3 9;rain 10;"));
        C.due("count(1)", 0, x.count(1));
        C.due("law", -9, Checks.law(x, "3+"));
        C.due("count(1)", 0, x.count(1));
        C.due("work", -8, Checks.work(x, "day;fold 0;day;fold 9;"));
        C.due("count(1)", 0, x.count(1));
        C.due("sayings", -8, Checks.sayings(x, "0 0;1 0;"));
        C.due("count(1)", 0, x.count(1));
        C.due("all stays: '" + ahead + "', not '" + state(x) + "'", true, ahead.equals(state(x)));
        C.due("undo()", 0, x.undo());
        C.due("told(4)", 0, x.told(4));
        C.due("restore()", 0, x.restore());
        C.due("told(4)", 1, x.told(4));
    }

    private static String state(LinenGuilt x) {
        StringBuilder out = new StringBuilder();
        for (int what = 0; what < 12; what++) {
            out.append(x.told(what)).append(' ');
        }
        for (int strip = 0; strip < x.told(1); strip++) {
            for (int what = 0; what < 6; what++) {
                out.append(x.strip(strip, what)).append(' ');
            }
        }
        return out.append(x.count(0)).append(' ').append(x.count(2)).append(' ').append(x.mayBe(4, 1)).append(' ')
                .append(x.seen(1)).append(' ').append(x.would(9, 1, 0, 0, 0, 0, 0, 0)).toString();
    }

    private static void worksDone() {
        C.says("how many STEPS were done (agains not counted, nor REFUSED ones)");
        C.due("work of none", 0, reads("work", "", 0, NONE).told(10));
        C.due("STEPS REFUSED", 2, reads("work", "fold 0;lay 0 0;lay 0 0;day;", 2, NONE).told(10));
        C.due("STEPS REFUSED", 3, reads("work", "again 3 [again 1 [wet 0;];day;];", 3, NONE).told(10));
        C.says("or the FAULT less 10 (none is)");
        LinenGuilt x = reads("work", "day;day;lay 0 0;lay 0 9;", -8, 22);
        C.due("told(4)", 0, x.told(4));
        C.due("told(7)", 0, x.told(7));
        C.due("count(2)", 0, x.count(2));
        C.says("how many lines");
        C.due("told(9)", 2, reads("sayings", "1 0;0 0;", 2, NONE).told(9));
    }

    private static void sixteenWorks() {
        C.says("-20 behind the exception, ahead of the FAULT (nothing is read, there is no FAULT, the TAPE is empty then): "
                + "16 WORKS are there that were not undone");
        LinenGuilt x = Checks.told("cell 1;strip 1 9;");
        for (int i = 1; i <= 16; i++) {
            C.due("WORK " + i, 1, Checks.work(x, "day;"));
        }
        C.due("a fault ahead", -9, Checks.law(x, " x"));
        C.due("its place", 1, x.fault());
        Checks.feed(x, "day;");
        C.wrong("work(21)", x, () -> x.work(21));
        C.due("count(1) behind the exception", 20, x.count(1));
        C.due("a 17th", -20, x.work(4));
        C.due("count(1)", 0, x.count(1));
        C.due("fault()", NONE, x.fault());
        C.due("told(4)", 16, x.told(4));
        Checks.feed(x, "lay 9 9;");
        C.due("a 17th with a FAULT", -20, x.work(8));
        C.due("fault()", NONE, x.fault());
        C.due("a 17th of no STEPS", -20, x.work(0));
        C.due("undo()", 15, x.undo());
        C.due("one more", 1, Checks.work(x, "day;"));
        C.due("and none more", -20, Checks.work(x, "day;"));
        C.due("told(4)", 16, x.told(4));
    }

    private static void faultPlaces() {
        C.says("The place of the FAULT of the latest text; NONE without");
        LinenGuilt x = Checks.told("cell 1;deed 1;");
        C.due("common without", NONE, x.fault());
        Checks.sayings(x, "  x");
        C.due("sayings with", 2, x.fault());
        C.wrong("no text is read", x, () -> x.sayings(1));
        C.due("behind the exception", 2, x.fault());
        x.undo();
        x.restore();
        C.due("behind other calls", 2, x.fault());
        Checks.work(x, "day;x");
        C.due("work with", 4, x.fault());
        Checks.common(x, "x");
        C.due("common with", 0, x.fault());
        Checks.law(x, "1+");
        C.due("law with", 2, x.fault());
        Checks.law(x, "1");
        C.due("law without", NONE, x.fault());
    }
}
