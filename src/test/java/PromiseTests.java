/** One test for each promise: ordinary inputs, the edges that the document names, wrong inputs. */
public final class PromiseTests {
    private static final int BAD = -1;
    private static final int NO = -2;
    private static final int FULL = -3;
    private static final int NONE = -4;
    private static final Check CHECK = new Check();
    private static String promise = "";

    private static void due(String call, long got, long want) {
        CHECK.due(promise + ": " + call, got, want);
    }

    public static void main(String[] args) {
        promise = "1 a new object";
        newObject();
        promise = "2 write";
        write();
        promise = "3 wipe";
        wipe();
        promise = "4 fault";
        fault();
        faultOfForm();
        faultOfMeaning();
        promise = "5 lay";
        lay();
        promise = "6 statement";
        statement();
        promise = "7 argue";
        argue();
        promise = "8 drop";
        drop();
        promise = "9 strike";
        strike();
        promise = "10 undo";
        undo();
        promise = "11 argued";
        argued();
        promise = "12 next";
        next();
        promise = "13 trial";
        trial();
        trialCosts();
        promise = "14 chains";
        chains();
        promise = "15 shortest";
        shortest();
        shortestOfSeveral();
        promise = "16 nights";
        nights();
        promise = "17 needed";
        needed();
        promise = "18 forgotten";
        forgotten();
        promise = "19 both";
        both();
        promise = "20 byTurns";
        byTurns();
        promise = "21 days";
        days();
        promise = "22 who";
        who();
        promise = "23 fits";
        fits();
        promise = "24 look";
        look();
        promise = "25 laid";
        laid();
        promise = "26 odds";
        odds();
        promise = "27 trialBy";
        trialBy();
        promise = "28 keep";
        keep();
        promise = "29 back";
        back();
        promise = "30 count";
        count();
        CHECK.end("PromiseTests");
    }

    private static void argueAll(HeardBackward x, int... statements) {
        for (int a : statements) {
            x.argue(a);
        }
    }

    private static void strikeAll(HeardBackward x, int... statements) {
        for (int a : statements) {
            x.strike(a);
        }
    }

    private static void newObject() {
        due("BAD", HeardBackward.BAD, BAD);
        due("NO", HeardBackward.NO, NO);
        due("FULL", HeardBackward.FULL, FULL);
        due("NONE", HeardBackward.NONE, NONE);
        HeardBackward x = new HeardBackward();
        int[] counts = {8, 2, 2, 0, 0, 0, 0, 0};
        for (int what = 0; what < counts.length; what++) {
            due("count(" + what + ")", x.count(what), counts[what]);
        }
        int[][] told = {
            {0, 3, 1, 1, 0b00000110}, {1, 2, 2, 0, 0b00001001}, {1, 5, 1, 0, 0b01001000},
            {2, 4, 3, 0, 0b01010000}, {3, 1, 1, 0, 0b00100000}, {4, 0, 0, 0, 0},
            {4, 2, 0, 0, 0}, {2, 3, 2, 1, 0b00010100}};
        for (int a = 0; a < told.length; a++) {
            for (int what = 0; what < 5; what++) {
                due("statement(" + a + ", " + what + ")", x.statement(a, what), told[a][what]);
            }
        }
        due("who(5)", x.who(5), 3);
        due("who(6)", x.who(6), 2);
        due("fault()", x.fault(), NONE);
        HeardBackward other = new HeardBackward();
        x.strike(1);
        x.argue(0);
        x.write('s');
        due("count(4) of another", other.count(4), 0);
        due("count(3) of another", other.count(3), 0);
        due("count(7) of another", other.count(7), 0);
    }

    private static void write() {
        HeardBackward x = new HeardBackward();
        due("write(31)", x.write(31), BAD);
        due("write(127)", x.write(127), BAD);
        due("write(-1)", x.write(-1), BAD);
        due("write(MIN)", x.write(Integer.MIN_VALUE), BAD);
        due("write(MAX)", x.write(Integer.MAX_VALUE), BAD);
        due("write(10)", x.write(10), BAD);
        due("count(7) after wrong letters", x.count(7), 0);
        due("write(32)", x.write(32), 1);
        due("write(126)", x.write(126), 2);
        for (int i = 3; i <= 200; i++) {
            due("the letter " + i, x.write('s'), i);
        }
        due("the letter 201", x.write('s'), FULL);
        due("the letter 202", x.write('s'), FULL);
        due("a wrong one where it is full", x.write(127), BAD);
        due("count(7)", x.count(7), 200);
        due("wipe()", x.wipe(), 200);
        due("write behind wipe", x.write('s'), 1);
    }

    private static void wipe() {
        HeardBackward x = new HeardBackward();
        due("wipe() of none", x.wipe(), 0);
        Check.write(x, "abc");
        due("wipe()", x.wipe(), 3);
        due("wipe() again", x.wipe(), 0);
        due("count(7)", x.count(7), 0);
        due("fault()", x.fault(), NONE);
        due("count(0), what is laid stays", x.count(0), 8);
    }

    private static void fault() {
        HeardBackward x = Check.written("s0,0,0;s1,1,1;s");
        due("fault()", x.fault(), 14);
        due("fault() again", x.fault(), 14);
        due("count(7)", x.count(7), 15);
        due("count(0), nothing is laid by it", x.count(0), 8);
        faultOf("", NONE);
        faultOf("s0,0,0;", NONE);
        faultOf("s0,0,0;s4,0,0;v0;r0,1;p1,1;", NONE);
        faultOf("s0,0,0;v0;v0;", NONE);
        faultOf("s0,0,0;s0,0,0;r0,1;r0,1;", NONE);
        faultOf("s0,0,0;s0,0,0;r0,1;r1,0;", NONE);
        faultOf("s04,00,09;", NONE);
        faultOf("s0,0,0;s0,0,0;x;v0;", 14);
        faultOf("s0,0,0;v1;v0;", 7);
    }

    private static void faultOf(String text, int want) {
        due("fault() of " + text, Check.written(text).fault(), want);
    }

    private static void faultOfForm() {
        String[] wrong = {
            "s", ";", "s;", "s0;", "s0,0;", "s0,0,0", "s0,0,", "s0,0,0,0;", "s0,,0;", "s,0,0;",
            "s0,0,;", "s0,0,0,;", "s000,0,0;", "s0,000,0;", "s0,0,020;", " s0,0,0;", "s 0,0,0;",
            "s0, 0,0;", "s0,0,0 ;", "S0,0,0;", "s-1,0,0;", "s+1,0,0;", "s0.0,0;", "s0,0,0:",
            "t0,0,0;", "s0,0,0/", "s/,0,0;", "s:,0,0;", "s0,:,0;", "s0,1:,0;", "s0,0,;;", "0,0,0;"};
        for (String text : wrong) {
            faultOf(text, 0);
            faultOf("s4,0,0;" + text, 7);
        }
        String[] behind = {
            " ", ";", "v", "v;", "v0", "v0,", "v0,0;", "v000;", "V0;", "w0;", "r", "r0;", "r0,", "r0,1",
            "r0,1,1;", "r0,001;", "R0,1;", "p", "p1;", "p1,", "p1,1", "p1,1,1;", "p001,1;", "q1,1;"};
        for (String text : behind) {
            faultOf("s0,0,0;s4,0,0;" + text, 14);
        }
        faultOf("s0,0,0;s4,0,0;v00;r00,01;p01,01;", NONE);
    }

    private static void faultOfMeaning() {
        faultOf("s4,20,20;", NONE);
        faultOf("s5,0,0;", 0);
        faultOf("s10,0,0;", 0);
        faultOf("s0,21,0;", 0);
        faultOf("s0,0,21;", 0);
        faultOf("s0,99,0;", 0);
        String eight = "s0,0,0;s1,0,0;s2,0,0;s3,0,0;s4,0,0;s4,0,0;s0,0,0;s0,0,0;";
        faultOf(eight + "s0,0,0;s0,0,0;v9;r9,4;", NONE);
        faultOf(eight + "s0,0,0;s0,0,0;s0,0,0;", 70);
        faultOf(eight + "v8;", 56);
        faultOf(eight + "v4;", 56);
        faultOf(eight + "v0;v1;v2;v3;v6;v7;", NONE);
        faultOf(eight + "r0,8;", 56);
        faultOf(eight + "r8,0;", 56);
        faultOf(eight + "r10,0;", 56);
        faultOf(eight + "r0,99;", 56);
        faultOf(eight + "r0,0;", 56);
        faultOf(eight + "r4,0;", 56);
        faultOf(eight + "r4,5;", 56);
        faultOf(eight + "r3,4;r4,3;", 61);
        faultOf(eight + "p4,0;", 56);
        faultOf(eight + "p0,4;", 56);
        faultOf(eight + "p8,4;", 56);
        faultOf(eight + "p4,8;", 56);
        faultOf(eight + "p4,5;p4,5;p5,4;p5,5;p4,4;", NONE);
        faultOf(eight + "p4,5;p4,5;p5,4;p5,5;p4,4;p4,4;", 81);
        faultOf("v0;s0,0,0;", 0);
        faultOf("s0,0,0;r0,1;s0,0,0;", 7);
        faultOf("s4,0,0;p0,1;s4,0,0;", 7);
        faultOf("s0,0,0;v0;s4,0,0;r0,1;p1,1;s0,1,1;r2,1;v2;", NONE);
    }

    private static void lay() {
        HeardBackward x = new HeardBackward();
        due("lay() of nothing", x.lay(), NO);
        due("count(0)", x.count(0), 8);
        strikeAll(x, 4);
        argueAll(x, 0, 1);
        x.keep();
        Check.write(x, "s0,1,1;");
        due("lay() without a VERDICT", x.lay(), NO);
        Check.write(x, "v0;x");
        due("lay() of a FAULT", x.lay(), NO);
        int[] asBefore = {8, 2, 2, 2, 1, 3, 1, 11};
        for (int what = 0; what < asBefore.length; what++) {
            due("count(" + what + ") as nothing changed", x.count(what), asBefore[what]);
        }
        x.wipe();
        Check.write(x, "s0,1,1;s4,2,3;v0;r0,1;p1,1;");
        due("lay()", x.lay(), 2);
        int[] after = {2, 1, 1, 0, 0, 0, 0, 27};
        for (int what = 0; what < after.length; what++) {
            due("count(" + what + ")", x.count(what), after[what]);
        }
        due("undo() behind it", x.undo(), NO);
        due("back() behind it", x.back(), NO);
        due("statement(2, 0)", x.statement(2, 0), BAD);
        due("statement(0, 4)", x.statement(0, 4), 2);
        due("chains(0)", x.chains(0), 1);
        x.argue(0);
        due("lay() again", x.lay(), 2);
        due("count(3)", x.count(3), 0);
        x.wipe();
        Check.write(x, "s1,1,1;s4,0,0;v0;");
        due("lay() of less", x.lay(), 2);
        due("statement(0, 4), none of the former", x.statement(0, 4), 0);
        due("who(1), none of the former", x.who(1), 0);
        due("fault()", x.fault(), NONE);
        x.wipe();
        Check.write(x, "s0,1,1;s4,0,0;r0,1;");
        due("lay() without a VERDICT behind one that had some", x.lay(), NO);
        due("count(1)", x.count(1), 1);
    }

    /** Two VERDICTS that are told last and hang on what is told first; all ways lead by 0. */
    private static HeardBackward backToFront() {
        return Check.laidOut("s0,1,1;s4,2,2;s0,3,3;s0,4,4;v2;v3;r2,0;r3,2;r3,0;r0,1;r0,2;r0,3;p1,1;");
    }

    private static void statement() {
        HeardBackward x = Check.laidOut("s2,20,0;s4,0,20;s1,7,9;v2;v0;r0,1;r0,2;r2,0;r0,1;v0;");
        int[][] told = {{2, 20, 0, 1, 6, 0}, {4, 0, 20, 0, 0, 0}, {1, 7, 9, 1, 1, 0}};
        for (int a = 0; a < told.length; a++) {
            for (int what = 0; what < 6; what++) {
                due("statement(" + a + ", " + what + ")", x.statement(a, what), told[a][what]);
            }
            due("statement(" + a + ", 6)", x.statement(a, 6), BAD);
            due("statement(" + a + ", -1)", x.statement(a, -1), BAD);
        }
        due("statement(3, 0)", x.statement(3, 0), BAD);
        due("statement(-1, 0)", x.statement(-1, 0), BAD);
        due("statement(32, 0)", x.statement(32, 0), BAD);
        due("statement(MIN, MIN)", x.statement(Integer.MIN_VALUE, Integer.MIN_VALUE), BAD);
        strikeAll(x, 0);
        due("statement(0, 5) STRUCK OUT", x.statement(0, 5), 1);
        due("statement(1, 5)", x.statement(1, 5), 0);
        due("statement(0, 3) STRUCK OUT", x.statement(0, 3), 1);
        due("statement(2, 4), as told", x.statement(2, 4), 1);
        strikeAll(x, 0);
        due("statement(0, 5) let in", x.statement(0, 5), 0);
    }

    private static void argue() {
        HeardBackward x = new HeardBackward();
        due("argue(8)", x.argue(8), BAD);
        due("argue(-1)", x.argue(-1), BAD);
        due("argue(32)", x.argue(32), BAD);
        due("argue(MAX)", x.argue(Integer.MAX_VALUE), BAD);
        due("argue(2), no VERDICT", x.argue(2), NO);
        due("argue(5), a NIGHT", x.argue(5), NO);
        due("count(5), nothing to be UNDONE", x.count(5), 0);
        due("argue(7)", x.argue(7), 1);
        due("argue(7) twice", x.argue(7), NO);
        due("argue(0), a VERDICT, but not behind it", x.argue(0), NO);
        due("argue(2)", x.argue(2), 2);
        x.strike(6);
        due("argue(6) STRUCK OUT", x.argue(6), NO);
        x.strike(6);
        due("argue(6) let in", x.argue(6), 3);
        due("argue(5) behind a NIGHT", x.argue(5), NO);
        due("argue(8) behind a NIGHT", x.argue(8), BAD);
        due("count(3)", x.count(3), 3);
        HeardBackward y = new HeardBackward();
        y.strike(0);
        due("argue(0), a VERDICT STRUCK OUT", y.argue(0), NO);
        y.strike(0);
        argueAll(y, 0, 1);
        due("argue(0), none twice", y.argue(0), NO);
        due("argue(3)", y.argue(3), 3);
        HeardBackward ten = tenInARow();
        for (int a = 0; a < 10; a++) {
            due("argue(" + a + ") of ten", ten.argue(a), a + 1);
        }
        due("argue(9) behind ten", ten.argue(9), NO);
    }

    private static HeardBackward tenInARow() {
        return Check.laidOut("s0,1,2;s0,1,2;s0,1,2;s0,1,2;s0,1,2;s0,1,2;s0,1,2;s0,1,2;s0,1,2;s4,1,2;"
                + "v0;r0,1;r1,2;r2,3;r3,4;r4,5;r5,6;r6,7;r7,8;r8,9;p9,9;");
    }

    private static void drop() {
        HeardBackward x = new HeardBackward();
        due("drop() of none", x.drop(), 0);
        due("count(5), it can be UNDONE", x.count(5), 1);
        argueAll(x, 0, 2, 6);
        x.strike(4);
        due("drop()", x.drop(), 3);
        due("count(3)", x.count(3), 0);
        due("count(4), STRUCK OUT stays", x.count(4), 1);
        due("next()", x.next(), 129);
        due("drop() again", x.drop(), 0);
        due("count(5)", x.count(5), 7);
        due("argue(7)", x.argue(7), 1);
        due("argued(0)", x.argued(0), 7);
    }

    private static void strike() {
        HeardBackward x = new HeardBackward();
        due("strike(8)", x.strike(8), BAD);
        due("strike(-1)", x.strike(-1), BAD);
        due("strike(33)", x.strike(33), BAD);
        due("count(5)", x.count(5), 0);
        for (int a = 0; a < 8; a++) {
            due("strike(" + a + ")", x.strike(a), 1);
            due("statement(" + a + ", 5)", x.statement(a, 5), 1);
        }
        due("count(4)", x.count(4), 8);
        for (int a = 0; a < 8; a++) {
            due("strike(" + a + ") lets in", x.strike(a), 0);
        }
        due("count(4)", x.count(4), 0);
        argueAll(x, 0, 1);
        due("strike(0) of the TRIAL", x.strike(0), NO);
        due("strike(1) of the TRIAL", x.strike(1), NO);
        due("strike(2)", x.strike(2), 1);
        due("strike(8), BAD stays BAD", x.strike(8), BAD);
        x.drop();
        due("strike(0) behind drop", x.strike(0), 1);
    }

    private static void undo() {
        HeardBackward x = new HeardBackward();
        due("undo() of nothing", x.undo(), NO);
        x.strike(4);
        argueAll(x, 0, 1);
        x.drop();
        x.drop();
        x.argue(7);
        x.strike(4);
        due("count(5)", x.count(5), 7);
        due("undo() of letting in", x.undo(), 6);
        due("statement(4, 5)", x.statement(4, 5), 1);
        due("undo() of argue", x.undo(), 5);
        due("count(3)", x.count(3), 0);
        due("undo() of a drop of none", x.undo(), 4);
        due("count(3)", x.count(3), 0);
        due("undo() of drop", x.undo(), 3);
        due("count(3)", x.count(3), 2);
        due("argued(0)", x.argued(0), 0);
        due("argued(1)", x.argued(1), 1);
        due("undo()", x.undo(), 2);
        due("count(3)", x.count(3), 1);
        due("argue(2)", x.argue(2), 2);
        due("argued(1)", x.argued(1), 2);
        due("undo()", x.undo(), 2);
        due("undo()", x.undo(), 1);
        due("undo() of strike", x.undo(), 0);
        due("statement(4, 5)", x.statement(4, 5), 0);
        due("undo() of nothing more", x.undo(), NO);
        undoOfMany();
    }

    private static void undoOfMany() {
        HeardBackward x = new HeardBackward();
        for (int i = 0; i < 21; i++) {
            x.strike(i % 7);
        }
        due("count(5) of 21", x.count(5), 8);
        for (int i = 7; i >= 0; i--) {
            due("undo()", x.undo(), i);
        }
        due("undo() of the ninth", x.undo(), NO);
        for (int a = 0; a < 8; a++) {
            due("statement(" + a + ", 5) after 13 strikes", x.statement(a, 5), a == 6 ? 1 : 0);
        }
        x.strike(20);
        x.argue(6);
        x.undo();
        due("count(5), what was refused can't be UNDONE", x.count(5), 0);
        x.write('a');
        x.keep();
        x.wipe();
        due("undo() of what is none of these", x.undo(), NO);
    }

    private static void argued() {
        HeardBackward x = new HeardBackward();
        due("argued(0) of none", x.argued(0), BAD);
        argueAll(x, 7, 4, 5);
        int[] row = {7, 4, 5};
        for (int k = 0; k < 3; k++) {
            due("argued(" + k + ")", x.argued(k), row[k]);
        }
        due("argued(3)", x.argued(3), BAD);
        due("argued(-1)", x.argued(-1), BAD);
        due("argued(MIN)", x.argued(Integer.MIN_VALUE), BAD);
        due("argued(MAX)", x.argued(Integer.MAX_VALUE), BAD);
        x.undo();
        due("argued(2) behind undo", x.argued(2), BAD);
        HeardBackward ten = tenInARow();
        argueAll(ten, 0, 1, 2, 3, 4, 5, 6, 7, 8, 9);
        due("argued(9)", ten.argued(9), 9);
        due("argued(10)", ten.argued(10), BAD);
    }

    private static void next() {
        HeardBackward x = new HeardBackward();
        due("next() without TRIAL", x.next(), 0b10000001);
        x.strike(7);
        due("next(), a VERDICT STRUCK OUT", x.next(), 1);
        x.strike(0);
        due("next(), all VERDICTS STRUCK OUT", x.next(), 0);
        x.strike(0);
        argueAll(x, 0);
        due("next() behind 0", x.next(), 0b110);
        x.strike(1);
        due("next(), 1 STRUCK OUT", x.next(), 0b100);
        x.strike(1);
        x.argue(1);
        due("next() behind 1, 0 not twice", x.next(), 0b1000);
        argueAll(x, 3, 4, 5);
        due("next() behind a NIGHT", x.next(), 0);
        x.drop();
        due("next() behind drop", x.next(), 1);
    }

    private static void trial() {
        HeardBackward x = new HeardBackward();
        for (int what = 0; what < 3; what++) {
            due("trial(" + what + ") of none", x.trial(what), 0);
        }
        due("trial(3)", x.trial(3), BAD);
        due("trial(-1)", x.trial(-1), BAD);
        int[] row = {0, 1, 3, 4, 5};
        int[] costs = {3, 5, 13, 17, 17};
        for (int k = 0; k < row.length; k++) {
            x.argue(row[k]);
            due("trial(0) of " + (k + 1), x.trial(0), costs[k]);
            due("trial(1) of " + (k + 1), x.trial(1), k == 4 ? 1 : 0);
            due("trial(2) of " + (k + 1), x.trial(2), 0);
        }
        x.undo();
        due("trial(1) behind undo", x.trial(1), 0);
        x.strike(5);
        due("trial(2) STUCK", x.trial(2), 1);
        due("trial(1) STUCK", x.trial(1), 0);
        x.strike(5);
        due("trial(2) let in", x.trial(2), 0);
        HeardBackward y = Check.laidOut("s0,1,1;s0,1,1;v0;v1;r1,0;");
        y.argue(0);
        due("trial(2) of a VERDICT that hangs on nothing", y.trial(2), 1);
        y.drop();
        argueAll(y, 1);
        due("trial(2)", y.trial(2), 0);
        y.argue(0);
        due("trial(2)", y.trial(2), 1);
        HeardBackward z = new HeardBackward();
        strikeAll(z, 0, 7);
        due("trial(2), no TRIAL is STUCK", z.trial(2), 0);
    }

    private static void trialCosts() {
        HeardBackward x = Check.laidOut("s1,5,0;s1,3,0;s0,2,0;s1,4,0;s2,6,0;s3,7,0;s3,1,0;s4,9,0;v0;"
                + "r0,1;r1,2;r2,3;r3,4;r4,5;r5,6;r6,7;");
        int[] costs = {5, 10, 12, 16, 28, 40, 47, 56};
        for (int a = 0; a < costs.length; a++) {
            x.argue(a);
            due("trial(0) of " + (a + 1), x.trial(0), costs[a]);
        }
        HeardBackward y = Check.laidOut("s3,7,0;s2,0,0;s3,0,0;s4,20,0;v0;v1;r0,1;r1,2;r2,3;");
        y.argue(0);
        due("trial(0), an ARREST as VERDICT", y.trial(0), 7);
        argueAll(y, 1, 2, 3);
        due("trial(0), nothing told", y.trial(0), 29);
        y.drop();
        y.argue(1);
        due("trial(0), a CLUE of 0", y.trial(0), 0);
        y.argue(2);
        due("trial(0), far 1", y.trial(0), 1);
    }

    private static void chains() {
        HeardBackward x = new HeardBackward();
        due("chains(0)", x.chains(0), 5);
        due("chains(7)", x.chains(7), 4);
        notAVerdict(x);
        due("chains(-1)", x.chains(-1), BAD);
        due("chains(1)", x.chains(1), BAD);
        due("chains(5)", x.chains(5), BAD);
        due("chains(8)", x.chains(8), BAD);
        due("chains(32)", x.chains(32), BAD);
        x.strike(2);
        due("chains(0), 2 STRUCK OUT", x.chains(0), 2);
        due("chains(7), 2 STRUCK OUT", x.chains(7), 1);
        x.strike(7);
        due("chains(7), itself STRUCK OUT", x.chains(7), 0);
        due("chains(0)", x.chains(0), 2);
        argueAll(x, 0, 1, 3);
        due("chains(0) in a TRIAL", x.chains(0), 2);
        HeardBackward y = Check.laidOut("s0,0,0;s0,0,0;s0,0,0;s4,0,0;v0;r0,1;r1,0;r1,2;r2,1;r2,0;r0,2;r1,3;r2,3;");
        due("chains(0), none twice", y.chains(0), 4);
        due("chains(0) of ten", tenInARow().chains(0), 1);
        due("chains(2), back to front", backToFront().chains(2), 1);
        due("chains(3), back to front", backToFront().chains(3), 2);
        due("chains(0) to no NIGHT", Check.laidOut("s0,0,0;s0,0,0;v0;r0,1;r1,0;").chains(0), 0);
        due("chains(0) of many", many().chains(0), 4 + 4 * 3 + 4 * 3 * 2 + 4 * 3 * 2);
    }

    /** A VERDICT, four statements that hang on one another and on it, each on the one NIGHT. */
    private static HeardBackward many() {
        return Check.laidOut("s0,0,0;s0,0,0;s0,0,0;s0,0,0;s0,0,0;s4,0,0;v0;"
                + "r0,1;r0,2;r0,3;r0,4;r1,2;r1,3;r1,4;r2,1;r2,3;r2,4;r3,1;r3,2;r3,4;r4,1;r4,2;r4,3;r1,5;r2,5;r3,5;r4,5;");
    }

    /** Every call that takes a VERDICT refuses what is none. */
    private static void notAVerdict(HeardBackward x) {
        int[] none = {-1, 1, 2, 3, 4, 5, 6, 8, 9, 10, 31, 32, 33, Integer.MIN_VALUE, Integer.MAX_VALUE};
        for (int v : none) {
            due("chains(" + v + ")", x.chains(v), BAD);
            due("shortest(" + v + ", -2)", x.shortest(v, -2), BAD);
            due("nights(" + v + ")", x.nights(v), BAD);
            due("needed(" + v + ")", x.needed(v), BAD);
            due("both(" + v + ", 0, 0)", x.both(v, 0, 0), BAD);
            due("both(0, " + v + ", 0)", x.both(0, v, 0), BAD);
            due("byTurns(" + v + ", 0)", x.byTurns(v, 0), BAD);
            due("days(" + v + ")", x.days(v), BAD);
            due("fits(" + v + ")", x.fits(v), BAD);
            due("look(" + v + ", 0)", x.look(v, 0), BAD);
            due("laid(" + v + ", 0)", x.laid(v, 0), BAD);
            due("odds(" + v + ", 5, 0)", x.odds(v, 5, 0), BAD);
            due("trialBy(0, " + v + ", 0)", x.trialBy(0, v, 0), BAD);
        }
    }

    private static void shortest() {
        HeardBackward x = new HeardBackward();
        int[] want = {10, 3, 0, 2, 6, NONE, NONE};
        for (int k = -2; k < 5; k++) {
            due("shortest(0, " + k + ")", x.shortest(0, k), want[k + 2]);
        }
        due("shortest(0, 10)", x.shortest(0, 10), NONE);
        due("shortest(0, MAX)", x.shortest(0, Integer.MAX_VALUE), NONE);
        due("shortest(0, -3)", x.shortest(0, -3), BAD);
        due("shortest(0, MIN)", x.shortest(0, Integer.MIN_VALUE), BAD);
        due("shortest(1, 0)", x.shortest(1, 0), BAD);
        x.strike(6);
        int[] then = {17, 5, 0, 1, 3, 4, 5, NONE};
        for (int k = -2; k < 6; k++) {
            due("shortest(0, " + k + "), 6 STRUCK OUT", x.shortest(0, k), then[k + 2]);
        }
        x.strike(5);
        for (int k = -2; k < 3; k++) {
            due("shortest(0, " + k + "), no NIGHT", x.shortest(0, k), NONE);
        }
        due("shortest(0, -3), no NIGHT", x.shortest(0, -3), BAD);
        strikeAll(x, 5, 6, 0);
        due("shortest(0, -2), itself STRUCK OUT", x.shortest(0, -2), NONE);
        HeardBackward ten = tenInARow();
        due("shortest(0, -2) of ten", ten.shortest(0, -2), 10);
        due("shortest(0, -1) of ten", ten.shortest(0, -1), 10);
        due("shortest(0, 9) of ten", ten.shortest(0, 9), 9);
        due("shortest(0, 10) of ten", ten.shortest(0, 10), NONE);
    }

    private static void shortestOfSeveral() {
        HeardBackward fewer = Check.laidOut("s0,1,0;s0,1,0;s0,1,0;s0,2,0;s4,0,0;v0;r0,1;r1,2;r2,4;r0,3;r3,4;");
        due("cost", fewer.shortest(0, -2), 3);
        due("fewest of one cost", fewer.shortest(0, -1), 3);
        due("by the other way", fewer.shortest(0, 1), 3);
        HeardBackward cheaper = Check.laidOut("s0,1,0;s0,1,0;s0,1,0;s0,3,0;s4,0,0;v0;r0,1;r1,2;r2,4;r0,3;r3,4;");
        due("cost ahead of number", cheaper.shortest(0, -2), 3);
        due("more STATEMENTS", cheaper.shortest(0, -1), 4);
        HeardBackward first = Check.laidOut("s0,1,0;s4,1,0;s0,1,0;s0,1,0;s4,1,0;v0;r0,3;r0,2;r2,4;r2,1;r3,1;r3,4;");
        due("lowest second", first.shortest(0, 1), 2);
        due("lowest third", first.shortest(0, 2), 1);
        HeardBackward witness = Check.laidOut("s1,1,0;s1,1,0;s0,2,0;s4,0,0;v0;r0,1;r0,2;r1,3;r2,3;");
        due("a WITNESS behind a WITNESS", witness.shortest(0, 1), 2);
        due("what it costs", witness.shortest(0, -2), 3);
        HeardBackward arrest = Check.laidOut("s0,0,0;s0,1,0;s3,0,0;s3,0,0;s4,0,0;v0;r0,1;r1,2;r2,4;r0,3;r3,4;");
        due("an ARREST that is less far", arrest.shortest(0, 1), 3);
        due("what it costs", arrest.shortest(0, -2), 1);
    }

    private static void nights() {
        HeardBackward x = new HeardBackward();
        due("nights(0)", x.nights(0), 0b1100000);
        due("nights(7)", x.nights(7), 0b1100000);
        due("nights(1)", x.nights(1), BAD);
        x.strike(4);
        due("nights(7), 4 STRUCK OUT", x.nights(7), 0b1000000);
        x.strike(6);
        due("nights(7), none", x.nights(7), 0);
        due("nights(0), none", x.nights(0), 0);
        strikeAll(x, 4, 6, 7);
        due("nights(7), itself STRUCK OUT", x.nights(7), 0);
        HeardBackward y = Check.laidOut("s0,0,0;s4,0,0;s4,0,0;s4,0,0;v0;r0,1;r0,3;");
        due("nights(0) not all", y.nights(0), 0b1010);
    }

    private static void needed() {
        HeardBackward x = new HeardBackward();
        due("needed(0)", x.needed(0), 1);
        due("needed(7)", x.needed(7), 128);
        due("needed(6)", x.needed(6), BAD);
        x.strike(2);
        due("needed(0), 2 STRUCK OUT", x.needed(0), 0b1011);
        due("needed(7), 2 STRUCK OUT", x.needed(7), 0b10110000);
        x.strike(4);
        due("needed(0), 2 and 4 STRUCK OUT", x.needed(0), 0b1001011);
        due("needed(7), no chain", x.needed(7), 0);
        x.strike(0);
        due("needed(0), itself STRUCK OUT", x.needed(0), 0);
        due("needed(0) of ten", tenInARow().needed(0), 1023);
    }

    private static void forgotten() {
        HeardBackward x = new HeardBackward();
        due("forgotten()", x.forgotten(), 0);
        x.strike(0);
        due("forgotten(), 0 STRUCK OUT", x.forgotten(), 0b10);
        x.strike(7);
        due("forgotten(), all VERDICTS STRUCK OUT", x.forgotten(), 0b01111110);
        HeardBackward y = Check.laidOut("s0,0,0;s0,0,0;s0,0,0;s4,0,0;s4,0,0;s0,0,0;v0;v5;r0,1;r1,2;r1,3;r2,1;");
        due("forgotten() of loose ones", y.forgotten(), 0b110100);
        due("forgotten() of ten", tenInARow().forgotten(), 0);
        HeardBackward z = tenInARow();
        z.strike(9);
        due("forgotten() of no NIGHT", z.forgotten(), 511);
        HeardBackward two = Check.laidOut("s0,0,0;s0,0,0;s4,0,0;s4,0,0;v0;v1;r0,2;r1,3;");
        due("forgotten() of two VERDICTS", two.forgotten(), 0);
        two.strike(3);
        due("forgotten() of one that is left", two.forgotten(), 0b10);
    }

    private static void both() {
        HeardBackward x = new HeardBackward();
        due("both(0, 7, 0)", x.both(0, 7, 0), 6);
        due("both(0, 7, 1)", x.both(0, 7, 1), 23);
        due("both(7, 0, 0)", x.both(7, 0, 0), 6);
        due("both(7, 0, 1)", x.both(7, 0, 1), 23);
        due("both(0, 0, 0)", x.both(0, 0, 0), 6);
        due("both(0, 0, 1)", x.both(0, 0, 1), 20);
        due("both(7, 7, 0)", x.both(7, 7, 0), 5);
        due("both(7, 7, 1)", x.both(7, 7, 1), 16);
        due("both(0, 7, 2)", x.both(0, 7, 2), BAD);
        due("both(0, 7, -1)", x.both(0, 7, -1), BAD);
        x.strike(6);
        due("both(0, 7, 0), 6 STRUCK OUT", x.both(0, 7, 0), 5);
        due("both(0, 7, 1), 6 STRUCK OUT", x.both(0, 7, 1), 25);
        x.strike(5);
        due("both(0, 7, 0), none", x.both(0, 7, 0), NONE);
        due("both(0, 7, 1), none", x.both(0, 7, 1), NONE);
        due("both(0, 7, 2), none", x.both(0, 7, 2), BAD);
        HeardBackward y = Check.laidOut("s0,1,0;s0,1,0;s4,5,0;s4,3,0;s4,3,0;v0;v1;r0,2;r1,3;r1,4;");
        due("both(0, 1, 0), no NIGHT of both", y.both(0, 1, 0), NONE);
        due("both(0, 1, 1), no NIGHT of both", y.both(0, 1, 1), NONE);
        due("both(1, 1, 0), the lowest", y.both(1, 1, 0), 3);
        due("both(1, 1, 1), the lowest", y.both(1, 1, 1), 8);
        HeardBackward far = Check.laidOut("s0,1,0;s0,9,0;s0,1,0;s4,4,0;s4,0,0;v0;v2;r0,1;r1,4;r0,3;r2,3;");
        due("both(0, 2, 0), not the SHORTEST's NIGHT", far.both(0, 2, 0), 3);
        due("both(0, 2, 1)", far.both(0, 2, 1), 10);
    }

    private static void byTurns() {
        HeardBackward x = new HeardBackward();
        due("byTurns(0, 0)", x.byTurns(0, 0), 1);
        due("byTurns(0, 1)", x.byTurns(0, 1), 1);
        due("byTurns(0, 2)", x.byTurns(0, 2), BAD);
        due("byTurns(0, -1)", x.byTurns(0, -1), BAD);
        x.strike(0);
        due("byTurns(0, 0), itself STRUCK OUT", x.byTurns(0, 0), 0);
        due("byTurns(0, 1), itself STRUCK OUT", x.byTurns(0, 1), NONE);
        HeardBackward choice = Check.laidOut("s0,0,0;s0,0,0;s0,0,0;s4,0,0;s4,0,0;v0;r0,1;r0,2;r1,3;r1,4;r2,3;p3,3;");
        due("the other one turns away from 1", choice.byTurns(0, 1), 2);
        choice.strike(4);
        due("the lowest that wins", choice.byTurns(0, 1), 1);
        choice.strike(3);
        due("nothing to win", choice.byTurns(0, 0), 0);
        HeardBackward nobody = Check.laidOut("s0,0,0;s4,0,0;s4,0,0;v0;r0,1;r0,2;p2,2;");
        due("the NIGHT that somebody could have done", nobody.byTurns(0, 1), 2);
        HeardBackward stuck = Check.laidOut("s0,0,0;s0,0,0;s0,0,0;s4,0,0;v0;r0,1;r1,2;r1,3;p3,3;");
        due("the other one gets STUCK", stuck.byTurns(0, 0), 0);
        due("the other one gets STUCK", stuck.byTurns(0, 1), NONE);
        HeardBackward third = Check.laidOut("s0,0,0;s0,0,0;s0,0,0;s4,0,0;s4,0,0;v0;r0,1;r1,2;r2,3;r2,4;p4,4;");
        due("the first one speaks again", third.byTurns(0, 0), 1);
        HeardBackward loop = Check.laidOut("s0,0,0;s0,0,0;s0,0,0;s4,0,0;v0;r0,1;r1,2;r2,1;r2,0;r2,3;p3,3;");
        due("none twice", loop.byTurns(0, 0), 1);
        due("a VERDICT that hangs on nothing", Check.laidOut("s0,0,0;v0;").byTurns(0, 0), 0);
        due("nine turns", tenInARow().byTurns(0, 0), 1);
        due("nothing but 0 wins", Check.laidOut("s0,0,0;s4,0,0;s0,0,0;v2;r2,0;r0,1;p1,1;").byTurns(2, 1), 0);
        due("the other one has 0 to get STUCK by", Check.laidOut(
                "s0,0,0;s4,0,0;s0,0,0;s0,0,0;v2;r2,3;r3,0;r3,1;p1,1;").byTurns(2, 0), 0);
        due("whose turn it is at the fourth", Check.laidOut(
                "s0,0,0;s0,0,0;s0,0,0;s0,0,0;s4,0,0;s4,0,0;v0;r0,1;r1,2;r2,3;r3,4;r3,5;p4,4;").byTurns(0, 0), 0);
        due("whose turn it is at the fifth", Check.laidOut(
                "s0,0,0;s0,0,0;s0,0,0;s0,0,0;s0,0,0;s4,0,0;s4,0,0;v0;r0,1;r1,2;r2,3;r3,4;r4,5;r4,6;p6,6;").byTurns(0, 0), 1);
    }

    private static void days() {
        HeardBackward x = new HeardBackward();
        due("days(0)", x.days(0), 2);
        due("days(7)", x.days(7), 3);
        due("days(5)", x.days(5), BAD);
        x.strike(2);
        due("days(0), 2 STRUCK OUT", x.days(0), 6);
        x.strike(3);
        due("days(0), none", x.days(0), NONE);
        x.strike(7);
        due("days(7), itself STRUCK OUT", x.days(7), NONE);
        due("days(0) of ten", tenInARow().days(0), 20);
        HeardBackward y = Check.laidOut("s0,1,0;s0,1,20;s0,9,0;s4,0,7;v0;r0,1;r1,3;r0,2;r2,3;");
        due("days(0), not the SHORTEST", y.days(0), 7);
        due("shortest(0, 1)", y.shortest(0, 1), 1);
    }

    private static void who() {
        HeardBackward x = new HeardBackward();
        due("who(5)", x.who(5), 3);
        due("who(6)", x.who(6), 2);
        int[] none = {-1, 0, 4, 7, 8, 37, 38, Integer.MIN_VALUE, Integer.MAX_VALUE};
        for (int a : none) {
            due("who(" + a + ")", x.who(a), BAD);
        }
        x.strike(5);
        due("who(5) STRUCK OUT", x.who(5), 3);
        HeardBackward y = Check.laidOut("s0,0,0;s4,0,0;s4,0,0;s4,0,0;v0;p2,2;p1,2;p2,1;p1,1;p2,2;");
        due("who(1)", y.who(1), 0b01110);
        due("who(2)", y.who(2), 0b10111);
        due("who(3)", y.who(3), 0);
    }

    private static void fits() {
        HeardBackward x = new HeardBackward();
        due("fits(0)", x.fits(0), 3);
        due("fits(7)", x.fits(7), 3);
        due("fits(4)", x.fits(4), BAD);
        x.strike(4);
        due("fits(0), to 6 alone", x.fits(0), 2);
        x.strike(6);
        due("fits(0), no NIGHT", x.fits(0), 0);
        strikeAll(x, 4, 6, 0);
        due("fits(0), itself STRUCK OUT", x.fits(0), 0);
        HeardBackward y = Check.laidOut("s0,0,0;s4,0,0;s4,0,0;s4,0,0;v0;r0,1;r0,3;p1,1;p2,2;p2,3;p3,1;");
        due("fits(0) by two NIGHTS", y.fits(0), 0b1101);
    }

    private static void look() {
        HeardBackward x = new HeardBackward();
        due("look(0, 0)", x.look(0, 0), 5);
        due("look(0, 1)", x.look(0, 1), 2);
        due("look(0, 2)", x.look(0, 2), BAD);
        due("look(0, -1)", x.look(0, -1), BAD);
        x.strike(5);
        due("look(0, 0), 5 STRUCK OUT", x.look(0, 0), 6);
        due("look(0, 1), 5 STRUCK OUT", x.look(0, 1), 1);
        x.strike(6);
        due("look(0, 0), none", x.look(0, 0), NONE);
        due("look(0, 1), none", x.look(0, 1), NONE);
        due("look(0, 2), none", x.look(0, 2), BAD);
        HeardBackward y = Check.laidOut("s0,0,0;s4,0,0;s4,0,0;s4,0,0;s4,0,0;v0;r0,2;r0,3;r0,4;p1,1;p1,1;p1,3;p4,4;");
        due("look(0, 0), the lowest of several", y.look(0, 0), 3);
        due("look(0, 1), the lowest of several", y.look(0, 1), 1);
        HeardBackward z = Check.laidOut("s0,0,0;s4,0,0;s4,0,0;v0;r0,2;r0,1;");
        due("look(0, 0), nobody", z.look(0, 0), 1);
        due("look(0, 1), nobody", z.look(0, 1), 0);
    }

    private static void laid() {
        HeardBackward x = new HeardBackward();
        int[] want = {1, 2, 2, NONE, NONE};
        for (int k = 0; k < want.length; k++) {
            due("laid(0, " + k + ")", x.laid(0, k), want[k]);
        }
        due("laid(0, MAX)", x.laid(0, Integer.MAX_VALUE), NONE);
        due("laid(0, -1)", x.laid(0, -1), BAD);
        due("laid(0, MIN)", x.laid(0, Integer.MIN_VALUE), BAD);
        due("laid(3, 0)", x.laid(3, 0), BAD);
        due("laid(7, 0)", x.laid(7, 0), 2);
        due("laid(7, 1)", x.laid(7, 1), 3);
        strikeAll(x, 5, 6);
        due("laid(0, 0), none", x.laid(0, 0), NONE);
        due("laid(0, -1), none", x.laid(0, -1), BAD);
        HeardBackward ten = tenInARow();
        for (int k = 0; k < 10; k++) {
            due("laid(0, " + k + ") of ten", ten.laid(0, k), 2 * k + 2);
        }
        due("laid(0, 10) of ten", ten.laid(0, 10), NONE);
        HeardBackward y = Check.laidOut("s0,1,3;s0,1,20;s0,9,0;s4,0,7;v0;r0,1;r1,3;r0,2;r2,3;");
        due("laid(0, 2), of the one that costs least", y.laid(0, 2), 30);
    }

    private static void odds() {
        HeardBackward x = new HeardBackward();
        int[][] two = {{0, 1}, {19, 100}, {9, 25}, {51, 100}, {16, 25}, {3, 4}, {21, 25}, {91, 100}, {24, 25}, {99, 100}, {1, 1}};
        for (int chance = 0; chance <= 10; chance++) {
            due("odds(0, " + chance + ", 0)", x.odds(0, chance, 0), two[chance][0]);
            due("odds(0, " + chance + ", 1)", x.odds(0, chance, 1), two[chance][1]);
        }
        due("odds(0, 11, 0)", x.odds(0, 11, 0), BAD);
        due("odds(0, -1, 0)", x.odds(0, -1, 0), BAD);
        due("odds(0, 5, 2)", x.odds(0, 5, 2), BAD);
        due("odds(0, 5, -1)", x.odds(0, 5, -1), BAD);
        x.strike(0);
        due("odds(0, 10, 0), itself STRUCK OUT", x.odds(0, 10, 0), 0);
        due("odds(0, 10, 1), itself STRUCK OUT", x.odds(0, 10, 1), 1);
        HeardBackward five = Check.laidOut("s0,0,0;s4,0,0;v0;r0,1;p1,1;p1,1;p1,1;p1,1;p1,1;");
        due("odds(0, 1, 0) of five", five.odds(0, 1, 0), 40951);
        due("odds(0, 1, 1) of five", five.odds(0, 1, 1), 100000);
        due("odds(0, 5, 0) of five", five.odds(0, 5, 0), 31);
        due("odds(0, 5, 1) of five", five.odds(0, 5, 1), 32);
        due("odds(0, 4, 0) of five", five.odds(0, 4, 0), 2882);
        due("odds(0, 4, 1) of five", five.odds(0, 4, 1), 3125);
        HeardBackward one = Check.laidOut("s0,0,0;s4,0,0;s4,0,0;v0;r0,1;p1,1;p2,2;");
        due("odds(0, 6, 0) of one", one.odds(0, 6, 0), 3);
        due("odds(0, 6, 1) of one", one.odds(0, 6, 1), 5);
    }

    private static void trialBy() {
        HeardBackward x = new HeardBackward();
        due("trialBy(-1, 0, 0)", x.trialBy(-1, 0, 0), BAD);
        due("trialBy(10000, 0, 0)", x.trialBy(10000, 0, 0), BAD);
        due("trialBy(0, 0, 2)", x.trialBy(0, 0, 2), BAD);
        due("trialBy(0, 0, -1)", x.trialBy(0, 0, -1), BAD);
        due("trialBy(0, 3, 0)", x.trialBy(0, 3, 0), BAD);
        // q = 6152, 12303, 18454: draws 10488, 2594, 9767: behind 0 the even one, behind 1 the only one, ..
        due("trialBy(0, 0, 0)", x.trialBy(0, 0, 0), 4);
        due("trialBy(0, 0, 1)", x.trialBy(0, 0, 1), 6);
        x.strike(0);
        due("trialBy(0, 0, 0), itself STRUCK OUT", x.trialBy(0, 0, 0), 1);
        due("trialBy(0, 0, 1), itself STRUCK OUT", x.trialBy(0, 0, 1), NONE);
        x.strike(0);
        strikeAll(x, 4, 6);
        due("trialBy(0, 0, 1) STUCK", x.trialBy(0, 0, 1), NONE);
        due("trialBy(0, 0, 0) STUCK", x.trialBy(0, 0, 0), 3);
        due("count(3), no TRIAL is argued by it", x.count(3), 0);
        HeardBackward ten = tenInARow();
        due("trialBy(9999, 0, 0) of ten", ten.trialBy(9999, 0, 0), 10);
        due("trialBy(9999, 0, 1) of ten", ten.trialBy(9999, 0, 1), 9);
        HeardBackward alone = Check.laidOut("s0,0,0;v0;");
        due("trialBy(3, 0, 0) of one", alone.trialBy(3, 0, 0), 1);
        due("trialBy(3, 0, 1) of one", alone.trialBy(3, 0, 1), NONE);
        HeardBackward zero = Check.laidOut("s0,0,0;s4,0,0;s0,0,0;v2;r2,0;r0,1;");
        due("trialBy(0, 2, 0) by 0", zero.trialBy(0, 2, 0), 3);
        HeardBackward round = Check.laidOut("s0,0,0;s0,0,0;s0,0,0;v0;r0,1;r1,2;r2,0;r2,1;");
        due("trialBy(0, 0, 0), none twice", round.trialBy(0, 0, 0), 3);
        due("trialBy(0, 0, 1), none twice", round.trialBy(0, 0, 1), NONE);
        HeardBackward wide = Check.laidOut("s0,0,0;s4,0,0;s4,0,0;s4,0,0;s4,0,0;s4,0,0;s4,0,0;s4,0,0;v0;"
                + "r0,1;r0,2;r0,3;r0,4;r0,5;r0,6;r0,7;");
        for (int z = 0; z < 10000; z += 101) {
            long q = 7919L * z + 6152L;
            int drawn = (int) (q * q % 65521 / 4 % 7);
            due("trialBy(" + z + ", 0, 1) of seven", wide.trialBy(z, 0, 1), 1 + drawn);
        }
    }

    private static void keep() {
        HeardBackward x = new HeardBackward();
        due("keep() of no TRIAL", x.keep(), 1);
        argueAll(x, 0, 1);
        due("keep()", x.keep(), 2);
        due("keep() of a third", x.keep(), FULL);
        due("count(6)", x.count(6), 2);
        due("count(5), it can't be UNDONE, nor is anything forgotten", x.count(5), 2);
        x.drop();
        x.strike(3);
        due("undo() leaves what is KEPT", x.undo(), 3);
        due("back()", x.back(), 1);
        due("argued(1)", x.argued(1), 1);
        due("keep() in the free place", x.keep(), 2);
        due("keep() of a third", x.keep(), FULL);
    }

    private static void back() {
        HeardBackward x = new HeardBackward();
        due("back() of none", x.back(), NO);
        x.strike(4);
        argueAll(x, 0, 1);
        due("back() of none", x.back(), NO);
        due("count(5), nothing changed", x.count(5), 3);
        x.keep();
        x.drop();
        strikeAll(x, 4, 3, 0);
        x.keep();
        x.strike(0);
        due("back()", x.back(), 1);
        due("count(3)", x.count(3), 0);
        due("count(4)", x.count(4), 2);
        due("statement(0, 5)", x.statement(0, 5), 1);
        due("statement(3, 5)", x.statement(3, 5), 1);
        due("statement(4, 5)", x.statement(4, 5), 0);
        due("undo(), nothing is UNDONE then", x.undo(), NO);
        due("back()", x.back(), 0);
        due("count(3)", x.count(3), 2);
        due("argued(0)", x.argued(0), 0);
        due("argued(1)", x.argued(1), 1);
        due("statement(4, 5)", x.statement(4, 5), 1);
        due("count(4)", x.count(4), 1);
        due("count(5)", x.count(5), 0);
        due("back() of none left", x.back(), NO);
        due("argue(3)", x.argue(3), 3);
        due("undo() of what came then", x.undo(), 0);
    }

    private static void count() {
        HeardBackward x = Check.laidOut("s0,0,0;s1,0,0;s4,0,0;v0;v1;v0;r0,1;r0,2;r1,2;p2,2;p2,2;p2,2;");
        int[] want = {3, 2, 3, 0, 0, 0, 0, 61};
        x.write('s');
        due("count(7)", x.count(7), 61);
        argueAll(x, 0);
        strikeAll(x, 1, 2);
        x.keep();
        want[3] = 1;
        want[4] = 2;
        want[5] = 3;
        want[6] = 1;
        for (int what = 0; what < want.length; what++) {
            due("count(" + what + ")", x.count(what), want[what]);
        }
        due("count(8)", x.count(8), BAD);
        due("count(-1)", x.count(-1), BAD);
        due("count(MIN)", x.count(Integer.MIN_VALUE), BAD);
        due("count(MAX)", x.count(Integer.MAX_VALUE), BAD);
        HeardBackward y = new HeardBackward();
        strikeAll(y, 0, 7);
        due("count(1), STRUCK OUT or not", y.count(1), 2);
    }
}
