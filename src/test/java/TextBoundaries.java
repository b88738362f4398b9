/** Terms 1: how long a TEXT is, what an ITEM is, where the FAULT is, what can be LAID. */
final class TextBoundaries {
    private static final int NONE = -4;
    private static final String PART = "Terms 1";
    private static final String SMALL = "s0,1,1;s4,2,3;v0;r0,1;p1,1;";
    private static final String FOUR = "s0,0,0;s0,0,0;s4,0,0;s4,0,0;";
    private static final String TEN = "s0,0,0;s1,0,0;s2,0,0;s3,0,0;s4,0,0;s0,0,0;s1,0,0;s2,0,0;s3,0,0;s4,0,0;";

    private final BoundaryTests all;

    TextBoundaries(BoundaryTests all) {
        this.all = all;
    }

    void run() {
        length();
        items();
        letters();
        figures();
        signs();
        kinds();
        costsAndDays();
        tenStatements();
        verdicts();
        hangs();
        persons();
        fivePersons();
        places();
        laid();
    }

    private Sentence says(String words) {
        return all.sentence(PART, words);
    }

    private static void of(Sentence s, String ahead, String item, boolean right) {
        s.fault(ahead + item, right ? NONE : ahead.length());
    }

    private void length() {
        Sentence s = says("A TEXT is letters (200 at most)");
        String full = SMALL + "v0;".repeat(56) + "r0,1;";
        s.due("letters of the test's text", full.length(), 200);
        s.talk().writes(full.substring(0, 199)).due("count(7)=199 fault()=195 write(59)=200")
                .refused("write(59)=FULL write(32)=FULL write(126)=FULL write(31)=BAD write(127)=BAD")
                .due("count(7)=200 fault()=-4 lay()=2 wipe()=200 write(115)=1");
        String over = SMALL + "v0;".repeat(56) + "r0,01;";
        s.talk().writes(over.substring(0, 200)).refused("write(59)=FULL").due("fault()=195").refused("lay()=NO");
        s.talk().due("count(7)=0 fault()=-4").refused("lay()=NO").due("write(115)=1");
        s.fault(SMALL + "v0;".repeat(54) + "r0,1;r0,1;" + "v", 199);
        s.fault(SMALL + "v0;".repeat(57) + "v0", 198);
        s.fault("s4,20,20;".repeat(10) + "p9,9;".repeat(5) + "p0,0;".repeat(17), 115);
    }

    private void items() {
        Sentence s = says("ITEMS one behind the other");
        s.fault("", NONE);
        s.fault("s0,0,0;", NONE);
        s.fault("s0,0,0;v0;s4,0,0;p1,1;r0,1;s4,0,0;p2,1;v0;", NONE);
        for (String between : new String[] {" ", ";", ",", "  ", "-", ".", "|"}) {
            s.fault(between, 0);
            s.fault(between + SMALL, 0);
            s.fault(SMALL + between, SMALL.length());
            s.fault(SMALL + between + "v0;", SMALL.length());
            s.fault("s0,0,0;" + between + "v0;", 7);
        }
    }

    private void letters() {
        Sentence s = says("each a letter");
        String[] numbers = {"", "0", "2", "0,1", "2,3", "2,2", "0,0,0", "0,1,0", "2,3,2", "0,0,0,0", "2,3,2,3"};
        for (char c = 32; c <= 126; c++) {
            for (String n : numbers) {
                int amount = n.isEmpty() ? 0 : n.split(",").length;
                boolean right = c == 's' && amount == 3
                        || c == 'v' && n.equals("0")
                        || c == 'r' && n.equals("0,1")
                        || c == 'p' && (n.equals("2,3") || n.equals("2,2"));
                of(s, FOUR, c + n + ";", right);
            }
        }
        of(s, FOUR, "0;", false);
        of(s, FOUR, "vv0;", false);
        of(s, FOUR, "ss0,0,0;", false);
    }

    private void figures() {
        Sentence s = says("then numbers (one or two figures)");
        String[] items = {"s#,0,0;", "s0,#,0;", "s0,0,#;", "v#;", "r#,0;", "r0,#;"};
        for (String item : items) {
            figuresOf(s, "s0,0,0;s0,0,0;s4,0,0;", item);
        }
        figuresOf(s, "s0,0,0;s4,0,0;", "p#,1;");
        figuresOf(s, "s0,0,0;s4,0,0;", "p1,#;");
        for (char c = 32; c <= 126; c++) {
            of(s, TEN, "v" + c + ";", c >= '0' && c <= '8' && c != '4');
            of(s, TEN, "r0," + c + ";", c >= '1' && c <= '9');
            of(s, TEN, "p4," + c + ";", c == '4' || c == '9');
            of(s, FOUR, "s" + c + ",0,0;", c >= '0' && c <= '4');
            of(s, FOUR, "s0," + c + ",0;", c >= '0' && c <= '9');
            of(s, FOUR, "s0,1" + c + ",0;", c >= '0' && c <= '9');
            of(s, FOUR, "s0,0," + c + "0;", c >= '0' && c <= '2');
        }
        s.talk("s01,09,10;s4,20,02;v00;r00,01;p01,01;")
                .due("statement(0,0)=1 statement(0,1)=9 statement(0,2)=10 statement(1,1)=20 statement(1,2)=2")
                .due("statement(0,4)=2 who(1)=1 count(0)=2 count(1)=1 count(2)=1");
    }

    private static void figuresOf(Sentence s, String ahead, String item) {
        of(s, ahead, item.replace("#", "1"), true);
        of(s, ahead, item.replace("#", "01"), true);
        for (String wrong : new String[] {"", "001", "1 ", " 1", "-1", "+1", "1.", "1:", "/1", "0001", "-01", "x", "1x"}) {
            of(s, ahead, item.replace("#", wrong), false);
        }
    }

    private void signs() {
        Sentence s = says("parted by ,");
        for (char c = 32; c <= 126; c++) {
            for (String item : new String[] {"s0?0,0;", "s0,0?0;", "s01?0,0;", "s0,01?0;", "r0?1;", "p2?3;", "r00?1;", "p02?3;"}) {
                of(s, FOUR, item.replace('?', c), c == ',');
            }
        }
        of(s, FOUR, "s0,,0,0;", false);
        of(s, FOUR, "r,0,1;", false);
        of(s, FOUR, "r0, 1;", false);
        s = says("and a ; behind the last one");
        for (char c = 32; c <= 126; c++) {
            for (String item : new String[] {"s0,0,0?", "s0,0,00?", "v0?", "v00?", "r0,1?", "r0,01?", "p2,3?", "p2,03?"}) {
                of(s, FOUR, item.replace('?', c), c == ';');
            }
        }
        for (String item : new String[] {"s0,0,0;", "v0;", "r0,1;", "p2,3;", "s0,00,00;", "v00;", "r00,01;", "p02,03;"}) {
            for (int letters = 1; letters < item.length(); letters++) {
                of(s, FOUR, item.substring(0, letters), false);
                of(s, FOUR, item.substring(0, letters) + "v0;", false);
            }
            of(s, FOUR, item, true);
            s.fault(FOUR + item + ";", FOUR.length() + item.length());
        }
    }

    private void kinds() {
        Sentence s = says("sK,C,D a STATEMENT of KIND K (0 SPEECH, 1 WITNESS, 2 CLUE, 3 ARREST, 4 NIGHT)");
        for (int k = 0; k < 100; k++) {
            of(s, "", "s" + k + ",0,0;", k <= 4);
            of(s, FOUR, "s" + twoFigures(k) + ",0,0;", k <= 4);
        }
        Talk x = s.talk("s0,1,0;s1,1,0;s2,1,0;s3,1,0;s4,1,0;v0;r0,1;r1,2;r2,3;r3,4;");
        for (int k = 0; k <= 4; k++) {
            x.due("statement(" + k + ",0)", k);
        }
        for (int k = 0; k <= 4; k++) {
            of(s, "s" + k + ",0,0;", "v0;", k < 4);
            of(s, "s" + k + ",0,0;", "p0,0;", k == 4);
        }
    }

    private static String twoFigures(int n) {
        return n < 10 ? "0" + n : "" + n;
    }

    private void costsAndDays() {
        Sentence s = says("that costs C (0 to 20), takes D (0 to 20) days;");
        for (int n = 0; n < 100; n++) {
            for (int k = 0; k <= 4; k++) {
                of(s, "", "s" + k + "," + n + ",0;", n <= 20);
                of(s, FOUR, "s" + k + ",0," + twoFigures(n) + ";", n <= 20);
            }
        }
        s.talk("s3,0,20;s2,20,0;s4,20,20;v0;").due("statement(0,1)=0 statement(0,2)=20 statement(1,1)=20")
                .due("statement(1,2)=0 statement(2,1)=20 statement(2,2)=20");
        s.talk().writes("s0,21,0;v0;").refused("lay()=NO");
        s.talk().writes("s0,0,21;v0;").refused("lay()=NO");
    }

    private void tenStatements() {
        Sentence s = says("10 at most, 0, 1, ..");
        StringBuilder text = new StringBuilder();
        for (int n = 1; n <= 10; n++) {
            text.append("s0,").append(n).append(",0;");
            s.fault(text.toString(), NONE);
            Talk x = s.talk(text + "v0;").due("count(0)", n).due("statement(" + (n - 1) + ",1)", n);
            x.refused("statement(" + n + ",1)=BAD");
            s.fault(text + "v" + (n - 1) + ";", NONE);
            s.fault(text + "v" + n + ";", text.length());
        }
        for (int k = 0; k <= 4; k++) {
            of(s, text.toString(), "s" + k + ",0,0;", false);
        }
        s.talk().writes(text + "v0;" + "s0,0,0;").due("fault()", text.length() + 3).refused("lay()=NO");
        s.talk().writes(text + "v0;").due("lay()=10");
    }

    private void verdicts() {
        Sentence s = says("vA STATEMENT A (told ahead, no NIGHT) can be a VERDICT (no matter if told once more)");
        for (int a = 0; a < 100; a++) {
            of(s, TEN, "v" + a + ";", a < 10 && a % 5 != 4);
            of(s, FOUR, "v" + twoFigures(a) + ";", a < 2);
            of(s, "", "v" + a + ";", false);
            of(s, "s3,0,0;", "v" + a + ";", a == 0);
        }
        s.fault("v0;s0,0,0;", 0);
        s.fault("s0,0,0;v1;s0,0,0;", 7);
        s.fault("s0,0,0;s0,0,0;v1;", NONE);
        s.talk("s0,0,0;v0;v0;v00;").due("count(1)=1 statement(0,3)=1 next()=1 argue(0)=1");
        s.talk("s0,0,0;s4,0,0;v0;r0,1;v0;").due("count(1)=1 chains(0)=1 both(0,0,1)=0");
        s.talk("s0,0,0;s1,0,0;s2,0,0;s3,0,0;s4,0,0;v3;v0;v2;v1;").due("count(1)=4 next()=15 statement(4,3)=0");
    }

    private void hangs() {
        Sentence s = says("rA,B A HANGS ON B (both told ahead, unlike, A no NIGHT; no matter if told once more)");
        int[] numbers = {0, 1, 2, 3, 4, 5, 6, 7, 8, 9, 10, 11, 12, 31, 32, 33, 41, 64, 99};
        for (int a : numbers) {
            for (int b : numbers) {
                of(s, TEN, "r" + a + "," + b + ";", a < 10 && b < 10 && a != b && a % 5 != 4);
                of(s, FOUR, "r" + a + "," + b + ";", a < 2 && b < 4 && a != b);
            }
        }
        s.fault("s0,0,0;r0,1;s0,0,0;", 7);
        s.fault("s0,0,0;r1,0;s0,0,0;", 7);
        s.fault("r0,1;s0,0,0;s0,0,0;", 0);
        s.fault("s0,0,0;s0,0,0;r0,1;r1,0;", NONE);
        s.talk("s0,0,0;s4,0,0;v0;r0,1;").due("statement(0,4)=2 chains(0)=1 next()=1 argue(0)=1 next()=2");
        s.talk("s0,0,0;s4,0,0;v0;r0,1;r0,1;r00,01;").due("statement(0,4)=2 statement(1,4)=0 chains(0)=1 argue(0)=1 next()=2");
        s.talk("s0,0,0;s4,0,0;v0;").due("statement(0,4)=0 chains(0)=0 argue(0)=1 next()=0");
        s.talk(TEN + "v0;r0,1;r0,2;r0,3;r0,4;r0,5;r0,6;r0,7;r0,8;r0,9;r8,0;")
                .due("statement(0,4)=1022 statement(8,4)=1 chains(0)=2");
    }

    private void persons() {
        Sentence s = says("pA,B a PERSON who could have done A, and B (told ahead, both NIGHTS; A and B may be one);");
        int[] numbers = {0, 1, 2, 3, 4, 5, 6, 7, 8, 9, 10, 11, 14, 36, 41, 68, 99};
        for (int a : numbers) {
            for (int b : numbers) {
                of(s, TEN, "p" + a + "," + b + ";", a < 10 && b < 10 && a % 5 == 4 && b % 5 == 4);
            }
        }
        s.fault("s4,0,0;p0,1;s4,0,0;", 7);
        s.fault("s4,0,0;p1,0;s4,0,0;", 7);
        s.fault("s4,0,0;s4,0,0;p1,0;", NONE);
        s.fault("s4,0,0;p0,0;", NONE);
        s.talk("s0,0,0;s4,0,0;s4,0,0;s4,0,0;v0;p1,1;").due("count(2)=1 who(1)=1 who(2)=0 who(3)=0");
        s.talk("s0,0,0;s4,0,0;s4,0,0;s4,0,0;v0;p3,1;").due("count(2)=1 who(1)=1 who(2)=0 who(3)=1");
    }

    private void fivePersons() {
        Sentence s = says("5 at most, 0, 1, ..");
        String text = "s0,0,0;s4,0,0;s4,0,0;v0;";
        for (int n = 1; n <= 5; n++) {
            text += n == 5 ? "p2,2;" : "p1,1;";
            s.fault(text, NONE);
            s.talk(text).due("count(2)", n).due("who(1)", n == 5 ? 15 : (1 << n) - 1).due("who(2)", n == 5 ? 16 : 0);
        }
        s.fault(text + "p1,1;", text.length());
        s.fault(text + "p2,2;", text.length());
        s.talk().writes(text + "p1,1;").refused("lay()=NO");
        s.talk(text).due("count(2)=5");
    }

    private void places() {
        Sentence s = says("FAULT: the place of the first letter of the first ITEM that is not so.");
        s.fault("x", 0);
        s.fault("s0,0,0;x", 7);
        s.fault("s0,0,0;v0;x", 10);
        s.fault("s0,0,0;v1;x;v0;v1;", 7);
        s.fault("s0,0,0;v0;s0,0,21;v1;", 10);
        s.fault("s0,0,0;v0;s0,0,99", 10);
        s.fault("s0,0,0;r0,9;p0,0;v7;", 7);
        s.fault("s0,20,20;s04,00,00;v00;p01,01;r00,00;", 30);
        s.talk().writes("s0,0,0;v0;x").due("fault()=10").refused("lay()=NO").due("fault()=10 write(59)=12 fault()=10")
                .due("wipe()=12 fault()=NONE").asks("fault()").writes("s0,0,0;").asks("fault()").due("fault()=NONE");
    }

    private void laid() {
        Sentence s = says("LAID is a TEXT without FAULT, of a VERDICT at least (NO else; at first "
                + "s0,3,1;s1,2,2;s1,5,1;s2,4,3;s3,1,1;s4,0,0;s4,2,0;s2,3,2;v0;v7;r0,1;r0,2;r1,3;r2,3;r2,6;r3,4;r4,5;"
                + "r3,6;r7,2;r7,4;r1,0;p5,5;p5,6;).");
        String argued = "strike(4) argue(0) argue(1) keep() undo() argue(2) keep()";
        s.talk().does(argued).refused("lay()=NO");
        for (String none : new String[] {"s0,0,0;", "s0,0,0;s4,0,0;r0,1;p1,1;", "s4,0,0;", "v0;", "s4,0,0;v0;",
            "s0,0,0;v0", "s0,0,0;v0;x", "s0,0,0;v0;v1;", "x;s0,0,0;v0;"}) {
            s.talk().does(argued).writes(none).refused("lay()=NO").due("count(0)=8 count(1)=2 count(6)=2 chains(0)=3");
        }
        s.talk().does(argued).writes("s0,0,0;v0;")
                .due("lay()=1 count(0)=1 count(1)=1 count(2)=0 count(3)=0 count(4)=0 count(5)=0 count(6)=0 count(7)=10");
        s.talk("s0,0,0;v0;").due("chains(0)=0 fault()=NONE lay()=1 lay()=1 wipe()=10").refused("lay()=NO").writes("s0,0,0;s4,0,0;r0,1;")
                .due("fault()=NONE").refused("lay()=NO").due("count(0)=1 count(1)=1").writes("v0;").due("lay()=2 chains(0)=1");
    }
}
