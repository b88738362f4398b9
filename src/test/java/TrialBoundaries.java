/** Terms 2: what STRUCK OUT, a CHAIN, its COST, a TRIAL and UNDONE are. */
final class TrialBoundaries {
    private static final String PART = "Terms 2";

    private final BoundaryTests all;

    TrialBoundaries(BoundaryTests all) {
        this.all = all;
    }

    void run() {
        struckOut();
        chain();
        cost();
        costBehindOthers();
        costAtMost();
        trial();
        endedOrStuck();
        letIn();
        undone();
        undoneOfEach();
    }

    private Sentence says(String words) {
        return all.sentence(PART, words);
    }

    /** STATEMENTS by KIND and cost, each HANGS ON the next, the first is the VERDICT. */
    static String row(int... kindsAndCosts) {
        StringBuilder text = new StringBuilder();
        int n = kindsAndCosts.length / 2;
        for (int a = 0; a < n; a++) {
            text.append('s').append(kindsAndCosts[2 * a]).append(',').append(kindsAndCosts[2 * a + 1]).append(",2;");
        }
        text.append("v0;");
        for (int a = 0; a + 1 < n; a++) {
            text.append('r').append(a).append(',').append(a + 1).append(';');
        }
        return text.toString();
    }

    static String tenInARow() {
        return row(0, 1, 0, 1, 0, 1, 0, 1, 0, 1, 0, 1, 0, 1, 0, 1, 0, 1, 4, 1) + "p9,9;";
    }

    private void struckOut() {
        Sentence s = says("STRUCK OUT is a STATEMENT that is not used.");
        String two = "s0,1,1;s0,2,2;s4,0,0;s4,0,0;v0;v1;r0,1;r0,2;r1,3;p2,2;p3,3;p3,3;";
        String asTold = "chains(0)=2 chains(1)=1 shortest(0,-2)=1 nights(0)=12 needed(0)=1 forgotten()=0 both(0,1,0)=3 both(0,1,1)=5 "
                + "byTurns(0,1)=1 days(0)=1 fits(0)=7 look(0,0)=3 laid(0,1)=1 odds(0,5,0)=7 odds(0,5,1)=8 next()=3";
        Talk x = s.talk(two).due(asTold);
        x.does("strike(2)").due("chains(0)=1 shortest(0,-2)=3 nights(0)=8 needed(0)=11 forgotten()=0 both(0,1,0)=3 both(0,1,1)=5 "
                + "byTurns(0,1)=1 days(0)=3 fits(0)=6 look(0,0)=3 laid(0,1)=3 odds(0,5,0)=3 odds(0,5,1)=4 next()=3");
        x.does("strike(2)").due(asTold);
        x.does("strike(1)").due("chains(0)=1 chains(1)=0 shortest(0,-2)=1 shortest(1,-2)=NONE shortest(1,0)=NONE nights(0)=4 nights(1)=0 "
                + "needed(0)=5 needed(1)=0 forgotten()=8 both(0,1,0)=NONE both(0,1,1)=NONE byTurns(0,1)=2 byTurns(1,0)=0 byTurns(1,1)=NONE "
                + "days(0)=1 days(1)=NONE fits(0)=1 fits(1)=0 look(0,0)=2 look(1,0)=NONE look(1,1)=NONE laid(1,0)=NONE "
                + "odds(1,5,0)=0 odds(1,5,1)=1 trialBy(0,1,0)=1 trialBy(0,1,1)=NONE next()=1");
        x.does("strike(1)").due(asTold);
        x.does("strike(3)").due("chains(0)=1 chains(1)=0 nights(0)=4 needed(0)=5 forgotten()=2 both(0,1,0)=NONE byTurns(0,1)=2 byTurns(1,0)=0 "
                + "fits(0)=1 look(0,0)=2 trialBy(0,1,0)=1 trialBy(0,1,1)=NONE next()=3 argue(0)=1 argue(1)=2 next()=0 trial(2)=1")
                .refused("argue(3)=NO");
        x.does("drop() strike(3)").due(asTold);
        x.does("strike(0) strike(1)").due("forgotten()=12 next()=0 chains(0)=0 chains(1)=0 trialBy(7,0,0)=1").refused("argue(0)=NO argue(1)=NO");
    }

    private void chain() {
        Sentence s = says("A CHAIN begins with a VERDICT; behind each STATEMENT but a NIGHT comes one on which it HANGS, none twice, "
                + "none STRUCK OUT (nor the VERDICT); it is WHOLE if it ends with a NIGHT.");
        s.talk("s0,0,0;v0;").due("chains(0)=0 needed(0)=0 nights(0)=0 forgotten()=1");
        s.talk("s0,0,0;s4,0,0;v0;").due("chains(0)=0 nights(0)=0 forgotten()=3");
        s.talk("s0,0,0;s4,0,0;v0;r0,1;").due("chains(0)=1 shortest(0,-1)=2 nights(0)=2 needed(0)=3");
        s.talk("s0,0,0;s0,0,0;v0;r0,1;").due("chains(0)=0 nights(0)=0");
        s.talk(tenInARow()).due("chains(0)=1 shortest(0,-1)=10 nights(0)=512 needed(0)=1023");
        Talk x = s.talk("s0,0,0;s0,0,0;s4,0,0;v0;v1;r0,1;r0,2;r1,0;r1,2;").due("chains(0)=2 chains(1)=2 needed(0)=5 needed(1)=6");
        x.refused("chains(2)=BAD").does("argue(0) argue(1)").due("next()=4").refused("argue(0)=NO argue(1)=NO").does("argue(2)").due("next()=0");
        x.does("drop() strike(0)").due("chains(0)=0 chains(1)=1").does("strike(0) strike(1)").due("chains(0)=1 chains(1)=0");
        x.does("strike(1) strike(2)").due("chains(0)=0 chains(1)=0");
        s.talk("s0,0,0;s0,0,0;s0,0,0;v0;r0,1;r1,2;r2,1;r2,0;r1,0;").due("chains(0)=0 forgotten()=7");
        s.talk("s0,0,0;s0,0,0;s0,0,0;s4,0,0;v0;r0,1;r1,2;r2,1;r1,3;r2,3;r0,2;").due("chains(0)=4 needed(0)=9");
        s.talk("s0,0,0;s4,0,0;s4,0,0;v0;r0,1;r0,2;").due("chains(0)=2 nights(0)=6 needed(0)=1");
        s.talk("s4,0,0;s0,0,0;v1;r1,0;").due("chains(1)=1 shortest(1,0)=1 shortest(1,1)=0 shortest(1,2)=NONE");
    }

    /** The COST of the whole row, argued and as the SHORTEST. */
    private static void costs(Sentence s, int want, int... kindsAndCosts) {
        Talk x = s.talk(row(kindsAndCosts)).due("shortest(0,-2)", want);
        for (int a = 0; a < kindsAndCosts.length / 2; a++) {
            x.does("argue(" + a + ")");
        }
        x.due("trial(0)", want).due("trial(1)=1");
    }

    private Sentence cost() {
        Sentence s = says("Its COST by KIND: a SPEECH as told; a WITNESS as told, and 2 more, if the one ahead of it in the CHAIN is a WITNESS, "
                + "too; a CLUE twice as told; an ARREST as told, and as much as it is far from the VERDICT (the VERDICT: 0); a NIGHT as told.");
        int[][] first = {{0, 0, 0}, {0, 1, 1}, {0, 20, 20}, {1, 0, 0}, {1, 1, 1}, {1, 20, 20}, {2, 0, 0}, {2, 1, 2}, {2, 20, 40},
            {3, 0, 0}, {3, 1, 1}, {3, 20, 20}};
        for (int[] f : first) {
            costs(s, f[2], f[0], f[1], 4, 0);
            costs(s, f[2] + 20, f[0], f[1], 4, 20);
            s.talk(row(f[0], f[1])).due("trial(0)=0 argue(0)=1").due("trial(0)", f[2]).due("shortest(0,-2)=NONE");
        }
        int[] atTwenty = {20, 20, 40, 21};
        for (int k = 0; k <= 3; k++) {
            costs(s, atTwenty[k], 0, 0, k, 20, 4, 0);
            costs(s, k == 3 ? 1 : 0, 0, 0, k, 0, 4, 0);
            costs(s, atTwenty[k] + (k == 1 ? 2 : 0), 1, 0, k, 20, 4, 0);
            costs(s, k == 1 ? 2 : k == 3 ? 1 : 0, 1, 0, k, 0, 4, 0);
            costs(s, k == 3 ? 1 : 0, 2, 0, k, 0, 4, 0);
            costs(s, k == 3 ? 1 : 0, 3, 0, k, 0, 4, 0);
        }
        return s;
    }

    private void costBehindOthers() {
        Sentence s = says("a WITNESS as told, and 2 more, if the one ahead of it in the CHAIN is a WITNESS, too;");
        costs(s, 0, 1, 0, 4, 0);
        costs(s, 2, 1, 0, 1, 0, 4, 0);
        costs(s, 4, 1, 0, 1, 0, 1, 0, 4, 0);
        costs(s, 2, 0, 0, 1, 0, 1, 0, 4, 0);
        costs(s, 0, 1, 0, 0, 0, 1, 0, 4, 0);
        costs(s, 0, 1, 0, 2, 0, 1, 0, 4, 0);
        costs(s, 1, 1, 0, 3, 0, 1, 0, 4, 0);
        costs(s, 4, 1, 0, 1, 0, 2, 0, 1, 0, 1, 0, 4, 0);
        costs(s, 47, 1, 3, 1, 20, 1, 20, 4, 0);
        s.talk("s1,0,0;s1,0,0;s0,1,0;s4,0,0;v0;r0,1;r0,2;r1,3;r2,3;").due("shortest(0,-2)=1 shortest(0,1)=2");
        s.talk("s0,0,0;s1,0,0;s0,1,0;s4,0,0;v0;r0,1;r0,2;r1,3;r2,3;").due("shortest(0,-2)=0 shortest(0,1)=1");
    }

    private void costAtMost() {
        Sentence s = says("an ARREST as told, and as much as it is far from the VERDICT (the VERDICT: 0);");
        for (int far = 0; far <= 8; far++) {
            int[] arrests = new int[2 * far + 4];
            int[] speeches = new int[2 * far + 4];
            for (int a = 0; a <= far; a++) {
                arrests[2 * a] = 3;
            }
            speeches[2 * far] = 3;
            speeches[2 * far + 1] = 20;
            arrests[2 * far + 2] = 4;
            speeches[2 * far + 2] = 4;
            costs(s, far * (far + 1) / 2, arrests);
            costs(s, 20 + far, speeches);
        }
        int[] most = {20 * 10, 20 * 10 + 8 * 2, 40 * 9 + 20, 20 * 10 + 36};
        for (int k = 0; k <= 3; k++) {
            costs(s, most[k], k, 20, k, 20, k, 20, k, 20, k, 20, k, 20, k, 20, k, 20, k, 20, 4, 20);
        }
        s.talk("s0,0,0;s3,0,0;s0,0,0;s3,0,0;s4,0,0;v0;r0,2;r2,1;r1,4;r0,3;r3,4;").due("shortest(0,-2)=1 shortest(0,1)=3");
    }

    private void trial() {
        Sentence s = says("A TRIAL is such a row, argued: its first is a VERDICT; then one by one what comes next.");
        s.talk().refused("argue(1)=NO argue(2)=NO argue(3)=NO argue(4)=NO argue(5)=NO argue(6)=NO")
                .due("count(3)=0 argue(0)=1 argued(0)=0 count(3)=1");
        s.talk().due("argue(7)=1 argued(0)=7").refused("argue(7)=NO argue(0)=NO argue(1)=NO argue(3)=NO argue(5)=NO argue(6)=NO")
                .due("argue(4)=2 argued(1)=4 argue(5)=3 argued(2)=5 argued(0)=7");
        s.talk().does("strike(7)").refused("argue(7)=NO").due("argue(0)=1");
        s.talk().does("argue(0)").refused("argue(3)=NO argue(6)=NO").does("argue(2)").refused("argue(1)=NO argue(0)=NO argue(2)=NO")
                .due("argue(3)=3").refused("argue(5)=NO");
        Talk ten = s.talk(tenInARow());
        for (int a = 0; a < 10; a++) {
            ten.due("argue(" + a + ")", a + 1).refused("argue(0)=NO argue(10)=BAD");
        }
        for (int a = 0; a < 10; a++) {
            ten.refused("argue(" + a + ")=NO");
        }
    }

    private void endedOrStuck() {
        Sentence s = says("It is ENDED with a NIGHT, STUCK if it is not ENDED and nothing can come next.");
        s.talk().due("trial(1)=0 trial(2)=0 argue(0)=1 trial(1)=0 trial(2)=0 argue(2)=2 trial(1)=0 trial(2)=0 argue(6)=3 trial(1)=1 trial(2)=0 next()=0")
                .due("undo()=2 trial(1)=0 trial(2)=0");
        s.talk().does("strike(0) strike(7)").due("next()=0 trial(1)=0 trial(2)=0");
        s.talk("s0,0,0;v0;").due("trial(2)=0 argue(0)=1 trial(1)=0 trial(2)=1 next()=0 drop()=1 trial(2)=0");
        s.talk("s0,0,0;s0,0,0;s4,0,0;v0;r0,1;r0,2;").does("argue(0) argue(1)").due("trial(1)=0 trial(2)=1 undo()=1 trial(2)=0")
                .does("strike(1)").due("trial(2)=0").does("strike(2)").due("trial(2)=1 next()=0 trial(1)=0").does("strike(1)").due("trial(2)=0 next()=2");
        s.talk("s0,0,0;s0,0,0;v0;r0,1;r1,0;").does("argue(0)").due("trial(2)=0").does("argue(1)").due("trial(2)=1 trial(1)=0 next()=0");
        s.talk("s0,0,0;s4,0,0;v0;r0,1;").does("argue(0) argue(1)").due("trial(1)=1 trial(2)=0").refused("strike(1)=NO argue(1)=NO");
    }

    private void letIn() {
        Sentence s = says("A STATEMENT can be STRUCK OUT, or let in again (not one of the TRIAL);");
        Talk x = s.talk();
        for (int a = 0; a < 8; a++) {
            x.due("strike(" + a + ")", 1).due("count(4)", a + 1);
        }
        x.due("next()=0 count(4)=8");
        for (int a = 7; a >= 0; a--) {
            x.due("strike(" + a + ")", 0).due("count(4)", a);
        }
        x.does("argue(0) argue(2) argue(3)").refused("strike(0)=NO strike(2)=NO strike(3)=NO");
        x.due("strike(1)=1 strike(4)=1 strike(5)=1 strike(6)=1 strike(7)=1 count(4)=5").refused("strike(0)=NO strike(2)=NO strike(3)=NO");
        x.due("strike(1)=0").does("undo() undo() undo()").due("strike(6)=1").refused("strike(3)=NO").due("drop()=3 strike(0)=1 strike(3)=1");
        Talk ten = s.talk(tenInARow()).does("argue(0)").refused("strike(0)=NO").due("strike(9)=1 strike(9)=0").refused("strike(10)=BAD");
        ten.does("argue(1) argue(2) argue(3) argue(4) argue(5) argue(6) argue(7) argue(8) argue(9)");
        for (int a = 0; a < 10; a++) {
            ten.refused("strike(" + a + ")=NO");
        }
        ten.does("undo()").refused("strike(8)=NO").due("strike(9)=1 drop()=9");
        for (int a = 0; a < 9; a++) {
            ten.due("strike(" + a + ")", 1);
        }
        ten.due("count(4)=10 forgotten()=0 next()=0");
        s = says("a TRIAL be dropped (also where there is none).");
        s.talk().due("drop()=0 count(3)=0 count(5)=1 drop()=0 count(5)=2 undo()=1 undo()=0").refused("undo()=NO");
        s.talk().does("argue(0)").due("drop()=1 count(3)=0 next()=129 undo()=1 count(3)=1 argued(0)=0");
        ten = s.talk(tenInARow()).does("argue(0) argue(1) argue(2) argue(3) argue(4) argue(5) argue(6) argue(7) argue(8) argue(9)");
        ten.due("drop()=10 count(3)=0 drop()=0 undo()=7 count(3)=0 undo()=6 count(3)=10 argued(9)=9 trial(1)=1");
    }

    private void undone() {
        Sentence s = says("UNDONE is the latest of these, of what was argued (the last 8 can be).");
        for (int n = 0; n <= 26; n++) {
            Talk x = s.talk();
            int[] struck = new int[n + 1];
            for (int i = 0; i < n; i++) {
                int a = (i * 3 + i / 8) % 8;
                struck[i + 1] = struck[i] ^ 1 << a;
                x.does("strike(" + a + ")").due("count(5)", Math.min(i + 1, 8));
            }
            int can = Math.min(n, 8);
            for (int left = can - 1; left >= 0; left--) {
                x.due("undo()", left).due("count(5)", left).due("count(4)", Integer.bitCount(struck[n - can + left]));
            }
            for (int a = 0; a < 8; a++) {
                x.due("statement(" + a + ",5)", struck[n - can] >> a & 1);
            }
            x.refused("undo()=NO");
        }
        Talk x = s.talk();
        x.does("strike(1) strike(2) strike(3) strike(4) strike(5) strike(6) strike(1) strike(2)").due("count(5)=8 undo()=7 undo()=6 undo()=5 count(4)=5");
        x.does("strike(7) drop() argue(0)").due("count(5)=8 count(4)=6").does("strike(1)").due("count(5)=8");
        x.due("undo()=7 count(4)=6 undo()=6 count(3)=0 undo()=5 undo()=4 count(4)=5 statement(7,5)=0 undo()=3 undo()=2 undo()=1 undo()=0 count(4)=1 statement(1,5)=1");
        x.refused("undo()=NO");
    }

    private void undoneOfEach() {
        Sentence s = says("UNDONE is the latest of these, of what was argued");
        Talk ten = s.talk(tenInARow());
        for (int a = 0; a < 10; a++) {
            ten.does("argue(" + a + ")").due("count(5)", Math.min(a + 1, 8));
        }
        for (int left = 7; left >= 0; left--) {
            ten.due("undo()", left).due("count(3)", left + 2).due("argued(" + (left + 1) + ")", left + 1)
                    .refused("argued(" + (left + 2) + ")=BAD");
        }
        ten.refused("undo()=NO").due("count(3)=2 argue(2)=3 count(5)=1 undo()=0 count(3)=2");
        s.talk().does("argue(0) argue(1) drop() argue(7)").due("undo()=3 count(3)=0 undo()=2 count(3)=2 argued(0)=0 argued(1)=1 argue(3)=3 count(5)=3 undo()=2 undo()=1 undo()=0")
                .refused("undo()=NO");
        s.talk().does("strike(2) strike(2)").due("undo()=1 statement(2,5)=1 undo()=0 statement(2,5)=0").refused("undo()=NO");
        s.talk().does("write(118) keep() fault() wipe() next() forgotten()").due("count(5)=0").refused("undo()=NO");
        s.talk().refused("argue(1)=NO argue(8)=BAD strike(8)=BAD back()=NO lay()=NO undo()=NO").due("count(5)=0");
    }
}
