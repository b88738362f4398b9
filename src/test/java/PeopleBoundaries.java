import java.util.ArrayList;
import java.util.List;

/** Terms 4: people, when CLUES are to be laid, chances, a CASE, what is KEPT. */
final class PeopleBoundaries {
    private static final int NONE = -4;
    private static final String PART = "Terms 4";
    private static final String NO_NIGHT = "s0,1,1;s0,1,1;s4,0,0;v0;v1;r0,1;r1,0;p2,2;";

    private final BoundaryTests all;

    PeopleBoundaries(BoundaryTests all) {
        this.all = all;
    }

    void run() {
        who();
        fits();
        look();
        laid();
        odds();
        caseOfOneDraw();
        caseOfMany();
        caseInTheEnd();
        kept();
    }

    private Sentence says(String words) {
        return all.sentence(PART, words);
    }

    private void who() {
        Sentence s = says("WHO could have done a NIGHT: PERSONS (bits).");
        s.talk("s0,0,0;s4,0,0;s4,0,0;v0;").due("who(1)=0 who(2)=0").refused("who(0)=BAD who(3)=BAD who(-1)=BAD");
        s.talk("s0,0,0;s4,0,0;s4,0,0;v0;p1,1;").due("who(1)=1 who(2)=0");
        s.talk("s0,0,0;s4,0,0;s4,0,0;v0;p1,2;").due("who(1)=1 who(2)=1");
        s.talk("s0,0,0;s4,0,0;s4,0,0;v0;p1,1;p2,2;p2,1;p1,2;p2,2;").due("who(1)=13 who(2)=30").does("strike(0)").due("who(1)=13");
        s.talk("s4,0,0;s0,0,0;s0,0,0;s0,0,0;s0,0,0;s0,0,0;s0,0,0;s0,0,0;s0,0,0;s4,0,0;v1;p0,0;p9,9;p9,0;").due("who(0)=5 who(9)=6")
                .refused("who(1)=BAD who(8)=BAD who(10)=BAD");
    }

    private void fits() {
        Sentence s = says("FITS: PERSONS who could have done any of the NIGHTS of a VERDICT.");
        s.talk("s0,0,0;v0;").due("fits(0)=0");
        s.talk(NO_NIGHT).due("fits(0)=0 fits(1)=0").refused("fits(2)=BAD");
        s.talk("s0,0,0;s4,0,0;v0;r0,1;").due("fits(0)=0");
        s.talk("s0,0,0;s4,0,0;v0;r0,1;p1,1;").due("fits(0)=1").does("strike(1)").due("fits(0)=0").does("strike(1) strike(0)").due("fits(0)=0");
        s.talk("s0,0,0;s4,0,0;s4,0,0;s4,0,0;v0;r0,1;r0,2;p1,1;p2,2;p3,3;p1,2;p3,2;").due("fits(0)=27").does("strike(2)").due("fits(0)=9")
                .does("strike(2) strike(1)").due("fits(0)=26").does("strike(2)").due("fits(0)=0");
        s.talk("s0,0,0;s4,0,0;v0;r0,1;p1,1;p1,1;p1,1;p1,1;p1,1;").due("fits(0)=31");
        s.talk("s4,0,0;s0,0,0;s4,0,0;v1;r1,0;r1,2;p0,0;p2,2;").due("fits(1)=3").does("strike(2)").due("fits(1)=1").does("strike(0)").due("fits(1)=0");
    }

    private void look() {
        Sentence s = says("LOOK for a VERDICT: the NIGHT of it that most PERSONS could have done, of several the lowest: it; how many; none.");
        s.talk("s0,0,0;v0;").due("look(0,0)=NONE look(0,1)=NONE");
        s.talk(NO_NIGHT).due("look(0,0)=NONE look(0,1)=NONE");
        s.talk("s0,0,0;s4,0,0;s4,0,0;v0;r0,2;r0,1;").due("look(0,0)=1 look(0,1)=0").does("strike(1)").due("look(0,0)=2 look(0,1)=0")
                .does("strike(2)").due("look(0,0)=NONE look(0,1)=NONE");
        String three = "s0,0,0;s4,0,0;s4,0,0;s4,0,0;v0;r0,1;r0,2;";
        s.talk(three + "p2,2;").due("look(0,0)=2 look(0,1)=1");
        s.talk(three + "p2,2;p1,1;").due("look(0,0)=1 look(0,1)=1");
        s.talk(three + "p1,2;p2,2;").due("look(0,0)=2 look(0,1)=2").does("strike(2)").due("look(0,0)=1 look(0,1)=1");
        s.talk(three + "p3,3;p3,3;p2,3;").due("look(0,0)=2 look(0,1)=1").does("strike(0)").due("look(0,0)=NONE");
        s.talk(three + "r0,3;p3,3;p3,3;p3,3;p3,3;p3,3;").due("look(0,0)=3 look(0,1)=5");
        s.talk("s4,0,0;s0,0,0;v1;r1,0;p0,0;").due("look(1,0)=0 look(1,1)=1");
    }

    private void laid() {
        Sentence s = says("LAID: were all CLUES of a CHAIN to be laid ahead of the day of the VERDICT: of the SHORTEST WHOLE one of a VERDICT, "
                + "how many days ahead of it the k-th STATEMENT has to begin, each being over as the one ahead of it begins, the VERDICT's own days, too.");
        s.talk("s0,0,5;v0;").due("laid(0,0)=NONE laid(0,1)=NONE").refused("laid(0,-1)=BAD");
        s.talk(NO_NIGHT).due("laid(0,0)=NONE laid(1,0)=NONE laid(0,9)=NONE");
        s.talk("s0,0,0;s4,0,0;v0;r0,1;").due("laid(0,0)=0 laid(0,1)=0 laid(0,2)=NONE").refused("laid(0,-1)=BAD");
        s.talk("s0,0,3;s4,0,0;v0;r0,1;").due("laid(0,0)=3 laid(0,1)=3");
        s.talk("s0,0,0;s4,0,4;v0;r0,1;").due("laid(0,0)=0 laid(0,1)=4");
        s.talk("s3,0,1;s2,0,2;s1,0,4;s4,0,8;v0;r0,1;r1,2;r2,3;").due("laid(0,0)=1 laid(0,1)=3 laid(0,2)=7 laid(0,3)=15 laid(0,4)=NONE");
        Talk ten = s.talk("s0,0,20;s1,0,20;s2,0,20;s3,0,20;s0,0,20;s1,0,20;s2,0,20;s3,0,20;s0,0,20;s4,0,20;v0;r0,1;r1,2;r2,3;r3,4;r4,5;r5,6;r6,7;r7,8;r8,9;");
        for (int k = 0; k < 10; k++) {
            ten.due("laid(0," + k + ")", 20 * k + 20);
        }
        ten.due("laid(0,10)=NONE laid(0,2147483647)=NONE").refused("laid(0,-1)=BAD laid(0,-2)=BAD").does("strike(5)").due("laid(0,0)=NONE");
        String two = "s0,1,3;s0,1,20;s0,#,0;s4,0,7;v0;r0,1;r1,3;r0,2;r2,3;";
        s.talk(two.replace("#", "1")).due("laid(0,1)=23 laid(0,2)=30");
        s.talk(two.replace("#", "0")).due("laid(0,1)=3 laid(0,2)=10").does("strike(2)").due("laid(0,1)=23");
    }

    private void odds() {
        Sentence s = says("ODDS: each PERSON is there by the chance of x (0 to 10) of ten: how likely somebody is there who FITS a VERDICT, in lowest terms.");
        s.talk("s0,0,0;v0;").due("odds(0,0,0)=0 odds(0,0,1)=1 odds(0,5,0)=0 odds(0,5,1)=1 odds(0,10,0)=0 odds(0,10,1)=1");
        s.talk(NO_NIGHT).due("odds(0,10,0)=0 odds(0,10,1)=1");
        StringBuilder text = new StringBuilder("s0,0,0;s4,0,0;s4,0,0;v0;r0,1;");
        for (int n = 0; n <= 5; n++) {
            Talk x = s.talk(text.toString());
            for (int chance = 0; chance <= 10; chance++) {
                long below = 1;
                long nobody = 1;
                for (int p = 0; p < n; p++) {
                    below *= 10;
                    nobody *= 10 - chance;
                }
                long above = below - nobody;
                long most = 1;
                for (long d = 1; d <= below; d++) {
                    most = below % d == 0 && above % d == 0 ? d : most;
                }
                x.due("odds(0," + chance + ",0)", (int) (above / most)).due("odds(0," + chance + ",1)", (int) (below / most));
            }
            x.refused("odds(0,-1,0)=BAD odds(0,11,0)=BAD odds(0,-1,1)=BAD odds(0,11,1)=BAD");
            text.append(n % 2 == 0 ? "p1,1;" : "p1,2;");
        }
        s.talk("s0,0,0;s4,0,0;s4,0,0;v0;r0,1;p2,2;p1,1;p2,2;").due("odds(0,3,0)=3 odds(0,3,1)=10 odds(0,10,0)=1 odds(0,10,1)=1 odds(0,0,0)=0 odds(0,0,1)=1")
                .does("strike(1)").due("odds(0,3,0)=0 odds(0,3,1)=1").does("strike(1) strike(0)").due("odds(0,10,0)=0 odds(0,10,1)=1");
        s.talk("s0,0,0;s4,0,0;v0;r0,1;p1,1;p1,1;p1,1;p1,1;p1,1;").due("odds(0,1,0)=40951 odds(0,1,1)=100000 odds(0,9,0)=99999 odds(0,9,1)=100000");
    }

    private static int draw(int z, int statements) {
        long q = 7919L * z + 6151L * statements + 1;
        long rest = q % 65521;
        return (int) (rest * rest % 65521 / 4);
    }

    private void caseOfOneDraw() {
        Sentence s = says("next comes always, of those n that can, the (DRAW modulo n)-th (0 the lowest), DRAW being ((q times q) modulo 65521) by 4, cut, "
                + "q 7919 z, 6151 (how many STATEMENTS there are) and 1 together:");
        // q = 6152 for z = 0: 37847104 is 577 times 65521 and 41487; by 4, cut: 10371.
        s.due("the draw by 0", draw(0, 1), 6152L * 6152L % 65521L / 4L);
        int[] zs = {0, 1, 2, 3, 7, 8, 9, 100, 255, 256, 4095, 5000, 8191, 8192, 9997, 9998, 9999};
        for (int n = 1; n <= 9; n++) {
            StringBuilder text = new StringBuilder("s0,0,0;").append("s4,0,0;".repeat(9)).append("v0;");
            for (int b = n; b >= 1; b--) {
                text.append("r0,").append(b).append(';');
            }
            Talk x = s.talk(text.toString());
            for (int z : zs) {
                x.due("trialBy(" + z + ",0,1)", 1 + draw(z, 1) % n).due("trialBy(" + z + ",0,0)=2");
            }
            x.does("strike(1)");
            for (int z : zs) {
                x.due("trialBy(" + z + ",0,1)", n == 1 ? NONE : 2 + draw(z, 1) % (n - 1));
            }
        }
    }

    /** Nine SPEECHES, each HANGS ON some of the others, and a NIGHT on which the last of them HANGS. */
    private void caseOfMany() {
        Sentence s = says("A CASE by z (0 to 9999) from a VERDICT:");
        int[][] hangs = {{1, 2, 3}, {0, 2, 4}, {1, 3, 5}, {4, 6}, {2, 5, 7}, {6, 8}, {1, 7, 8}, {3, 8}, {5, 9}, {}};
        StringBuilder text = new StringBuilder("s0,0,0;".repeat(9)).append("s4,0,0;v0;");
        for (int a = 0; a < 10; a++) {
            for (int b : hangs[a]) {
                text.append('r').append(a).append(',').append(b).append(';');
            }
        }
        for (int from = 0; from < 10000; from += 101) {
            Talk x = s.talk(text.toString());
            for (int z = from; z < Math.min(from + 101, 10000) && x.calls() < 500; z += 2) {
                List<Integer> chain = caseOf(hangs, z);
                int last = chain.get(chain.size() - 1);
                x.due("trialBy(" + z + ",0,0)", chain.size()).due("trialBy(" + z + ",0,1)", last == 9 ? 9 : NONE);
            }
        }
        s.talk(text.toString()).refused("trialBy(-1,0,0)=BAD trialBy(10000,0,0)=BAD trialBy(-1,0,1)=BAD trialBy(10000,0,1)=BAD")
                .due("trialBy(0,0,0)", caseOf(hangs, 0).size()).due("trialBy(9999,0,0)", caseOf(hangs, 9999).size()).due("count(3)=0 count(5)=0");
    }

    private static List<Integer> caseOf(int[][] hangs, int z) {
        List<Integer> chain = new ArrayList<>(List.of(0));
        while (true) {
            List<Integer> can = new ArrayList<>();
            for (int b : hangs[chain.get(chain.size() - 1)]) {
                if (!chain.contains(b)) {
                    can.add(b);
                }
            }
            if (can.isEmpty()) {
                return chain;
            }
            chain.add(can.get(draw(z, chain.size()) % can.size()));
        }
    }

    private void caseInTheEnd() {
        Sentence s = says("how many STATEMENTS it has in the end (1, the VERDICT alone, if that is STRUCK OUT); what it ENDS with (NONE: STUCK).");
        String ten = TrialBoundaries.tenInARow();
        Talk x = s.talk(ten).due("trialBy(0,0,0)=10 trialBy(0,0,1)=9 trialBy(9999,0,0)=10 trialBy(9999,0,1)=9");
        for (int a = 9; a >= 1; a--) {
            x.does("strike(" + a + ")").due("trialBy(5,0,0)", a).due("trialBy(5,0,1)=NONE");
        }
        x.does("strike(0)").due("trialBy(5,0,0)=1 trialBy(5,0,1)=NONE");
        s.talk(ten).does("strike(0)").due("trialBy(0,0,0)=1 trialBy(0,0,1)=NONE trialBy(9999,0,0)=1").does("strike(0)").due("trialBy(0,0,0)=10");
        s.talk("s0,0,0;v0;").due("trialBy(0,0,0)=1 trialBy(0,0,1)=NONE");
        s.talk("s4,0,0;s0,0,0;v1;r1,0;").due("trialBy(0,1,0)=2 trialBy(0,1,1)=0").does("strike(1)").due("trialBy(0,1,0)=1 trialBy(0,1,1)=NONE");
        s.talk("s0,0,0;s0,0,0;v0;v1;r0,1;r1,0;").due("trialBy(3,0,0)=2 trialBy(3,0,1)=NONE trialBy(3,1,0)=2").does("strike(1)")
                .due("trialBy(3,0,0)=1 trialBy(3,1,0)=1");
        s.talk(ten).does("argue(0) argue(1)").due("trialBy(0,0,0)=10 count(3)=2 count(5)=2");
    }

    private void kept() {
        Sentence s = says("KEPT are the TRIAL, what is STRUCK OUT: 2 at most.");
        s.talk().due("keep()=1 keep()=2").refused("keep()=FULL").due("count(6)=2 back()=1 keep()=2").refused("keep()=FULL");
        Talk x = s.talk().does("strike(4) argue(0) argue(1) keep() drop() strike(4) strike(0) argue(7) keep() drop() strike(1)");
        x.refused("keep()=FULL").due("back()=1 count(3)=1 argued(0)=7 count(4)=1 statement(0,5)=1 statement(1,5)=0 statement(4,5)=0");
        x.due("keep()=2 argue(2)=2 back()=1 count(3)=1 back()=0 count(3)=2 argued(0)=0 argued(1)=1 count(4)=1 statement(4,5)=1").refused("back()=NO");
        Talk ten = s.talk(TrialBoundaries.tenInARow()).does("argue(0) argue(1) argue(2) argue(3) argue(4) argue(5) argue(6) argue(7) argue(8) argue(9)");
        ten.does("keep() drop() strike(0) strike(1) strike(2) strike(3) strike(4) strike(5) strike(6) strike(7) strike(8) strike(9) keep() undo()");
        ten.due("back()=1 count(4)=10 count(3)=0 back()=0 count(4)=0 count(3)=10 argued(9)=9 trial(1)=1");
    }
}
