/** Terms 3: what is asked of the WHOLE CHAINS of a VERDICT, and TURNS. */
final class ChainBoundaries {
    private static final String PART = "Terms 3";
    private static final String NO_NIGHT = "s0,1,1;s0,1,1;s4,0,0;v0;v1;r0,1;r1,0;p2,2;";
    private static final String NOTHING = "s0,1,1;v0;";

    private final BoundaryTests all;

    ChainBoundaries(BoundaryTests all) {
        this.all = all;
    }

    void run() {
        chains();
        shortest();
        shortestOfSeveral();
        nights();
        needed();
        forgotten();
        both();
        turns();
        turnsOfMany();
        days();
    }

    private Sentence says(String words) {
        return all.sentence(PART, words);
    }

    private void chains() {
        Sentence s = says("Of a VERDICT: CHAINS: how many are WHOLE.");
        s.talk(NOTHING).due("chains(0)=0");
        s.talk(NO_NIGHT).due("chains(0)=0 chains(1)=0").refused("chains(2)=BAD chains(3)=BAD chains(-1)=BAD");
        s.talk("s0,0,0;s4,0,0;v0;r0,1;").due("chains(0)=1").does("strike(1)").due("chains(0)=0");
        s.talk("s0,0,0;s4,0,0;s4,0,0;v0;r0,1;r0,2;").due("chains(0)=2").does("strike(1)").due("chains(0)=1");
        s.talk("s0,0,0;s0,0,0;s0,0,0;s0,0,0;s0,0,0;s0,0,0;s0,0,0;s4,0,0;s4,0,0;s4,0,0;v0;r0,1;r0,2;r0,3;"
                + "r1,4;r1,5;r1,6;r2,4;r2,5;r2,6;r3,4;r3,5;r3,6;r4,7;r4,8;r4,9;r5,7;r5,8;r5,9;r6,7;r6,8;r6,9;")
                .due("chains(0)=27 needed(0)=1 nights(0)=896").does("strike(6)").due("chains(0)=18").does("strike(9)").due("chains(0)=12")
                .does("strike(1) strike(2)").due("chains(0)=4 needed(0)=9");
        String four = "s0,0,0;s0,0,0;s0,0,0;s0,0,0;s0,0,0;s4,0,0;v0;r0,1;r0,2;r0,3;r0,4;r1,2;r1,3;r1,4;r2,1;r2,3;r2,4;"
                + "r3,1;r3,2;r3,4;r4,1;r4,2;r4,3;r1,5;r2,5;r3,5;r4,5;";
        s.talk(four).due("chains(0)=64").does("strike(4)").due("chains(0)=15").does("strike(3)").due("chains(0)=4")
                .does("strike(2)").due("chains(0)=1").does("strike(1)").due("chains(0)=0");
    }

    private void shortest() {
        Sentence s = says("SHORTEST: the WHOLE one that costs least, of several that of fewest STATEMENTS, of several the first (by the second "
                + "STATEMENT, the lowest, then the third, ..): what it costs; how many STATEMENTS; the k-th; none.");
        for (String none : new String[] {NOTHING, NO_NIGHT}) {
            s.talk(none).due("shortest(0,-2)=NONE shortest(0,-1)=NONE shortest(0,0)=NONE shortest(0,9)=NONE");
        }
        s.talk("s0,0,0;s4,0,0;v0;r0,1;").due("shortest(0,-2)=0 shortest(0,-1)=2 shortest(0,0)=0 shortest(0,1)=1 shortest(0,2)=NONE");
        s.talk(TrialBoundaries.tenInARow()).due("shortest(0,-2)=10 shortest(0,-1)=10 shortest(0,0)=0 shortest(0,8)=8 shortest(0,9)=9 shortest(0,10)=NONE");
        String cost = "s0,1,0;s0,1,0;s0,1,0;s0,#,0;s4,0,0;v0;r0,1;r1,2;r2,4;r0,3;r3,4;";
        s.talk(cost.replace("#", "3")).due("shortest(0,-2)=3 shortest(0,-1)=4 shortest(0,1)=1");
        s.talk(cost.replace("#", "2")).due("shortest(0,-2)=3 shortest(0,-1)=3 shortest(0,1)=3");
        s.talk(cost.replace("#", "1")).due("shortest(0,-2)=2 shortest(0,-1)=3 shortest(0,1)=3");
        String other = "s0,1,0;s0,#,0;s0,1,0;s0,1,0;s4,0,0;v0;r0,1;r1,4;r0,2;r2,3;r3,4;";
        s.talk(other.replace("#", "3")).due("shortest(0,-2)=3 shortest(0,-1)=4 shortest(0,1)=2");
        s.talk(other.replace("#", "2")).due("shortest(0,-2)=3 shortest(0,-1)=3 shortest(0,1)=1");
    }

    private void shortestOfSeveral() {
        Sentence s = says("of several the first (by the second STATEMENT, the lowest, then the third, ..)");
        String six = "s0,0,0;s0,0,0;s0,0,0;s0,0,0;s0,0,0;s4,0,0;s4,0,0;v0;";
        s.talk(six + "r0,1;r0,2;r1,5;r2,5;").due("shortest(0,1)=1");
        s.talk(six + "r0,2;r0,1;r2,5;r1,5;").due("shortest(0,1)=1");
        s.talk(six + "r0,1;r0,2;r1,6;r2,5;").due("shortest(0,1)=1 shortest(0,2)=6");
        s.talk(six + "r0,1;r0,2;r1,4;r2,3;r4,6;r3,5;").due("shortest(0,1)=1 shortest(0,2)=4 shortest(0,3)=6");
        s.talk(six + "r0,4;r0,3;r3,2;r4,1;r2,6;r1,5;").due("shortest(0,1)=3 shortest(0,2)=2 shortest(0,3)=6");
        s.talk(six + "r0,2;r2,4;r2,3;r4,5;r3,6;").due("shortest(0,1)=2 shortest(0,2)=3 shortest(0,3)=6");
        s.talk(six + "r0,2;r2,6;r2,5;").due("shortest(0,2)=5").does("strike(5)").due("shortest(0,2)=6");
        s.talk(six + "r0,1;r0,2;r1,3;r2,5;r3,5;").due("shortest(0,-1)=3 shortest(0,1)=2");
        String eight = "s0,1,0;s0,1,0;s0,1,0;s0,1,0;s0,1,0;s0,1,0;s0,1,0;s0,1,0;";
        s.talk(eight + "s4,1,0;s4,1,0;v0;r0,1;r1,2;r2,3;r3,4;r4,5;r5,6;r6,7;r7,9;r7,8;").due("shortest(0,8)=8 shortest(0,-1)=9 shortest(0,-2)=9");
        s.talk(eight + "s4,2,0;s4,1,0;v0;r0,1;r1,2;r2,3;r3,4;r4,5;r5,6;r6,7;r7,9;r7,8;").due("shortest(0,8)=9");
        s.talk(eight + "s4,1,0;s4,1,0;v0;r0,1;r1,2;r2,3;r3,4;r4,6;r4,5;r5,7;r6,7;r7,8;").due("shortest(0,5)=5 shortest(0,7)=8");
        s.talk("s0,0,0;s4,0,0;s0,0,0;s0,0,0;v3;r3,2;r3,0;r0,1;r2,1;").due("shortest(3,0)=3 shortest(3,1)=0 shortest(3,2)=1");
    }

    private void nights() {
        Sentence s = says("NIGHTS with which WHOLE ones end (bits).");
        s.talk(NOTHING).due("nights(0)=0");
        s.talk(NO_NIGHT).due("nights(0)=0 nights(1)=0").refused("nights(2)=BAD nights(3)=BAD");
        s.talk("s4,0,0;s0,0,0;v1;r1,0;").due("nights(1)=1").does("strike(0)").due("nights(1)=0");
        s.talk(TrialBoundaries.tenInARow()).due("nights(0)=512").does("strike(5)").due("nights(0)=0");
        String wide = "s0,0,0;s4,0,0;s4,0,0;s4,0,0;s4,0,0;s4,0,0;s4,0,0;s4,0,0;s4,0,0;s4,0,0;v0;r0,1;r0,2;r0,3;r0,4;r0,5;r0,6;r0,7;r0,8;";
        s.talk(wide).due("nights(0)=510 forgotten()=512 chains(0)=8").does("strike(1)").due("nights(0)=508").does("strike(8)").due("nights(0)=252");
        s.talk(wide + "r0,9;").due("nights(0)=1022 forgotten()=0 chains(0)=9");
    }

    private void needed() {
        Sentence s = says("NEEDED: STATEMENTS (bits) that all WHOLE ones have (none, if there is no WHOLE one).");
        s.talk(NOTHING).due("needed(0)=0");
        s.talk(NO_NIGHT).due("needed(0)=0 needed(1)=0").refused("needed(2)=BAD");
        s.talk("s0,0,0;s4,0,0;v0;r0,1;").due("needed(0)=3").does("strike(1)").due("needed(0)=0").does("strike(1) strike(0)").due("needed(0)=0");
        s.talk("s0,0,0;s4,0,0;s4,0,0;v0;r0,1;r0,2;").due("needed(0)=1").does("strike(2)").due("needed(0)=3");
        s.talk("s0,0,0;s0,0,0;s0,0,0;s0,0,0;s4,0,0;v0;r0,1;r0,2;r1,3;r2,3;r3,4;").due("needed(0)=25").does("strike(2)").due("needed(0)=27");
        s.talk(TrialBoundaries.tenInARow()).due("needed(0)=1023").does("strike(0)").due("needed(0)=0");
    }

    private void forgotten() {
        Sentence s = says("FORGOTTEN: STATEMENTS (bits; not STRUCK OUT) that are in no WHOLE CHAIN of any VERDICT.");
        s.talk(NOTHING).due("forgotten()=1").does("strike(0)").due("forgotten()=0");
        s.talk(NO_NIGHT).due("forgotten()=7").does("strike(1)").due("forgotten()=5");
        s.talk("s0,0,0;s4,0,0;v0;r0,1;").due("forgotten()=0").does("strike(1)").due("forgotten()=1").does("strike(0)").due("forgotten()=0")
                .does("strike(1)").due("forgotten()=2");
        s.talk("s0,0,0;s0,0,0;s4,0,0;s4,0,0;v0;v1;r0,2;r1,3;").due("forgotten()=0").does("strike(0)").due("forgotten()=4")
                .does("strike(1)").due("forgotten()=12").does("strike(0)").due("forgotten()=8");
        s.talk("s0,0,0;s0,0,0;s4,0,0;v0;r0,2;r1,2;").due("forgotten()=2");
        s.talk("s0,0,0;s0,0,0;s4,0,0;v0;v1;r0,2;r1,2;").due("forgotten()=0");
        s.talk("s0,0,0;s0,0,0;s4,0,0;v0;r0,2;r0,1;r1,0;").due("forgotten()=2");
        s.talk(TrialBoundaries.tenInARow()).due("forgotten()=0").does("strike(9)").due("forgotten()=511").does("strike(9) strike(0)").due("forgotten()=1022");
    }

    private void both() {
        Sentence s = says("BOTH of two VERDICTS: the NIGHT with which WHOLE ones of both end by least COST of both together, "
                + "of several the lowest: it; as much; none.");
        s.talk(NOTHING).due("both(0,0,0)=NONE both(0,0,1)=NONE");
        s.talk(NO_NIGHT).due("both(0,1,0)=NONE both(0,1,1)=NONE both(1,1,0)=NONE").refused("both(0,2,0)=BAD both(2,0,1)=BAD");
        String two = "s0,1,0;s0,1,0;s4,#,0;s4,3,0;v0;v1;";
        s.talk(two.replace("#", "3") + "r0,2;r1,3;").due("both(0,1,0)=NONE both(0,1,1)=NONE both(0,0,0)=2 both(1,1,0)=3");
        s.talk(two.replace("#", "3") + "r0,2;r1,3;r0,3;").due("both(0,1,0)=3 both(0,1,1)=8 both(1,0,0)=3 both(1,0,1)=8");
        s.talk(two.replace("#", "3") + "r0,3;r0,2;r1,3;r1,2;").due("both(0,1,0)=2 both(0,1,1)=8 both(0,0,0)=2 both(0,0,1)=8");
        s.talk(two.replace("#", "4") + "r0,2;r0,3;r1,2;r1,3;").due("both(0,1,0)=3 both(0,1,1)=8").does("strike(3)")
                .due("both(0,1,0)=2 both(0,1,1)=10").does("strike(2)").due("both(0,1,0)=NONE both(0,1,1)=NONE");
        s.talk(two.replace("#", "2") + "r0,2;r0,3;r1,2;r1,3;").due("both(0,1,0)=2 both(0,1,1)=6").does("strike(1)")
                .due("both(0,1,0)=NONE both(1,0,1)=NONE both(1,1,1)=NONE both(0,0,1)=6");
        s.talk("s0,0,0;s0,0,0;s4,0,0;v0;v1;r0,2;r1,2;").due("both(0,1,0)=2 both(0,1,1)=0");
        s.talk("s0,0,0;s0,0,0;s0,5,0;s0,1,0;s4,0,0;s4,3,0;v0;v1;r0,4;r0,3;r3,5;r1,2;r2,4;r1,5;").due("both(0,1,0)=4 both(0,1,1)=5 both(1,0,0)=4")
                .does("strike(3)").due("both(0,1,0)=4").does("strike(3) strike(2)").due("both(0,1,0)=5 both(0,1,1)=7");
        s.talk("s0,0,0;s4,0,0;s0,9,0;s0,2,0;v0;r0,2;r2,1;r0,3;r3,1;").due("both(0,0,0)=1 both(0,0,1)=4");
        s.talk("s4,7,0;s0,1,0;s0,2,0;s4,9,0;v1;v2;r1,0;r1,3;r2,0;r2,3;").due("both(1,2,0)=0 both(1,2,1)=17").does("strike(0)")
                .due("both(1,2,0)=3 both(1,2,1)=21");
    }

    private void turns() {
        Sentence s = says("TURNS from a VERDICT: two sides say what comes next by turns, the first one what is behind the VERDICT; the first one "
                + "wants that it ENDS with a NIGHT that somebody could have done, the other one that it does not (ENDS with another one, or is "
                + "STUCK): 1 if the first one can bring it to that whatever the other one says, 0; how it begins then (the lowest); none.");
        String lost = "byTurns(0,0)=0 byTurns(0,1)=NONE";
        s.talk(NOTHING).due(lost);
        s.talk(NO_NIGHT).due(lost);
        s.talk("s0,0,0;s4,0,0;v0;p1,1;").due(lost);
        s.talk("s0,0,0;s4,0,0;v0;r0,1;").due(lost);
        s.talk("s0,0,0;s4,0,0;v0;r0,1;p1,1;").due("byTurns(0,0)=1 byTurns(0,1)=1").does("strike(1)").due(lost).does("strike(1) strike(0)").due(lost);
        s.talk("s0,0,0;s4,0,0;s4,0,0;v0;r0,1;r0,2;p2,2;").due("byTurns(0,0)=1 byTurns(0,1)=2").does("strike(2)").due(lost);
        s.talk("s0,0,0;s4,0,0;s4,0,0;v0;r0,2;r0,1;p2,1;").due("byTurns(0,1)=1").does("strike(1)").due("byTurns(0,1)=2");
        s.talk("s0,0,0;s4,0,0;s0,0,0;v2;r2,0;r0,1;p1,1;").due("byTurns(2,0)=1 byTurns(2,1)=0");
        s.talk("s4,0,0;s0,0,0;v1;r1,0;p0,0;").due("byTurns(1,0)=1 byTurns(1,1)=0").does("strike(0)").due("byTurns(1,0)=0 byTurns(1,1)=NONE");
        String three = "s0,0,0;s0,0,0;s0,0,0;s4,0,0;s4,0,0;v0;r0,1;";
        s.talk(three + "r1,3;r1,4;p3,4;").due("byTurns(0,0)=1 byTurns(0,1)=1");
        s.talk(three + "r1,3;r1,4;p3,3;").due(lost).does("strike(4)").due("byTurns(0,1)=1");
        s.talk(three + "r1,3;r1,4;p4,4;").due(lost).does("strike(3)").due("byTurns(0,1)=1");
        s.talk(three + "r1,2;r1,3;p3,3;").due(lost).does("strike(2)").due("byTurns(0,1)=1");
        s.talk(three + "r1,2;r2,3;r2,4;p4,4;").due("byTurns(0,1)=1");
        s.talk(three + "r1,2;r2,3;r2,4;p3,3;").due("byTurns(0,1)=1").does("strike(3)").due(lost);
        s.talk(three + "r1,2;r2,3;r1,0;p3,3;").due("byTurns(0,1)=1");
        s.talk(three + "r1,2;r2,1;r2,0;p3,3;").due(lost);
        s.talk(three + "r1,2;r1,3;r2,0;p3,3;").due(lost).does("strike(2)").due("byTurns(0,1)=1");
        s.talk(three + "r1,2;r2,0;r2,1;r2,3;r0,3;p3,3;").due("byTurns(0,1)=1").does("strike(2)").due("byTurns(0,1)=3");
        s.talk("s4,0,0;s0,0,0;s0,0,0;s4,0,0;v1;r1,2;r2,0;r2,3;p3,3;").due("byTurns(1,0)=0 byTurns(1,1)=NONE").does("strike(0)")
                .due("byTurns(1,0)=1 byTurns(1,1)=2");
        s.talk("s4,0,0;s0,0,0;s0,0,0;s0,0,0;s4,0,0;v1;r1,2;r2,3;r3,0;r3,4;p0,0;").due("byTurns(1,1)=2").does("strike(0)").due("byTurns(1,1)=NONE");
        s.talk(three + "r1,3;r1,4;r0,2;r2,3;p3,3;").due("byTurns(0,1)=2").does("strike(2)").due(lost);
        s.talk(three + "r1,3;r0,2;r2,3;p3,3;").due("byTurns(0,1)=1");
    }

    /** In a row of n STATEMENTS with a good NIGHT and a bad one at its end, it is all in whose turn comes last. */
    private void turnsOfMany() {
        Sentence s = says("two sides say what comes next by turns, the first one what is behind the VERDICT;");
        for (int n = 1; n <= 8; n++) {
            StringBuilder text = new StringBuilder("s0,0,0;".repeat(n)).append("s4,0,0;s4,0,0;v0;");
            for (int a = 0; a + 1 < n; a++) {
                text.append('r').append(a).append(',').append(a + 1).append(';');
            }
            text.append('r').append(n - 1).append(',').append(n).append(";r").append(n - 1).append(',').append(n + 1).append(';');
            boolean firstSpeaksLast = n % 2 == 1;
            for (int good = n; good <= n + 1; good++) {
                Talk x = s.talk(text + "p" + good + "," + good + ";").due("byTurns(0,0)", firstSpeaksLast ? 1 : 0);
                x.due("byTurns(0,1)", !firstSpeaksLast ? -4 : n == 1 ? good : 1);
                x.does("strike(" + (n + n + 1 - good) + ")").due("byTurns(0,0)=1").does("strike(" + good + ")").due("byTurns(0,0)=0");
            }
        }
        s.talk(TrialBoundaries.tenInARow()).due("byTurns(0,0)=1 byTurns(0,1)=1");
    }

    private void days() {
        Sentence s = says("DAYS: the fewest that a WHOLE CHAIN takes, together, of a VERDICT; none.");
        s.talk(NOTHING).due("days(0)=NONE");
        s.talk(NO_NIGHT).due("days(0)=NONE days(1)=NONE").refused("days(2)=BAD");
        s.talk("s0,9,0;s4,9,0;v0;r0,1;").due("days(0)=0").does("strike(1)").due("days(0)=NONE").does("strike(1) strike(0)").due("days(0)=NONE");
        s.talk("s2,20,20;s3,20,20;s1,9,20;s1,9,20;s1,9,20;s1,9,20;s1,9,20;s1,9,20;s1,9,20;s4,9,20;v0;r0,1;r1,2;r2,3;r3,4;r4,5;r5,6;r6,7;r7,8;r8,9;")
                .due("days(0)=200");
        String two = "s0,1,0;s0,1,20;s0,9,#;s4,0,7;v0;r0,1;r1,3;r0,2;r2,3;";
        s.talk(two.replace("#", "19")).due("days(0)=26 shortest(0,1)=1");
        s.talk(two.replace("#", "20")).due("days(0)=27");
        s.talk(two.replace("#", "0")).due("days(0)=7").does("strike(2)").due("days(0)=27");
        s.talk("s0,0,1;s0,0,1;s0,0,1;s0,0,4;s4,0,1;v0;r0,3;r3,4;r0,1;r1,2;r2,4;").due("days(0)=4 shortest(0,-1)=3");
    }
}
