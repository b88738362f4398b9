/** How long an object is used, what is refused, and each promise's own words. */
final class CallBoundaries {
    /** Something of everything: letters, one STRUCK OUT, a TRIAL, what can be UNDONE, one KEPT, no NIGHT for 7. */
    private static final String RICH = "write(118) write(48) strike(4) argue(0) argue(1) keep() argue(3) undo() strike(6) strike(6) strike(5)";

    private final BoundaryTests all;

    CallBoundaries(BoundaryTests all) {
        this.all = all;
    }

    void run() {
        life();
        bad();
        no();
        noneAndFull();
        severalAndNothing();
        askingChangesNothing();
        newObject();
        texts();
        layAndStatement();
        argueAndDrop();
        strikeAndUndo();
        arguedNextTrial();
        chains();
        shortest();
        nightsNeededForgotten();
        bothTurnsDays();
        whoFitsLook();
        laidOddsTrialBy();
        keepBackCount();
    }

    private Sentence promise(int number, String words) {
        return all.sentence("Promise " + number, words);
    }

    private void life() {
        Sentence s = all.sentence("Life", "An object is used for at most 512 calls after it has been made; what later calls answer is free.");
        Talk x = s.talk();
        String text = "s0,1,1;s0,2,2;s4,0,0;v0;r0,1;r1,2;p2,2;";
        x.writes(text);
        for (int i = text.length(); i < 200; i++) {
            x.due("write(120)", i + 1);
        }
        x.due("write(120)=FULL fault()=39 lay()=NO wipe()=200").writes(text).due("lay()=3 count(7)=39");
        while (x.calls() < 480) {
            x.does("strike(1) strike(1) argue(0) argue(1) drop()");
        }
        x.callsAre(480);
        x.due("argue(0)=1 strike(2)=1 trial(2)=0 argue(1)=2 trial(2)=1 keep()=1 undo()=7 undo()=6 undo()=5 argue(0)=1 keep()=2 keep()=FULL");
        x.due("chains(0)=1 shortest(0,-2)=3 nights(0)=4 needed(0)=7 forgotten()=0 both(0,0,1)=6 byTurns(0,1)=1 days(0)=3 who(2)=1 fits(0)=1");
        x.due("look(0,0)=2 laid(0,1)=3 odds(0,5,1)=2 trialBy(9999,0,0)=3 back()=1 back()=0 count(3)=2 undo()=NO count(4)=1 strike(2)=0").callsAre(512);
    }

    private void bad() {
        Sentence s = all.sentence("Refusals", "BAD: a number is none that is told (STATEMENTS, VERDICTS, PERSONS: such as there are; a VERDICT that is "
                + "STRUCK OUT has no CHAIN).");
        for (int n : new int[] {1, 2, 5, 9, 10}) {
            StringBuilder text = new StringBuilder("s0,0,0;".repeat(n)).append('v').append(n - 1).append(';');
            Talk x = s.talk(text.toString()).due("argue(" + (n - 1) + ")", 1).does("drop()").due("strike(" + (n - 1) + ")", 1);
            x.due("statement(" + (n - 1) + ",5)", 1).due("chains(" + (n - 1) + ")", 0);
            for (String call : new String[] {"argue(#)", "strike(#)", "statement(#,0)", "statement(#,5)"}) {
                x.refused(call.replace("#", "" + n) + "=BAD " + call.replace("#", "-1") + "=BAD");
            }
        }
        String[] ofVerdict = {"chains(#)", "shortest(#,-2)", "shortest(#,0)", "nights(#)", "needed(#)", "both(#,0,0)", "both(0,#,0)", "both(#,0,1)",
            "both(0,#,1)", "byTurns(#,0)", "byTurns(#,1)", "days(#)", "fits(#)", "look(#,0)", "look(#,1)", "laid(#,0)", "odds(#,5,0)", "odds(#,5,1)",
            "trialBy(5,#,0)", "trialBy(5,#,1)"};
        for (String call : ofVerdict) {
            Talk x = s.talk().does(RICH);
            for (int v : new int[] {1, 2, 3, 4, 5, 6, 8, 9}) {
                x.refused(call.replace("#", "" + v) + "=BAD");
            }
            x.outside(call, 0, 7);
            s.talk("s0,0,0;s0,0,0;s0,0,0;s0,0,0;s0,0,0;s0,0,0;s0,0,0;s0,0,0;s0,0,0;s4,0,0;v0;r0,9;p9,9;").outside(call, 0, 0);
        }
        Talk struck = s.talk().does("strike(0)");
        struck.due("chains(0)=0 shortest(0,-2)=NONE shortest(0,0)=NONE nights(0)=0 needed(0)=0 both(0,7,0)=NONE both(7,0,1)=NONE both(0,0,0)=NONE");
        struck.due("byTurns(0,0)=0 byTurns(0,1)=NONE days(0)=NONE fits(0)=0 look(0,0)=NONE look(0,1)=NONE laid(0,0)=NONE");
        struck.due("odds(0,10,0)=0 odds(0,10,1)=1 trialBy(5,0,0)=1 trialBy(5,0,1)=NONE statement(0,3)=1 count(1)=2").refused("argue(0)=NO");
        struck.does("strike(0)").due("chains(0)=5 byTurns(0,0)=1 argue(0)=1");
    }

    private void no() {
        Sentence s = all.sentence("Refusals", "NO: not as things stand.");
        s.talk().refused("lay()=NO argue(1)=NO undo()=NO back()=NO").due("argue(0)=1 undo()=0 keep()=1 back()=0");
        s.talk().does("argue(0)").refused("strike(0)=NO argue(0)=NO argue(7)=NO argue(5)=NO").due("argue(1)=2 drop()=2 strike(0)=1").refused("argue(0)=NO")
                .due("argue(7)=1");
    }

    private void noneAndFull() {
        Sentence s = all.sentence("Refusals", "NONE: there is none.");
        s.talk().due("fault()=NONE").does("strike(5) strike(6)").refused("shortest(0,-2)=NONE both(0,7,0)=NONE both(0,7,1)=NONE byTurns(0,1)=NONE "
                + "days(0)=NONE look(0,0)=NONE look(0,1)=NONE laid(0,0)=NONE trialBy(5,0,1)=NONE fault()=NONE")
                .due("chains(0)=0 nights(0)=0 needed(0)=0 byTurns(0,0)=0 fits(0)=0 odds(0,10,0)=0").does("strike(6)")
                .due("shortest(0,-2)=10 both(0,7,0)=6 byTurns(0,1)=1 days(0)=2 look(0,0)=6 laid(0,0)=1");
        s = all.sentence("Refusals", "FULL.");
        s.talk().does("keep() keep()").refused("keep()=FULL").due("back()=1 keep()=2");
        s.talk().writes("v0;".repeat(66)).due("write(118)=199 write(48)=200").refused("write(59)=FULL").due("wipe()=200 write(59)=1");
    }

    private void severalAndNothing() {
        Sentence s = all.sentence("Refusals", "Of several the first; nothing changes then.");
        s.talk().does("argue(0) argue(2) argue(6)").refused("argue(8)=BAD argue(-1)=BAD strike(8)=BAD strike(-1)=BAD argue(5)=NO strike(6)=NO");
        Talk x = s.talk().does(RICH).does("strike(6)");
        x.refused("shortest(0,-3)=BAD shortest(0,-2)=NONE shortest(1,0)=BAD both(0,1,0)=BAD both(0,7,2)=BAD both(0,7,-1)=BAD both(0,7,0)=NONE");
        x.refused("byTurns(0,2)=BAD byTurns(0,-1)=BAD byTurns(0,1)=NONE days(1)=BAD days(0)=NONE look(0,2)=BAD look(0,-1)=BAD look(0,0)=NONE");
        x.refused("laid(0,-1)=BAD laid(1,0)=BAD laid(0,0)=NONE laid(0,10)=NONE odds(0,11,0)=BAD odds(0,5,2)=BAD trialBy(-1,0,1)=BAD trialBy(5,0,2)=BAD");
        x.refused("argue(4)=NO argue(8)=BAD strike(0)=NO strike(1)=NO strike(9)=BAD lay()=NO").does("keep()").refused("keep()=FULL");
        x.refused("argued(2)=BAD argued(-1)=BAD trial(3)=BAD trial(-1)=BAD count(8)=BAD count(-1)=BAD who(4)=BAD statement(0,6)=BAD write(31)=BAD");
        Talk full = s.talk().writes("v0;".repeat(66) + "v0");
        full.refused("write(31)=BAD write(127)=BAD write(-1)=BAD write(59)=FULL lay()=NO undo()=NO back()=NO");
        Talk stuck = s.talk("s0,0,0;v0;").does("strike(0)").refused("argue(0)=NO argue(1)=BAD shortest(0,-3)=BAD laid(0,-1)=BAD laid(0,0)=NONE look(0,2)=BAD");
        stuck.refused("both(0,0,2)=BAD both(0,0,1)=NONE byTurns(0,2)=BAD odds(0,-1,0)=BAD odds(0,0,2)=BAD trialBy(10000,0,1)=BAD trialBy(0,0,2)=BAD");
    }

    /** What is only asked leaves things as they stand, whether there is an answer or not. */
    private void askingChangesNothing() {
        Sentence s = all.sentence("Refusals", "nothing changes then.");
        String[] questions = {"fault()", "statement(0,0)", "statement(4,5)", "argued(1)", "next()", "trial(0)", "trial(1)", "trial(2)", "chains(0)", "chains(7)",
            "shortest(0,-2)", "shortest(0,1)", "nights(0)", "needed(7)", "forgotten()", "both(0,7,0)", "both(7,7,1)", "byTurns(0,0)", "byTurns(7,1)",
            "days(0)", "who(5)", "fits(0)", "look(0,0)", "look(7,1)", "laid(0,1)", "odds(0,5,0)", "odds(7,9,1)", "trialBy(77,0,0)", "trialBy(5,7,1)",
            "count(0)", "count(5)", "count(6)", "count(7)"};
        Talk rich = s.talk().does(RICH);
        Talk nothing = s.talk();
        Talk half = s.talk("s0,1,1;s3,2,2;s4,0,0;v0;v1;r0,1;r1,2;r1,0;p2,2;").does("argue(1) argue(0) keep() keep() drop() strike(2)").writes("s");
        for (String question : questions) {
            rich.asks(question);
            nothing.asks(question);
            half.asks(question);
        }
    }

    private void newObject() {
        Sentence s = promise(1, "As told.");
        s.talk().due("count(0)=8 count(1)=2 count(2)=2 count(3)=0 count(4)=0 count(5)=0 count(6)=0 count(7)=0 next()=129 who(5)=3 who(6)=2 trial(0)=0")
                .refused("undo()=NO back()=NO argued(0)=BAD lay()=NO").due("fault()=NONE wipe()=0 statement(7,0)=2 statement(7,1)=3 statement(7,2)=2")
                .refused("statement(8,0)=BAD");
        Talk one = s.talk().does("write(115) strike(3) argue(7) keep()");
        s.talk().due("count(3)=0 count(4)=0 count(5)=0 count(6)=0 count(7)=0");
        one.due("count(3)=1 count(4)=1 count(5)=2 count(6)=1 count(7)=1");
    }

    private void texts() {
        Sentence s = promise(2, "A letter (32 to 126, as in ASCII) comes behind THE TEXT: how long it is. BAD; FULL.");
        Talk x = s.talk().does(RICH);
        x.outside("write(#)", 32, 126);
        s.talk().outside("write(#)", 32, 126).refused("write(0)=BAD write(9)=BAD write(10)=BAD write(13)=BAD write(31)=BAD write(127)=BAD write(255)=BAD");
        Talk each = s.talk();
        for (int letter = 32; letter <= 126; letter++) {
            each.due("write(" + letter + ")", letter - 31).due("count(7)", letter - 31);
        }
        Talk full = s.talk();
        for (int n = 1; n <= 200; n++) {
            full.due("write(126)", n);
        }
        full.refused("write(32)=FULL write(126)=FULL write(31)=BAD write(127)=BAD").due("count(7)=200 fault()=0");
        s.talk("s0,0,0;v0;").due("write(32)=11 fault()=10").refused("lay()=NO").due("count(0)=1");
        s = promise(3, "THE TEXT is empty: how long it was.");
        s.talk().due("wipe()=0 wipe()=0 count(7)=0 write(115)=1 wipe()=1 wipe()=0 fault()=NONE");
        s.talk().writes("x".repeat(200)).due("fault()=0 wipe()=200 count(7)=0 fault()=NONE write(115)=1 wipe()=1");
        s.talk().does(RICH).due("wipe()=2 count(0)=8 count(3)=2 count(4)=2 count(5)=6 count(6)=1 count(7)=0").refused("lay()=NO");
        s = promise(4, "FAULT. NONE.");
        s.talk().due("fault()=NONE").writes("s0,0,0").due("fault()=0 write(59)=7 fault()=NONE write(118)=8 fault()=7 write(48)=9 fault()=7 write(59)=10 fault()=NONE "
                + "write(59)=11 fault()=10 wipe()=11 fault()=NONE");
    }

    private void layAndStatement() {
        Sentence s = promise(5, "LAID: how many STATEMENTS; no TRIAL, nothing STRUCK OUT, UNDONE, KEPT. NO.");
        s.talk().does(RICH).refused("lay()=NO").does("wipe()").refused("lay()=NO").writes("s4,0,0;s3,1,2;").refused("lay()=NO").writes("v1;")
                .due("lay()=2 count(0)=2 count(1)=1 count(2)=0 count(3)=0 count(4)=0 count(5)=0 count(6)=0 count(7)=17 next()=2 statement(0,0)=4 statement(0,5)=0")
                .refused("undo()=NO back()=NO statement(2,0)=BAD argued(0)=BAD").due("argue(1)=1 lay()=2 count(3)=0 count(5)=0");
        s.talk("s0,0,0;v0;").due("count(0)=1").lays("s0,0,0;s0,0,0;s0,0,0;s0,0,0;s0,0,0;s0,0,0;s0,0,0;s0,0,0;s0,0,0;s0,0,0;v9;").due("count(0)=10");
        s.talk(TrialBoundaries.tenInARow()).does("strike(9) strike(8) argue(0) keep() keep()").lays("s0,0,0;s4,0,0;v0;")
                .due("count(0)=2 count(1)=1 count(2)=0 chains(0)=0 who(1)=0 statement(0,4)=0 statement(1,5)=0 keep()=1 keep()=2");
        s = promise(6, "Of a STATEMENT: KIND (what = 0), cost as told (1), days (2), 1 if it can be a VERDICT (3), on which it HANGS, as bits (4), "
                + "1 if it is STRUCK OUT (5). BAD.");
        Talk x = s.talk().does(RICH);
        for (int what = 0; what <= 5; what++) {
            x.outside("statement(#," + what + ")", 0, 7);
        }
        x.outside("statement(0,#)", 0, 5).outside("statement(7,#)", 0, 5).refused("statement(8,6)=BAD statement(-1,-1)=BAD");
        x.due("statement(0,0)=0 statement(0,1)=3 statement(0,2)=1 statement(0,3)=1 statement(0,4)=6 statement(0,5)=0");
        x.due("statement(7,0)=2 statement(7,1)=3 statement(7,2)=2 statement(7,3)=1 statement(7,4)=20 statement(7,5)=0 statement(4,5)=1 statement(1,3)=0");
        s.talk(TrialBoundaries.tenInARow()).due("statement(9,0)=4 statement(8,4)=512 statement(9,4)=0 strike(9)=1 statement(9,5)=1 statement(8,4)=512")
                .outside("statement(#,0)", 0, 9);
    }

    private void argueAndDrop() {
        Sentence s = promise(7, "What is argued next (a VERDICT, if there is no TRIAL): how many STATEMENTS it has. BAD; NO: it can not come.");
        s.talk().outside("argue(#)", 0, 7).refused("argue(1)=NO argue(2)=NO argue(3)=NO argue(4)=NO argue(5)=NO argue(6)=NO").due("argue(7)=1")
                .outside("argue(#)", 0, 7).refused("argue(7)=NO argue(0)=NO argue(1)=NO argue(3)=NO argue(5)=NO argue(6)=NO").due("argue(2)=2 argue(6)=3")
                .outside("argue(#)", 0, 7).refused("argue(0)=NO argue(3)=NO argue(5)=NO argue(6)=NO argue(7)=NO");
        s.talk().does("strike(0)").refused("argue(0)=NO").does("strike(7)").refused("argue(0)=NO argue(7)=NO").does("strike(0)").due("argue(0)=1");
        s.talk().does("argue(0) strike(2)").refused("argue(2)=NO").does("strike(2)").due("argue(2)=2 strike(6)=1").refused("argue(6)=NO argue(1)=NO").due("argue(3)=3");
        s.talk(TrialBoundaries.tenInARow()).outside("argue(#)", 0, 9).does("argue(0) argue(1) argue(2) argue(3) argue(4) argue(5) argue(6) argue(7) argue(8)")
                .due("argue(9)=10").outside("argue(#)", 0, 9).refused("argue(9)=NO argue(0)=NO");
        s.talk("s0,0,0;v0;").outside("argue(#)", 0, 0).due("argue(0)=1").refused("argue(0)=NO argue(1)=BAD");
        s = promise(8, "The TRIAL is over, none there: how many STATEMENTS it had.");
        s.talk().due("drop()=0 drop()=0 argue(0)=1 drop()=1 argue(7)=1 argue(4)=2 drop()=2 drop()=0 count(3)=0 next()=129 count(5)=8").refused("argued(0)=BAD");
        s.talk().does("argue(0) argue(2) argue(6)").due("trial(1)=1 drop()=3 trial(0)=0 trial(1)=0 trial(2)=0 strike(0)=1 strike(6)=1");
        s.talk().does(RICH).due("drop()=2 count(4)=2 count(5)=7 count(6)=1 count(7)=2");
    }

    private void strikeAndUndo() {
        Sentence s = promise(9, "A STATEMENT is STRUCK OUT, or let in: 1 if it is STRUCK OUT then, 0. BAD; NO: it is of the TRIAL.");
        s.talk().outside("strike(#)", 0, 7).due("strike(0)=1 strike(0)=0 strike(7)=1 strike(7)=0 strike(7)=1 count(4)=1");
        s.talk().does(RICH).outside("strike(#)", 0, 7).refused("strike(0)=NO strike(1)=NO").due("strike(2)=1 strike(3)=1 strike(4)=0 strike(5)=0 strike(6)=1 strike(7)=1")
                .does("undo()").due("statement(7,5)=0");
        s.talk("s0,0,0;v0;").outside("strike(#)", 0, 0).due("strike(0)=1 strike(0)=0 argue(0)=1").refused("strike(0)=NO strike(1)=BAD").due("drop()=1 strike(0)=1");
        s.talk(TrialBoundaries.tenInARow()).outside("strike(#)", 0, 9).due("strike(9)=1 strike(9)=0 strike(0)=1").refused("strike(10)=BAD");
        s = promise(10, "UNDONE: how many more can be. NO.");
        s.talk().refused("undo()=NO").does("strike(1)").due("undo()=0").refused("undo()=NO").does("argue(0) argue(1)").due("undo()=1 undo()=0 count(3)=0").refused("undo()=NO");
        Talk x = s.talk();
        for (int n = 1; n <= 12; n++) {
            x.does("strike(" + n % 8 + ")").due("count(5)", Math.min(n, 8));
        }
        x.due("undo()=7 undo()=6 undo()=5 undo()=4 undo()=3 undo()=2 undo()=1 undo()=0 count(4)=4 statement(1,5)=1 statement(4,5)=1 statement(5,5)=0").refused("undo()=NO");
        s.talk().does("keep() write(115) wipe()").refused("undo()=NO").does("argue(0) back()").refused("undo()=NO");
        s.talk().does("argue(0) keep() undo()").due("count(3)=0 count(6)=1 back()=0 count(3)=1").refused("undo()=NO");
    }

    private void arguedNextTrial() {
        Sentence s = promise(11, "The k-th STATEMENT of the TRIAL (0: the VERDICT). BAD.");
        s.talk().refused("argued(0)=BAD argued(-1)=BAD argued(1)=BAD").does("argue(7)").due("argued(0)=7").outside("argued(#)", 0, 0).does("argue(4)")
                .due("argued(0)=7 argued(1)=4").outside("argued(#)", 0, 1).does("undo()").refused("argued(1)=BAD").does("drop()").refused("argued(0)=BAD");
        Talk ten = s.talk(TrialBoundaries.tenInARow());
        for (int a = 0; a < 10; a++) {
            ten.refused("argued(" + a + ")=BAD").does("argue(" + a + ")").due("argued(" + a + ")", a);
        }
        ten.outside("argued(#)", 0, 9);
        s = promise(12, "What can come next, as bits (VERDICTS, if there is no TRIAL).");
        s.talk().due("next()=129 argue(0)=1 next()=6 argue(1)=2 next()=8 argue(3)=3 next()=80 argue(6)=4 next()=0 drop()=4 next()=129");
        s.talk().does("strike(0)").due("next()=128").does("strike(7)").due("next()=0").does("strike(0)").due("next()=1 argue(0)=1 strike(1)=1 next()=4 strike(2)=1 next()=0");
        s.talk("s0,0,0;s0,0,0;s0,0,0;s0,0,0;s0,0,0;s0,0,0;s0,0,0;s0,0,0;s0,0,0;s0,0,0;v0;v1;v2;v3;v4;v5;v6;v7;v8;v9;r5,0;r5,9;r9,5;").due("next()=1023 argue(5)=1 next()=513")
                .does("argue(9)").due("next()=0 trial(2)=1");
        s = promise(13, "The TRIAL's COST (what = 0), 1 if it is ENDED (1), STUCK (2). BAD.");
        s.talk().outside("trial(#)", 0, 2).due("trial(0)=0 trial(1)=0 trial(2)=0 argue(7)=1 trial(0)=6 trial(1)=0 trial(2)=0 argue(4)=2 trial(0)=8 argue(5)=3 trial(0)=8 trial(1)=1 trial(2)=0")
                .outside("trial(#)", 0, 2).does("undo() strike(5)").due("trial(0)=8 trial(1)=0 trial(2)=1").outside("trial(#)", 0, 2);
    }

    private void chains() {
        Sentence s = promise(14, "CHAINS. BAD: no VERDICT.");
        s.talk().due("chains(0)=5 chains(7)=4").refused("chains(1)=BAD chains(5)=BAD chains(6)=BAD").outside("chains(#)", 0, 7);
        s.talk().does("argue(0) argue(2) argue(6)").due("chains(0)=5 chains(7)=4").does("drop() strike(7)").due("chains(7)=0 chains(0)=5");
        s.talk("s0,0,0;v0;").due("chains(0)=0").outside("chains(#)", 0, 0);
    }

    private void shortest() {
        Sentence s = promise(15, "SHORTEST: COST (k = -2), how many STATEMENTS (k = -1), the k-th (NONE: there are not so many). NONE; BAD.");
        s.talk().due("shortest(0,-2)=10 shortest(0,-1)=3 shortest(0,0)=0 shortest(0,1)=2 shortest(0,2)=6 shortest(0,3)=NONE shortest(0,9)=NONE shortest(0,10)=NONE")
                .refused("shortest(0,-3)=BAD shortest(0,-4)=BAD shortest(0,-2147483648)=BAD shortest(0,2147483647)=NONE shortest(0,3)=NONE shortest(1,-2)=BAD")
                .refused("shortest(1,-3)=BAD shortest(5,0)=BAD").outside("shortest(#,-2)", 0, 7);
        s.talk(TrialBoundaries.tenInARow()).due("shortest(0,9)=9 shortest(0,10)=NONE").does("strike(4)").due("shortest(0,-2)=NONE shortest(0,-1)=NONE shortest(0,0)=NONE")
                .refused("shortest(0,-3)=BAD");
    }

    private void nightsNeededForgotten() {
        Sentence s = promise(16, "NIGHTS, as bits. BAD.");
        s.talk().due("nights(0)=96 nights(7)=96").refused("nights(1)=BAD nights(5)=BAD").outside("nights(#)", 0, 7).does("strike(5)").due("nights(0)=64").does("strike(6)").due("nights(0)=0");
        s = promise(17, "NEEDED, as bits. BAD.");
        s.talk().due("needed(0)=1 needed(7)=128").refused("needed(1)=BAD needed(6)=BAD").outside("needed(#)", 0, 7).does("strike(6)").due("needed(0)=57").does("strike(5)").due("needed(0)=0");
        s = promise(18, "FORGOTTEN, as bits.");
        s.talk().due("forgotten()=0").does("strike(0)").due("forgotten()=2").does("strike(7)").due("forgotten()=126").does("strike(3)").due("forgotten()=118");
    }

    private void bothTurnsDays() {
        Sentence s = promise(19, "BOTH: the NIGHT (what = 0), as much (1). NONE; BAD (u and v may be one).");
        s.talk().due("both(0,7,0)=6 both(0,7,1)=23 both(7,0,0)=6 both(7,0,1)=23 both(0,0,0)=6 both(0,0,1)=20 both(7,7,0)=5 both(7,7,1)=16")
                .outside("both(0,7,#)", 0, 1).outside("both(#,7,0)", 0, 7).outside("both(0,#,1)", 0, 7).refused("both(1,7,0)=BAD both(7,1,0)=BAD both(1,1,0)=BAD both(5,5,1)=BAD")
                .does("strike(5) strike(6)").due("both(0,7,0)=NONE both(0,7,1)=NONE both(0,0,0)=NONE").refused("both(0,7,2)=BAD both(0,7,-1)=BAD both(0,1,0)=BAD");
        s = promise(20, "TURNS: 1, 0 (what = 0), how it begins (1; NONE). BAD.");
        s.talk().due("byTurns(0,0)=1 byTurns(0,1)=1 byTurns(7,0)=1").outside("byTurns(0,#)", 0, 1).outside("byTurns(#,0)", 0, 7).refused("byTurns(1,0)=BAD byTurns(6,1)=BAD")
                .does("strike(5) strike(6)").due("byTurns(0,0)=0 byTurns(0,1)=NONE").refused("byTurns(0,2)=BAD byTurns(0,-1)=BAD");
        s = promise(21, "DAYS. NONE; BAD.");
        s.talk().due("days(0)=2 days(7)=3").refused("days(1)=BAD days(5)=BAD").outside("days(#)", 0, 7).does("strike(5) strike(6)").due("days(0)=NONE days(7)=NONE").refused("days(3)=BAD");
    }

    private void whoFitsLook() {
        Sentence s = promise(22, "WHO, as bits. BAD: no NIGHT.");
        s.talk().due("who(5)=3 who(6)=2").refused("who(0)=BAD who(4)=BAD who(7)=BAD").outside("who(#)", 5, 6);
        s = promise(23, "FITS, as bits. BAD.");
        s.talk().due("fits(0)=3 fits(7)=3").refused("fits(5)=BAD fits(1)=BAD").outside("fits(#)", 0, 7).does("strike(5)").due("fits(0)=2").does("strike(6)").due("fits(0)=0");
        s = promise(24, "LOOK: the NIGHT (what = 0), how many (1). NONE; BAD.");
        s.talk().due("look(0,0)=5 look(0,1)=2").outside("look(0,#)", 0, 1).outside("look(#,0)", 0, 7).refused("look(1,0)=BAD look(5,1)=BAD").does("strike(5)")
                .due("look(0,0)=6 look(0,1)=1").does("strike(6)").due("look(0,0)=NONE look(0,1)=NONE").refused("look(0,2)=BAD look(0,-1)=BAD");
    }

    private void laidOddsTrialBy() {
        Sentence s = promise(25, "LAID: how many days ahead. NONE: there is none, it has not so many; BAD.");
        s.talk().due("laid(0,0)=1 laid(0,1)=2 laid(0,2)=2 laid(0,3)=NONE laid(0,4)=NONE laid(0,2147483647)=NONE").refused("laid(0,-1)=BAD laid(0,-2)=BAD laid(0,-2147483648)=BAD")
                .refused("laid(1,0)=BAD laid(1,-1)=BAD").outside("laid(#,0)", 0, 7).does("strike(5) strike(6)").due("laid(0,0)=NONE laid(0,3)=NONE").refused("laid(0,-1)=BAD");
        s = promise(26, "ODDS: above (part = 0), below (1). BAD.");
        s.talk().due("odds(0,0,0)=0 odds(0,0,1)=1 odds(0,10,0)=1 odds(0,10,1)=1 odds(0,5,0)=3 odds(0,5,1)=4 odds(0,1,0)=19 odds(0,1,1)=100 odds(0,9,0)=99 odds(0,9,1)=100")
                .outside("odds(0,#,0)", 0, 10).outside("odds(0,#,1)", 0, 10).outside("odds(0,5,#)", 0, 1).outside("odds(#,5,0)", 0, 7).refused("odds(1,5,0)=BAD odds(5,5,1)=BAD");
        s = promise(27, "A CASE: how many (what = 0), with what (1; NONE). BAD.");
        s.talk().outside("trialBy(#,0,0)", 0, 9999).outside("trialBy(#,0,1)", 0, 9999).outside("trialBy(5,0,#)", 0, 1).outside("trialBy(5,#,0)", 0, 7)
                .refused("trialBy(5,1,0)=BAD trialBy(5,5,1)=BAD").due("trialBy(0,0,0)=4 trialBy(0,0,1)=6").does("strike(0)").due("trialBy(0,0,0)=1 trialBy(0,0,1)=NONE")
                .does("strike(0) strike(5) strike(6)").due("trialBy(9999,0,1)=NONE trialBy(0,0,1)=NONE trialBy(9999,7,1)=NONE").refused("trialBy(10000,0,1)=BAD");
    }

    private void keepBackCount() {
        Sentence s = promise(28, "KEPT: how many. FULL.");
        s.talk().due("count(6)=0 keep()=1 count(6)=1 keep()=2 count(6)=2").refused("keep()=FULL").due("count(6)=2 back()=1 keep()=2").refused("keep()=FULL");
        s.talk().does(RICH).due("count(6)=1 keep()=2 count(5)=6 count(3)=2").refused("keep()=FULL").does("drop()").refused("keep()=FULL").due("undo()=6 count(3)=2");
        s = promise(29, "As KEPT last: how many are left; nothing is UNDONE then. NO.");
        s.talk().refused("back()=NO").does("argue(0)").refused("back()=NO").due("undo()=0").does("keep() argue(0) argue(2) keep() argue(6) strike(1)")
                .due("back()=1 count(3)=2 argued(1)=2 count(4)=0 count(5)=0").refused("undo()=NO").does("drop()").due("count(5)=1 back()=0 count(3)=0 count(5)=0").refused("undo()=NO back()=NO");
        s.talk().does(RICH).due("back()=0 count(3)=2 count(4)=1 statement(4,5)=1 statement(5,5)=0 count(5)=0 count(7)=2").refused("back()=NO undo()=NO");
        s = promise(30, "How many: 0 STATEMENTS, 1 VERDICTS, 2 PERSONS, 3 STATEMENTS of the TRIAL, 4 STRUCK OUT, 5 that can be UNDONE, 6 KEPT, 7 letters of THE TEXT. BAD.");
        s.talk().outside("count(#)", 0, 7).does(RICH).outside("count(#)", 0, 7).due("count(0)=8 count(1)=2 count(2)=2 count(3)=2 count(4)=2 count(5)=6 count(6)=1 count(7)=2");
        s.talk("s0,0,0;v0;").due("count(0)=1 count(1)=1 count(2)=0 count(3)=0 count(4)=0 count(5)=0 count(6)=0 count(7)=10");
        s.talk("s0,0,0;s1,0,0;s2,0,0;s3,0,0;s0,0,0;s1,0,0;s2,0,0;s3,0,0;s0,0,0;s4,0,0;v0;v1;v2;v3;v4;v5;v6;v7;v8;v8;p9,9;p9,9;p9,9;p9,9;p9,9;")
                .due("count(0)=10 count(1)=9 count(2)=5").does("strike(0) strike(9)").due("count(0)=10 count(1)=9 count(2)=5 count(4)=2");
    }
}
