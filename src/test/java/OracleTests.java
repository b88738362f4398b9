import java.util.Random;

/** Long runs of calls, drawn by fixed seeds, on the class and on the oracle side by side. */
public final class OracleTests {
    private static final int RUNS = 6000;
    private static final int MOST_CALLS = 512;
    private static final Check CHECK = new Check();

    private final Random random;
    private final HeardBackward x = new HeardBackward();
    private final Oracle y = new Oracle();
    private final StringBuilder told = new StringBuilder();
    private int calls;

    private OracleTests(long seed) {
        random = new Random(seed);
    }

    public static void main(String[] args) {
        for (int run = 0; run < RUNS && CHECK.faults() == 0; run++) {
            new OracleTests(run).run(run);
        }
        CHECK.end("OracleTests");
    }

    private void run(int seed) {
        if (seed % 8 != 0) {
            tell(seed % 8 == 1 ? brokenText() : Texts.any(random));
        }
        while (calls < MOST_CALLS && CHECK.faults() == 0) {
            call();
            if (random.nextInt(150) == 0) {
                tell(random.nextInt(3) == 0 ? brokenText() : Texts.any(random));
            }
        }
    }

    private void same(String call, int got, int want) {
        calls++;
        told.append(call).append(' ');
        if (got != want) {
            CHECK.due(told.toString(), got, want);
        } else {
            CHECK.holds(call, true);
        }
    }

    private void tell(String text) {
        if (calls + text.length() + 3 > MOST_CALLS) {
            return;
        }
        same("wipe()", x.wipe(), y.wipe());
        for (int i = 0; i < text.length(); i++) {
            int letter = text.charAt(i);
            same("'" + (char) letter + "'", x.write(letter), y.write(letter));
        }
        same("fault()", x.fault(), y.fault());
        same("lay()", x.lay(), y.lay());
    }

    private String brokenText() {
        StringBuilder text = new StringBuilder(Texts.any(random));
        String signs = "svrp0123456789,; ~";
        for (int i = random.nextInt(3); i >= 0; i--) {
            int place = random.nextInt(text.length());
            char sign = signs.charAt(random.nextInt(signs.length()));
            switch (random.nextInt(3)) {
                case 0: text.setCharAt(place, sign); break;
                case 1: text.insert(place, sign); break;
                default: text.deleteCharAt(place);
            }
        }
        text.setLength(Math.min(text.length(), 200));
        return text.toString();
    }

    /** A number that mostly is one that is told, sometimes just outside, rarely far off. */
    private int number(int from, int to) {
        switch (random.nextInt(40)) {
            case 0: return from - 1;
            case 1: return to + 1;
            case 2: return random.nextInt();
            case 3: return random.nextInt(70) - 3;
            default: return from + random.nextInt(to - from + 1);
        }
    }

    private int verdict() {
        int v = number(0, 9);
        for (int i = 0; i < 6 && y.statement(v, 3) == 0; i++) {
            v = number(0, 9);
        }
        return v;
    }

    private int canCome() {
        int can = y.next();
        int a = number(0, 9);
        for (int i = 0; i < 20 && can != 0 && a >= 0 && a < 10 && (can >> a & 1) == 0; i++) {
            a = number(0, 9);
        }
        return a;
    }

    private void call() {
        switch (random.nextInt(5)) {
            case 0: argueOrNot(); break;
            case 1: tellOrKeep(); break;
            case 2: askOfTrial(); break;
            case 3: askOfChains(); break;
            default: askOfPeople();
        }
    }

    private void argueOrNot() {
        int a = number(0, 9);
        switch (random.nextInt(12)) {
            case 0: case 1: case 2: case 3: case 4: case 5:
                int b = canCome();
                same("argue(" + b + ")", x.argue(b), y.argue(b));
                break;
            case 6: same("argue(" + a + ")", x.argue(a), y.argue(a)); break;
            case 7: same("drop()", x.drop(), y.drop()); break;
            case 8: case 9: same("strike(" + a + ")", x.strike(a), y.strike(a)); break;
            default: same("undo()", x.undo(), y.undo());
        }
    }

    private void tellOrKeep() {
        int letter = number(32, 126);
        switch (random.nextInt(12)) {
            case 0: same("write(" + letter + ")", x.write(letter), y.write(letter)); break;
            case 1: same("fault()", x.fault(), y.fault()); break;
            case 2: case 3: same("keep()", x.keep(), y.keep()); break;
            case 4: case 5: same("back()", x.back(), y.back()); break;
            case 6:
                if (random.nextInt(10) == 0) {
                    same("lay()", x.lay(), y.lay());
                }
                break;
            default:
                int what = number(0, 7);
                same("count(" + what + ")", x.count(what), y.count(what));
        }
    }

    private void askOfTrial() {
        int a = number(0, 9);
        int what = number(0, 5);
        int third = number(0, 2);
        switch (random.nextInt(4)) {
            case 0: same("statement(" + a + "," + what + ")", x.statement(a, what), y.statement(a, what)); break;
            case 1: same("argued(" + a + ")", x.argued(a), y.argued(a)); break;
            case 2: same("next()", x.next(), y.next()); break;
            default: same("trial(" + third + ")", x.trial(third), y.trial(third));
        }
    }

    private void askOfChains() {
        int v = verdict();
        int u = verdict();
        int k = number(-2, 9);
        int what = number(0, 1);
        switch (random.nextInt(8)) {
            case 0: same("chains(" + v + ")", x.chains(v), y.chains(v)); break;
            case 1: same("shortest(" + v + "," + k + ")", x.shortest(v, k), y.shortest(v, k)); break;
            case 2: same("nights(" + v + ")", x.nights(v), y.nights(v)); break;
            case 3: same("needed(" + v + ")", x.needed(v), y.needed(v)); break;
            case 4: same("forgotten()", x.forgotten(), y.forgotten()); break;
            case 5: same("both(" + u + "," + v + "," + what + ")", x.both(u, v, what), y.both(u, v, what)); break;
            case 6: same("byTurns(" + v + "," + what + ")", x.byTurns(v, what), y.byTurns(v, what)); break;
            default: same("days(" + v + ")", x.days(v), y.days(v));
        }
    }

    private void askOfPeople() {
        int v = verdict();
        int k = number(0, 9);
        int what = number(0, 1);
        int z = number(0, 9999);
        int chance = number(0, 10);
        switch (random.nextInt(6)) {
            case 0: same("who(" + k + ")", x.who(k), y.who(k)); break;
            case 1: same("fits(" + v + ")", x.fits(v), y.fits(v)); break;
            case 2: same("look(" + v + "," + what + ")", x.look(v, what), y.look(v, what)); break;
            case 3: same("laid(" + v + "," + k + ")", x.laid(v, k), y.laid(v, k)); break;
            case 4: same("odds(" + v + "," + chance + "," + what + ")", x.odds(v, chance, what), y.odds(v, chance, what)); break;
            default: same("trialBy(" + z + "," + v + "," + what + ")", x.trialBy(z, v, what), y.trialBy(z, v, what));
        }
    }
}
