import java.util.ArrayList;
import java.util.List;

/**
 * One object under test. Calls are told as texts ("argue(0) strike(4)"), counted, and remembered, so
 * that the same object can be made once more: of two twins one gets a call that is to be refused,
 * and both are looked through then, what can be UNDONE, what is KEPT and THE TEXT, too.
 */
final class Talk {
    private static final int MOST_CALLS = 512;
    private static final int BAD = -1;
    private static final String[] REFUSED = {"?", "BAD", "NO", "FULL", "NONE"};

    private record Call(String name, int[] numbers) {
        int number(int i) {
            return numbers[i];
        }

        String told() {
            StringBuilder text = new StringBuilder(name).append('(');
            for (int i = 0; i < numbers.length; i++) {
                text.append(i > 0 ? "," : "").append(numbers[i]);
            }
            return text.append(')').toString();
        }
    }

    private final Sentence sentence;
    private final HeardBackward x = new HeardBackward();
    private final List<Call> history = new ArrayList<>();
    private int calls;

    Talk(Sentence sentence) {
        this.sentence = sentence;
    }

    // ---- what a test says

    /** The letters of a text, one by one; each is to come in. */
    Talk writes(String text) {
        for (int i = 0; i < text.length(); i++) {
            does("write(" + (int) text.charAt(i) + ")");
        }
        return this;
    }

    Talk lays(String text) {
        return does("wipe()").writes(text).does("lay()");
    }

    /** Calls parted by blanks, none of which is to be refused. */
    Talk does(String told) {
        for (String one : told.trim().split("\\s+")) {
            Call call = read(one);
            int got = ask(call);
            history.add(call);
            if (got < 0) {
                sentence.holds(said(call) + " answered " + got + ", and was to be taken", false);
            }
        }
        return this;
    }

    /** Calls with the answers that are due: "chains(0)=5 shortest(0,9)=NONE". */
    Talk due(String table) {
        for (String one : table.trim().split("\\s+")) {
            due(one.substring(0, one.indexOf('=')), answer(one));
        }
        return this;
    }

    Talk due(String told, int want) {
        Call call = read(told);
        int got = ask(call);
        history.add(call);
        if (want < 0) {
            sentence.refusal(call.name() + " " + REFUSED[-want]);
        }
        sentence.holds(said(call) + " answered " + got + ", due is " + want, got == want);
        return this;
    }

    /** As due; and what is told, argued, STRUCK OUT, UNDONE, KEPT, written is as before each of them. */
    Talk refused(String table) {
        for (String one : table.trim().split("\\s+")) {
            refused(one.substring(0, one.indexOf('=')), answer(one));
        }
        return this;
    }

    private void refused(String told, int want) {
        Call call = read(told);
        int got = ask(call);
        sentence.refusal(call.name() + " " + REFUSED[-want]);
        sentence.holds(said(call) + " answered " + got + ", due is " + want, got == want);
        changesNothing(call);
    }

    private static int answer(String one) {
        String told = one.substring(one.indexOf('=') + 1);
        for (int i = 1; i < REFUSED.length; i++) {
            if (told.equals(REFUSED[i])) {
                return -i;
            }
        }
        return Integer.parseInt(told);
    }

    /** What is asked changes nothing, whatever the answer is. */
    Talk asks(String told) {
        Call call = read(told);
        ask(call);
        changesNothing(call);
        return this;
    }

    /** Refused with BAD for what is below the lowest and above the highest; # is the place of the number. */
    Talk outside(String told, int lowest, int highest) {
        long[] wrong = {lowest - 1L, highest + 1L, lowest - 2L, highest + 2L, lowest - 32L, highest + 32L, lowest + 32L,
            lowest + 64L, highest + 256L, lowest + 65536L, Integer.MIN_VALUE, Integer.MAX_VALUE,
            Integer.MIN_VALUE + 1L + highest, Integer.MIN_VALUE + (long) lowest};
        for (long number : wrong) {
            if (number < lowest && number >= Integer.MIN_VALUE || number > highest && number <= Integer.MAX_VALUE) {
                refused(told.replace("#", Long.toString(number)), BAD);
            }
        }
        return this;
    }

    Talk callsAre(int want) {
        sentence.holds("the calls are " + calls + ", not " + want, calls == want);
        return this;
    }

    int calls() {
        return calls;
    }

    int ask(String told) {
        Call call = read(told);
        history.add(call);
        return ask(call);
    }

    // ---- twins

    private void changesNothing(Call call) {
        for (int probe = 0; probe < 4; probe++) {
            Talk plain = again();
            Talk tried = again();
            tried.ask(call);
            String before = plain.probed(probe);
            String after = tried.probed(probe);
            sentence.holds(said(call) + " changed something: " + difference(before, after), before.equals(after));
        }
    }

    private Talk again() {
        Talk other = new Talk(sentence);
        for (Call call : history) {
            other.ask(call);
            other.history.add(call);
        }
        return other;
    }

    private String probed(int probe) {
        StringBuilder seen = new StringBuilder();
        switch (probe) {
            case 0:
                lookThrough(seen);
                break;
            case 1:
                for (int i = 0; i < 9; i++) {
                    lookAtTrial(seen, "undo()");
                }
                break;
            case 2:
                for (int i = 0; i < 3; i++) {
                    lookAtTrial(seen, "back()");
                }
                break;
            default:
                see(seen, "fault()");
                see(seen, "write(59)");
                see(seen, "fault()");
                see(seen, "lay()");
                lookThrough(seen);
        }
        return seen.toString();
    }

    private void lookThrough(StringBuilder seen) {
        for (int what = 0; what < 8; what++) {
            see(seen, "count(" + what + ")");
        }
        for (int a = 0; a < Math.min(x.count(0), 10); a++) {
            for (int what = 0; what < 6; what++) {
                see(seen, "statement(" + a + "," + what + ")");
            }
            see(seen, "who(" + a + ")");
        }
        see(seen, "next()");
        see(seen, "fault()");
        for (int what = 0; what < 3; what++) {
            see(seen, "trial(" + what + ")");
        }
        see(seen, "forgotten()");
        lookAtTrial(seen, "count(3)");
    }

    private void lookAtTrial(StringBuilder seen, String behind) {
        see(seen, behind);
        for (int k = 0; k < Math.min(x.count(3), 10); k++) {
            see(seen, "argued(" + k + ")");
        }
        for (int a = 0; a < Math.min(x.count(0), 10); a++) {
            see(seen, "statement(" + a + ",5)");
        }
        see(seen, "count(5)");
    }

    private void see(StringBuilder seen, String told) {
        seen.append(told).append('=').append(ask(read(told))).append(' ');
    }

    private static String difference(String before, String after) {
        String[] one = before.split(" ");
        String[] other = after.split(" ");
        for (int i = 0; i < Math.min(one.length, other.length); i++) {
            if (!one[i].equals(other[i])) {
                return one[i] + ", then " + other[i];
            }
        }
        return one.length + " answers, then " + other.length;
    }

    // ---- calls as texts

    private String said(Call last) {
        StringBuilder text = new StringBuilder();
        int from = Math.max(0, history.size() - 12);
        for (Call call : history.subList(from, history.size())) {
            text.append(call.told()).append(' ');
        }
        boolean there = !history.isEmpty() && history.get(history.size() - 1) == last;
        return there ? text.toString().trim() : text.append(last.told()).toString();
    }

    private static Call read(String told) {
        int open = told.indexOf('(');
        String inside = told.substring(open + 1, told.length() - 1).trim();
        String[] parted = inside.isEmpty() ? new String[0] : inside.split("\\s*,\\s*");
        int[] numbers = new int[parted.length];
        for (int i = 0; i < parted.length; i++) {
            numbers[i] = Integer.parseInt(parted[i]);
        }
        return new Call(told.substring(0, open), numbers);
    }

    private int ask(Call c) {
        calls++;
        if (calls > MOST_CALLS) {
            throw new IllegalStateException("the test's own fault: more than 512 calls: " + said(c));
        }
        switch (c.name()) {
            case "write": return x.write(c.number(0));
            case "wipe": return x.wipe();
            case "fault": return x.fault();
            case "lay": return x.lay();
            case "statement": return x.statement(c.number(0), c.number(1));
            case "argue": return x.argue(c.number(0));
            case "drop": return x.drop();
            case "strike": return x.strike(c.number(0));
            case "undo": return x.undo();
            case "argued": return x.argued(c.number(0));
            case "next": return x.next();
            case "trial": return x.trial(c.number(0));
            case "keep": return x.keep();
            case "back": return x.back();
            case "count": return x.count(c.number(0));
            default: return askOfVerdict(c);
        }
    }

    private int askOfVerdict(Call c) {
        switch (c.name()) {
            case "chains": return x.chains(c.number(0));
            case "shortest": return x.shortest(c.number(0), c.number(1));
            case "nights": return x.nights(c.number(0));
            case "needed": return x.needed(c.number(0));
            case "forgotten": return x.forgotten();
            case "both": return x.both(c.number(0), c.number(1), c.number(2));
            case "byTurns": return x.byTurns(c.number(0), c.number(1));
            case "days": return x.days(c.number(0));
            case "who": return x.who(c.number(0));
            case "fits": return x.fits(c.number(0));
            case "look": return x.look(c.number(0), c.number(1));
            case "laid": return x.laid(c.number(0), c.number(1));
            case "odds": return x.odds(c.number(0), c.number(1), c.number(2));
            case "trialBy": return x.trialBy(c.number(0), c.number(1), c.number(2));
            default: throw new IllegalStateException("the test's own fault: no such call: " + c.name());
        }
    }
}
