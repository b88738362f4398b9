import java.math.BigInteger;
import java.util.ArrayDeque;
import java.util.ArrayList;
import java.util.Collections;
import java.util.Deque;
import java.util.HashSet;
import java.util.List;
import java.util.Set;
import java.util.TreeSet;
import java.util.regex.Matcher;
import java.util.regex.Pattern;

/**
 * The document once more, written from its words with lists and sets and nothing shared with the
 * class, so that a slip in the one is not in the other.
 */
final class Oracle {
    private static final int BAD = -1;
    private static final int NO = -2;
    private static final int FULL = -3;
    private static final int NONE = -4;
    private static final Pattern ITEM =
            Pattern.compile("([svrp])(\\d{1,2})(?:,(\\d{1,2}))?(?:,(\\d{1,2}))?;");

    /** What a text tells; fault is -1 where there is none. */
    private static final class Told {
        final List<int[]> statements = new ArrayList<>();
        final List<Set<Integer>> hangs = new ArrayList<>();
        final Set<Integer> verdicts = new TreeSet<>();
        final List<Set<Integer>> people = new ArrayList<>();
        int fault = -1;

        Told(String text) {
            Matcher m = ITEM.matcher(text);
            int place = 0;
            while (place < text.length()) {
                m.region(place, text.length());
                if (!m.lookingAt() || !take(m)) {
                    fault = place;
                    return;
                }
                place = m.end();
            }
        }

        private boolean take(Matcher m) {
            List<Integer> n = new ArrayList<>();
            for (int g = 2; g <= 4; g++) {
                if (m.group(g) != null) {
                    n.add(Integer.valueOf(m.group(g)));
                }
            }
            String letter = m.group(1);
            if (letter.equals("s")) {
                if (n.size() != 3 || n.get(0) > 4 || n.get(1) > 20 || n.get(2) > 20 || statements.size() == 10) {
                    return false;
                }
                statements.add(new int[] {n.get(0), n.get(1), n.get(2)});
                hangs.add(new TreeSet<>());
                return true;
            }
            for (int a : n) {
                if (a >= statements.size()) {
                    return false;
                }
            }
            if (letter.equals("v")) {
                return n.size() == 1 && !night(n.get(0)) && (verdicts.add(n.get(0)) || true);
            }
            if (n.size() != 2) {
                return false;
            }
            if (letter.equals("r")) {
                return !n.get(0).equals(n.get(1)) && !night(n.get(0)) && (hangs.get(n.get(0)).add(n.get(1)) || true);
            }
            return night(n.get(0)) && night(n.get(1)) && people.size() < 5 && people.add(new HashSet<>(n));
        }

        boolean night(int a) {
            return a >= 0 && a < statements.size() && statements.get(a)[0] == 4;
        }
    }

    private static final class State {
        final List<Integer> trial;
        final Set<Integer> struck;

        State(List<Integer> trial, Set<Integer> struck) {
            this.trial = new ArrayList<>(trial);
            this.struck = new TreeSet<>(struck);
        }
    }

    private String text = "";
    private Told laid;
    private List<Integer> trial = new ArrayList<>();
    private Set<Integer> struck = new TreeSet<>();
    private final Deque<State> past = new ArrayDeque<>();
    private final Deque<State> kept = new ArrayDeque<>();

    Oracle() {
        laid = new Told("s0,3,1;s1,2,2;s1,5,1;s2,4,3;s3,1,1;s4,0,0;s4,2,0;s2,3,2;v0;v7;r0,1;r0,2;r1,3;r2,3;r2,6;"
                + "r3,4;r4,5;r3,6;r7,2;r7,4;r1,0;p5,5;p5,6;");
    }

    // ---- the calls

    int write(int letter) {
        if (letter < 32 || letter > 126) {
            return BAD;
        }
        if (text.length() == 200) {
            return FULL;
        }
        text += (char) letter;
        return text.length();
    }

    int wipe() {
        int n = text.length();
        text = "";
        return n;
    }

    int fault() {
        int f = new Told(text).fault;
        return f < 0 ? NONE : f;
    }

    int lay() {
        Told t = new Told(text);
        if (t.fault >= 0 || t.verdicts.isEmpty()) {
            return NO;
        }
        laid = t;
        trial.clear();
        struck.clear();
        past.clear();
        kept.clear();
        return t.statements.size();
    }

    int statement(int a, int what) {
        if (!known(a) || what < 0 || what > 5) {
            return BAD;
        }
        if (what < 3) {
            return laid.statements.get(a)[what];
        }
        if (what == 3) {
            return laid.verdicts.contains(a) ? 1 : 0;
        }
        return what == 4 ? bits(laid.hangs.get(a)) : struck.contains(a) ? 1 : 0;
    }

    int argue(int a) {
        if (!known(a)) {
            return BAD;
        }
        if (!canCome(trial).contains(a)) {
            return NO;
        }
        remember();
        trial.add(a);
        return trial.size();
    }

    int drop() {
        remember();
        int n = trial.size();
        trial.clear();
        return n;
    }

    int strike(int a) {
        if (!known(a)) {
            return BAD;
        }
        if (trial.contains(a)) {
            return NO;
        }
        remember();
        if (struck.remove(a)) {
            return 0;
        }
        struck.add(a);
        return 1;
    }

    int undo() {
        if (past.isEmpty()) {
            return NO;
        }
        restore(past.removeLast());
        return past.size();
    }

    int argued(int k) {
        return k < 0 || k >= trial.size() ? BAD : trial.get(k);
    }

    int next() {
        return bits(canCome(trial));
    }

    int trial(int what) {
        boolean ended = !trial.isEmpty() && laid.night(trial.get(trial.size() - 1));
        switch (what) {
            case 0: return cost(trial);
            case 1: return ended ? 1 : 0;
            case 2: return !trial.isEmpty() && !ended && canCome(trial).isEmpty() ? 1 : 0;
            default: return BAD;
        }
    }

    int chains(int v) {
        return verdict(v) ? whole(v).size() : BAD;
    }

    int shortest(int v, int k) {
        if (!verdict(v) || k < -2) {
            return BAD;
        }
        List<Integer> s = shortestOf(v);
        if (s == null) {
            return NONE;
        }
        if (k == -2) {
            return cost(s);
        }
        return k == -1 ? s.size() : k < s.size() ? s.get(k) : NONE;
    }

    int nights(int v) {
        return verdict(v) ? bits(ends(v)) : BAD;
    }

    int needed(int v) {
        if (!verdict(v)) {
            return BAD;
        }
        Set<Integer> all = new TreeSet<>();
        List<List<Integer>> chains = whole(v);
        if (!chains.isEmpty()) {
            all.addAll(chains.get(0));
            for (List<Integer> c : chains) {
                all.retainAll(c);
            }
        }
        return bits(all);
    }

    int forgotten() {
        Set<Integer> lost = new TreeSet<>();
        for (int a = 0; a < laid.statements.size(); a++) {
            lost.add(a);
        }
        lost.removeAll(struck);
        for (int v : laid.verdicts) {
            for (List<Integer> c : whole(v)) {
                lost.removeAll(c);
            }
        }
        return bits(lost);
    }

    int both(int u, int v, int what) {
        if (!verdict(u) || !verdict(v) || what < 0 || what > 1) {
            return BAD;
        }
        int night = NONE;
        int least = Integer.MAX_VALUE;
        for (List<Integer> c : whole(u)) {
            for (List<Integer> d : whole(v)) {
                int n = c.get(c.size() - 1);
                int sum = cost(c) + cost(d);
                if (n == d.get(d.size() - 1) && (sum < least || sum == least && n < night)) {
                    night = n;
                    least = sum;
                }
            }
        }
        return night == NONE ? NONE : what == 0 ? night : least;
    }

    int byTurns(int v, int what) {
        if (!verdict(v) || what < 0 || what > 1) {
            return BAD;
        }
        if (!struck.contains(v)) {
            for (int b : canCome(List.of(v))) {
                if (firstBringsIt(List.of(v, b))) {
                    return what == 0 ? 1 : b;
                }
            }
        }
        return what == 0 ? 0 : NONE;
    }

    int days(int v) {
        if (!verdict(v)) {
            return BAD;
        }
        int fewest = Integer.MAX_VALUE;
        for (List<Integer> c : whole(v)) {
            fewest = Math.min(fewest, daysOf(c));
        }
        return fewest == Integer.MAX_VALUE ? NONE : fewest;
    }

    int who(int night) {
        return laid.night(night) ? bits(doers(night)) : BAD;
    }

    int fits(int v) {
        return verdict(v) ? bits(fitting(v)) : BAD;
    }

    int look(int v, int what) {
        if (!verdict(v) || what < 0 || what > 1) {
            return BAD;
        }
        List<Integer> ends = new ArrayList<>(ends(v));
        if (ends.isEmpty()) {
            return NONE;
        }
        int best = Collections.max(ends, (a, b) -> doers(a).size() != doers(b).size()
                ? doers(a).size() - doers(b).size() : b - a);
        return what == 0 ? best : doers(best).size();
    }

    int laid(int v, int k) {
        if (!verdict(v) || k < 0) {
            return BAD;
        }
        List<Integer> s = shortestOf(v);
        return s == null || k >= s.size() ? NONE : daysOf(s.subList(0, k + 1));
    }

    int odds(int v, int x, int part) {
        if (!verdict(v) || x < 0 || x > 10 || part < 0 || part > 1) {
            return BAD;
        }
        int n = fitting(v).size();
        BigInteger below = BigInteger.TEN.pow(n);
        BigInteger above = below.subtract(BigInteger.valueOf(10 - x).pow(n));
        BigInteger g = above.gcd(below);
        return (part == 0 ? above : below).divide(g).intValue();
    }

    int trialBy(int z, int v, int what) {
        if (z < 0 || z > 9999 || !verdict(v) || what < 0 || what > 1) {
            return BAD;
        }
        List<Integer> c = new ArrayList<>(List.of(v));
        List<Integer> can = new ArrayList<>(struck.contains(v) ? Set.of() : canCome(c));
        while (!can.isEmpty()) {
            BigInteger q = BigInteger.valueOf(7919L * z + 6151L * c.size() + 1);
            int draw = q.multiply(q).mod(BigInteger.valueOf(65521)).intValue() / 4;
            c.add(can.get(draw % can.size()));
            can = new ArrayList<>(canCome(c));
        }
        int last = c.get(c.size() - 1);
        return what == 0 ? c.size() : laid.night(last) ? last : NONE;
    }

    int keep() {
        if (kept.size() == 2) {
            return FULL;
        }
        kept.addLast(new State(trial, struck));
        return kept.size();
    }

    int back() {
        if (kept.isEmpty()) {
            return NO;
        }
        restore(kept.removeLast());
        past.clear();
        return kept.size();
    }

    int count(int what) {
        switch (what) {
            case 0: return laid.statements.size();
            case 1: return laid.verdicts.size();
            case 2: return laid.people.size();
            case 3: return trial.size();
            case 4: return struck.size();
            case 5: return past.size();
            case 6: return kept.size();
            case 7: return text.length();
            default: return BAD;
        }
    }

    // ---- what they mean

    private boolean known(int a) {
        return a >= 0 && a < laid.statements.size();
    }

    private boolean verdict(int v) {
        return laid.verdicts.contains(v);
    }

    private void remember() {
        past.addLast(new State(trial, struck));
        if (past.size() > 8) {
            past.removeFirst();
        }
    }

    private void restore(State s) {
        trial = new ArrayList<>(s.trial);
        struck = new TreeSet<>(s.struck);
    }

    private static int bits(Iterable<Integer> all) {
        int b = 0;
        for (int a : all) {
            b += 1 << a;
        }
        return b;
    }

    private Set<Integer> canCome(List<Integer> chain) {
        Set<Integer> can = new TreeSet<>(chain.isEmpty()
                ? laid.verdicts : laid.hangs.get(chain.get(chain.size() - 1)));
        can.removeAll(chain);
        can.removeAll(struck);
        return can;
    }

    private int cost(List<Integer> chain) {
        int sum = 0;
        for (int i = 0; i < chain.size(); i++) {
            int[] s = laid.statements.get(chain.get(i));
            switch (s[0]) {
                case 1:
                    sum += s[1] + (i > 0 && laid.statements.get(chain.get(i - 1))[0] == 1 ? 2 : 0);
                    break;
                case 2:
                    sum += s[1] + s[1];
                    break;
                case 3:
                    sum += s[1] + i;
                    break;
                default:
                    sum += s[1];
            }
        }
        return sum;
    }

    private int daysOf(List<Integer> chain) {
        return chain.stream().mapToInt(a -> laid.statements.get(a)[2]).sum();
    }

    /** Grown breadth first: all rows of one length, then all that are longer by one. */
    private List<List<Integer>> whole(int v) {
        List<List<Integer>> ended = new ArrayList<>();
        List<List<Integer>> growing = new ArrayList<>();
        if (!struck.contains(v)) {
            growing.add(List.of(v));
        }
        while (!growing.isEmpty()) {
            List<List<Integer>> longer = new ArrayList<>();
            for (List<Integer> c : growing) {
                if (laid.night(c.get(c.size() - 1))) {
                    ended.add(c);
                }
                for (int b : canCome(c)) {
                    List<Integer> d = new ArrayList<>(c);
                    d.add(b);
                    longer.add(d);
                }
            }
            growing = longer;
        }
        return ended;
    }

    private List<Integer> shortestOf(int v) {
        return whole(v).stream().min((c, d) -> {
            int by = Integer.compare(cost(c), cost(d));
            by = by != 0 ? by : Integer.compare(c.size(), d.size());
            for (int i = 0; by == 0 && i < c.size(); i++) {
                by = Integer.compare(c.get(i), d.get(i));
            }
            return by;
        }).orElse(null);
    }

    private Set<Integer> ends(int v) {
        Set<Integer> ends = new TreeSet<>();
        for (List<Integer> c : whole(v)) {
            ends.add(c.get(c.size() - 1));
        }
        return ends;
    }

    private Set<Integer> doers(int night) {
        Set<Integer> who = new TreeSet<>();
        for (int p = 0; p < laid.people.size(); p++) {
            if (laid.people.get(p).contains(night)) {
                who.add(p);
            }
        }
        return who;
    }

    private Set<Integer> fitting(int v) {
        Set<Integer> who = new TreeSet<>();
        for (int night : ends(v)) {
            who.addAll(doers(night));
        }
        return who;
    }

    private boolean firstBringsIt(List<Integer> chain) {
        int last = chain.get(chain.size() - 1);
        if (laid.night(last)) {
            return !doers(last).isEmpty();
        }
        List<Boolean> outcomes = new ArrayList<>();
        for (int b : canCome(chain)) {
            List<Integer> longer = new ArrayList<>(chain);
            longer.add(b);
            outcomes.add(firstBringsIt(longer));
        }
        boolean firstSpeaks = chain.size() % 2 == 1;
        return !outcomes.isEmpty() && (firstSpeaks ? outcomes.contains(true) : !outcomes.contains(false));
    }
}
