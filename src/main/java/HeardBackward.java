/**
 * A trial heard backward: the verdict is given first, and the two sides argue from it, statement
 * by statement, until a night is reached that somebody could have done.
 *
 * <p>Words in capitals in the comments are those of the document. Sets of statements and of people
 * are kept as bits, and every row is made once, in a constructor, so that no call makes anything.
 */
public final class HeardBackward {
    public static final int BAD = -1, NO = -2, FULL = -3, NONE = -4;

    private static final int WITNESS = 1;
    private static final int CLUE = 2;
    private static final int ARREST = 3;
    private static final int NIGHT = 4;

    private static final int MOST_LETTERS = 200;
    private static final int MOST_NUMBERS = 3;
    private static final int MOST_STATEMENTS = 10;
    private static final int MOST_PEOPLE = 5;
    private static final int MOST_TOLD = 20;
    private static final int MOST_UNDONE = 8;
    private static final int MOST_KEPT = 2;

    private static final int LOWEST_LETTER = 32;
    private static final int HIGHEST_LETTER = 126;
    private static final int HIGHEST_CASE = 9999;
    private static final int FULL_CHANCE = 10;
    private static final int MOST_DIVISIONS = 100;

    private static final String FIRST_TEXT =
            "s0,3,1;s1,2,2;s1,5,1;s2,4,3;s3,1,1;s4,0,0;s4,2,0;s2,3,2;v0;v7;r0,1;r0,2;r1,3;r2,3;r2,6;r3,4;r4,5;r3,6;r7,2;r7,4;r1,0;p5,5;p5,6;";

    private final Script script;
    private final Reader reader;
    private final Court court;
    private final Court read;
    private final Hearing hearing;
    private final Shelf past;
    private final Shelf shelf;
    private final Survey survey;
    private final Survey secondSurvey;

    public HeardBackward() {
        script = new Script();
        reader = new Reader();
        court = new Court();
        read = new Court();
        hearing = new Hearing();
        past = new Shelf(MOST_UNDONE);
        shelf = new Shelf(MOST_KEPT);
        survey = new Survey();
        secondSurvey = new Survey();
        script.addAll(FIRST_TEXT);
        reader.readAll(script, court);
        script.clear();
    }

    // ---- courts

    public int write(int letter) {
        if (outside(letter, LOWEST_LETTER, HIGHEST_LETTER)) {
            return BAD;
        }
        return script.add(letter) ? script.length : FULL;
    }

    public int wipe() {
        int had = script.length;
        script.clear();
        return had;
    }

    public int fault() {
        return reader.readAll(script, read);
    }

    public int lay() {
        if (reader.readAll(script, read) != NONE || read.verdicts == 0) {
            return NO;
        }
        court.copyFrom(read);
        hearing.clear();
        past.clear();
        shelf.clear();
        return court.size;
    }

    public int statement(int a, int what) {
        if (!court.isStatement(a)) {
            return BAD;
        }
        switch (what) {
            case 0:
                return at(court.kinds, a);
            case 1:
                return at(court.costs, a);
            case 2:
                return at(court.spans, a);
            case 3:
                return asNumber(court.isVerdict(a));
            case 4:
                return at(court.hangs, a);
            case 5:
                return asNumber(has(hearing.struck, a));
            default:
                return BAD;
        }
    }

    // ---- a trial

    public int argue(int a) {
        if (!court.isStatement(a)) {
            return BAD;
        }
        if (!has(hearing.open(court), a)) {
            return NO;
        }
        past.add(hearing);
        hearing.add(a);
        return hearing.length;
    }

    public int drop() {
        int had = hearing.length;
        past.add(hearing);
        hearing.length = 0;
        return had;
    }

    public int strike(int a) {
        if (!court.isStatement(a)) {
            return BAD;
        }
        if (has(hearing.members(), a)) {
            return NO;
        }
        past.add(hearing);
        hearing.struck ^= bit(a);
        return asNumber(has(hearing.struck, a));
    }

    public int undo() {
        return past.takeLatest(hearing) ? past.size : NO;
    }

    public int argued(int k) {
        return outside(k, 0, hearing.length - 1) ? BAD : at(hearing.row, k);
    }

    public int next() {
        return hearing.open(court);
    }

    public int trial(int what) {
        switch (what) {
            case 0:
                return court.costOf(hearing.row, hearing.length);
            case 1:
                return asNumber(hearing.isEnded(court));
            case 2:
                return asNumber(hearing.isStuck(court));
            default:
                return BAD;
        }
    }

    // ---- chains

    public int chains(int v) {
        if (!court.isVerdict(v)) {
            return BAD;
        }
        survey.walkAll(court, v, hearing.struck);
        return survey.found;
    }

    public int shortest(int v, int k) {
        if (!court.isVerdict(v) || k < -2) {
            return BAD;
        }
        survey.walkAll(court, v, hearing.struck);
        if (survey.found == 0) {
            return NONE;
        }
        if (k == -2) {
            return survey.bestCost;
        }
        if (k == -1) {
            return survey.bestLength;
        }
        return k < survey.bestLength ? at(survey.best, k) : NONE;
    }

    public int nights(int v) {
        if (!court.isVerdict(v)) {
            return BAD;
        }
        survey.walkAll(court, v, hearing.struck);
        return survey.ends;
    }

    public int needed(int v) {
        if (!court.isVerdict(v)) {
            return BAD;
        }
        survey.walkAll(court, v, hearing.struck);
        return survey.common;
    }

    public int forgotten() {
        int told = 0;
        for (int v = 0; v < MOST_STATEMENTS; v++) {
            if (court.isVerdict(v)) {
                survey.walkAll(court, v, hearing.struck);
                told |= survey.told;
            }
        }
        return court.all() & ~hearing.struck & ~told;
    }

    public int both(int u, int v, int what) {
        if (!court.isVerdict(u) || !court.isVerdict(v) || outside(what, 0, 1)) {
            return BAD;
        }
        survey.walkAll(court, u, hearing.struck);
        secondSurvey.walkAll(court, v, hearing.struck);
        int night = NONE;
        int least = NONE;
        for (int a = 0; a < MOST_STATEMENTS; a++) {
            if (has(survey.ends & secondSurvey.ends, a)) {
                int cost = at(survey.leastTo, a) + at(secondSurvey.leastTo, a);
                if (night == NONE || cost < least) {
                    night = a;
                    least = cost;
                }
            }
        }
        return what == 0 ? night : least;
    }

    public int byTurns(int v, int what) {
        if (!court.isVerdict(v) || outside(what, 0, 1)) {
            return BAD;
        }
        int opening = winningOpening(v);
        return what == 0 ? asNumber(opening != NONE) : opening;
    }

    public int days(int v) {
        if (!court.isVerdict(v)) {
            return BAD;
        }
        survey.walkAll(court, v, hearing.struck);
        return survey.found == 0 ? NONE : survey.fewestDays;
    }

    // ---- people

    public int who(int night) {
        return court.isNight(night) ? court.doers(night) : BAD;
    }

    public int fits(int v) {
        return court.isVerdict(v) ? fittingPeople(v) : BAD;
    }

    public int look(int v, int what) {
        if (!court.isVerdict(v) || outside(what, 0, 1)) {
            return BAD;
        }
        survey.walkAll(court, v, hearing.struck);
        int night = NONE;
        int most = NONE;
        for (int a = 0; a < MOST_STATEMENTS; a++) {
            int people = Integer.bitCount(court.doers(a));
            if (has(survey.ends, a) && (night == NONE || people > most)) {
                night = a;
                most = people;
            }
        }
        return what == 0 ? night : most;
    }

    public int laid(int v, int k) {
        if (!court.isVerdict(v) || k < 0) {
            return BAD;
        }
        survey.walkAll(court, v, hearing.struck);
        if (survey.found == 0 || k >= survey.bestLength) {
            return NONE;
        }
        return court.daysOf(survey.best, k + 1);
    }

    public int odds(int v, int x, int part) {
        if (!court.isVerdict(v) || outside(x, 0, FULL_CHANCE) || outside(part, 0, 1)) {
            return BAD;
        }
        int people = Integer.bitCount(fittingPeople(v));
        int below = 1;
        int nobodyThere = 1;
        for (int p = 0; p < people; p++) {
            below *= FULL_CHANCE;
            nobodyThere *= FULL_CHANCE - x;
        }
        int above = below - nobodyThere;
        int shared = commonDivisor(above, below);
        if (shared == 0) {
            return BAD;
        }
        return part == 0 ? above / shared : below / shared;
    }

    public int trialBy(int z, int v, int what) {
        if (outside(z, 0, HIGHEST_CASE) || !court.isVerdict(v) || outside(what, 0, 1)) {
            return BAD;
        }
        int most = has(hearing.struck, v) ? 1 : MOST_STATEMENTS;
        int chain = bit(v);
        int last = v;
        int length = 1;
        while (length < most) {
            int open = openBehind(court, last, chain, hearing.struck);
            int choices = Integer.bitCount(open);
            if (choices == 0) {
                break;
            }
            last = bitByRank(open, draw(z, length) % choices);
            chain |= bit(last);
            length++;
        }
        if (what == 0) {
            return length;
        }
        return court.isNight(last) ? last : NONE;
    }

    // ---- kept

    public int keep() {
        if (shelf.size >= MOST_KEPT) {
            return FULL;
        }
        shelf.add(hearing);
        return shelf.size;
    }

    public int back() {
        if (!shelf.takeLatest(hearing)) {
            return NO;
        }
        past.clear();
        return shelf.size;
    }

    public int count(int what) {
        switch (what) {
            case 0:
                return court.size;
            case 1:
                return Integer.bitCount(court.verdicts);
            case 2:
                return court.people;
            case 3:
                return hearing.length;
            case 4:
                return Integer.bitCount(hearing.struck);
            case 5:
                return past.size;
            case 6:
                return shelf.size;
            case 7:
                return script.length;
            default:
                return BAD;
        }
    }

    // ---- what several calls need

    private int fittingPeople(int v) {
        survey.walkAll(court, v, hearing.struck);
        int people = 0;
        for (int a = 0; a < MOST_STATEMENTS; a++) {
            if (has(survey.ends, a)) {
                people |= court.doers(a);
            }
        }
        return people;
    }

    private int winningOpening(int v) {
        if (has(hearing.struck, v)) {
            return NONE;
        }
        int open = openBehind(court, v, bit(v), hearing.struck);
        for (int b = 0; b < MOST_STATEMENTS; b++) {
            if (has(open, b) && isWon(court, hearing.struck, bit(v) | bit(b), b, 2)) {
                return b;
            }
        }
        return NONE;
    }

    /** Whether the first side can bring it to its end; whose turn it is follows from the length. */
    private static boolean isWon(Court court, int struck, int chain, int last, int length) {
        if (court.isNight(last)) {
            return court.doers(last) != 0;
        }
        int open = openBehind(court, last, chain, struck);
        if (open == 0 || length >= MOST_STATEMENTS) {
            return false;
        }
        boolean firstSpeaks = length % 2 == 1;
        for (int b = 0; b < MOST_STATEMENTS; b++) {
            if (has(open, b)
                    && isWon(court, struck, chain | bit(b), b, length + 1) == firstSpeaks) {
                return firstSpeaks;
            }
        }
        return !firstSpeaks;
    }

    private static int openBehind(Court court, int last, int chain, int struck) {
        return at(court.hangs, last) & ~chain & ~struck;
    }

    private static int draw(int z, int length) {
        long q = 7919L * z + 6151L * length + 1L;
        return (int) (q * q % 65521L / 4L);
    }

    private static int bitByRank(int bits, int rank) {
        int lower = 0;
        for (int a = 0; a < MOST_STATEMENTS; a++) {
            if (has(bits, a)) {
                if (lower == rank) {
                    return a;
                }
                lower++;
            }
        }
        return NONE;
    }

    private static int commonDivisor(int one, int other) {
        int larger = Math.max(one, other);
        int smaller = Math.min(one, other);
        for (int i = 0; i < MOST_DIVISIONS && smaller > 0; i++) {
            int rest = larger % smaller;
            larger = smaller;
            smaller = rest;
        }
        return larger;
    }

    private static boolean outside(int number, int lowest, int highest) {
        return number < lowest || number > highest;
    }

    private static int asNumber(boolean yes) {
        return yes ? 1 : 0;
    }

    private static int bit(int a) {
        return a >= 0 && a < MOST_STATEMENTS ? 1 << a : 0;
    }

    private static boolean has(int bits, int a) {
        return a >= 0 && a < MOST_STATEMENTS && (bits >> a & 1) == 1;
    }

    private static int at(int[] row, int place) {
        return place >= 0 && place < row.length ? row[place] : 0;
    }

    private static void put(int[] row, int place, int value) {
        if (place >= 0 && place < row.length) {
            row[place] = value;
        }
    }

    /** THE TEXT. */
    private static final class Script {
        private final int[] letters = new int[MOST_LETTERS];
        private int length;

        private boolean add(int letter) {
            if (length >= MOST_LETTERS) {
                return false;
            }
            put(letters, length, letter);
            length++;
            return true;
        }

        private void addAll(String text) {
            for (int i = 0; i < text.length(); i++) {
                add(text.charAt(i));
            }
        }

        private void clear() {
            length = 0;
        }

        private int letterAt(int place) {
            return place < length ? at(letters, place) : NONE;
        }
    }

    /** Reads a script into a court, ITEM by ITEM, up to the first FAULT. */
    private static final class Reader {
        private final int[] numbers = new int[MOST_NUMBERS];
        private int amount;

        private int readAll(Script script, Court court) {
            court.clear();
            int start = 0;
            for (int items = 0; items < MOST_LETTERS && start < script.length; items++) {
                int end = readNumbers(script, start + 1);
                if (end == NONE || !tell(script.letterAt(start), court)) {
                    return start;
                }
                start = end;
            }
            return NONE;
        }

        /** The place behind the ITEM's last sign; NONE if its numbers are not formed as they should be. */
        private int readNumbers(Script script, int start) {
            int place = start;
            for (int i = 0; i < MOST_NUMBERS; i++) {
                int figures = figuresFrom(script, place);
                put(numbers, i, numberFrom(script, place, figures));
                amount = i + 1;
                int sign = script.letterAt(place + figures);
                if (figures == 0 || sign != ',' && sign != ';') {
                    return NONE;
                }
                place += figures + 1;
                if (sign == ';') {
                    return place;
                }
            }
            return NONE;
        }

        private static int figuresFrom(Script script, int place) {
            if (!isFigure(script.letterAt(place))) {
                return 0;
            }
            return isFigure(script.letterAt(place + 1)) ? 2 : 1;
        }

        private static int numberFrom(Script script, int place, int figures) {
            int number = 0;
            for (int i = 0; i < figures; i++) {
                number = number * 10 + script.letterAt(place + i) - '0';
            }
            return number;
        }

        private static boolean isFigure(int letter) {
            return letter >= '0' && letter <= '9';
        }

        private boolean tell(int letter, Court court) {
            int one = at(numbers, 0);
            int two = at(numbers, 1);
            int three = at(numbers, 2);
            switch (letter) {
                case 's':
                    return amount == 3 && court.addStatement(one, two, three);
                case 'v':
                    return amount == 1 && court.addVerdict(one);
                case 'r':
                    return amount == 2 && court.addHang(one, two);
                case 'p':
                    return amount == 2 && court.addPerson(one, two);
                default:
                    return false;
            }
        }
    }

    /** What a text tells: STATEMENTS, VERDICTS, what HANGS on what, PERSONS. */
    private static final class Court {
        private final int[] kinds = new int[MOST_STATEMENTS];
        private final int[] costs = new int[MOST_STATEMENTS];
        private final int[] spans = new int[MOST_STATEMENTS];
        private final int[] hangs = new int[MOST_STATEMENTS];
        private final int[] deeds = new int[MOST_PEOPLE];
        private int size;
        private int verdicts;
        private int people;

        private void clear() {
            size = 0;
            verdicts = 0;
            people = 0;
        }

        private void copyFrom(Court other) {
            System.arraycopy(other.kinds, 0, kinds, 0, MOST_STATEMENTS);
            System.arraycopy(other.costs, 0, costs, 0, MOST_STATEMENTS);
            System.arraycopy(other.spans, 0, spans, 0, MOST_STATEMENTS);
            System.arraycopy(other.hangs, 0, hangs, 0, MOST_STATEMENTS);
            System.arraycopy(other.deeds, 0, deeds, 0, MOST_PEOPLE);
            size = other.size;
            verdicts = other.verdicts;
            people = other.people;
        }

        private boolean addStatement(int kind, int cost, int span) {
            if (size >= MOST_STATEMENTS || outside(kind, 0, NIGHT)
                    || outside(cost, 0, MOST_TOLD) || outside(span, 0, MOST_TOLD)) {
                return false;
            }
            put(kinds, size, kind);
            put(costs, size, cost);
            put(spans, size, span);
            put(hangs, size, 0);
            size++;
            return true;
        }

        private boolean addVerdict(int a) {
            if (!isStatement(a) || isNight(a)) {
                return false;
            }
            verdicts |= bit(a);
            return true;
        }

        private boolean addHang(int a, int b) {
            if (!isStatement(a) || !isStatement(b) || a == b || isNight(a)) {
                return false;
            }
            put(hangs, a, at(hangs, a) | bit(b));
            return true;
        }

        private boolean addPerson(int a, int b) {
            if (people >= MOST_PEOPLE || !isNight(a) || !isNight(b)) {
                return false;
            }
            put(deeds, people, bit(a) | bit(b));
            people++;
            return true;
        }

        private boolean isStatement(int a) {
            return a >= 0 && a < size;
        }

        private boolean isNight(int a) {
            return isStatement(a) && at(kinds, a) == NIGHT;
        }

        private boolean isVerdict(int a) {
            return isStatement(a) && has(verdicts, a);
        }

        private int all() {
            return (1 << size) - 1;
        }

        private int doers(int night) {
            int doing = 0;
            for (int p = 0; p < people; p++) {
                if (has(at(deeds, p), night)) {
                    doing |= 1 << p;
                }
            }
            return doing;
        }

        private int costOf(int[] row, int length) {
            int cost = 0;
            int ahead = NONE;
            for (int far = 0; far < length; far++) {
                int a = at(row, far);
                int kind = at(kinds, a);
                cost += at(costs, a);
                if (kind == WITNESS && ahead == WITNESS) {
                    cost += 2;
                } else if (kind == CLUE) {
                    cost += at(costs, a);
                } else if (kind == ARREST) {
                    cost += far;
                }
                ahead = kind;
            }
            return cost;
        }

        private int daysOf(int[] row, int length) {
            int sum = 0;
            for (int k = 0; k < length; k++) {
                sum += at(spans, at(row, k));
            }
            return sum;
        }
    }

    /** The TRIAL as it stands, and what is STRUCK OUT. */
    private static final class Hearing {
        private final int[] row = new int[MOST_STATEMENTS];
        private int length;
        private int struck;

        private void clear() {
            length = 0;
            struck = 0;
        }

        private void copyFrom(Hearing other) {
            System.arraycopy(other.row, 0, row, 0, MOST_STATEMENTS);
            length = other.length;
            struck = other.struck;
        }

        private void add(int a) {
            put(row, length, a);
            length++;
        }

        private int members() {
            int bits = 0;
            for (int k = 0; k < length; k++) {
                bits |= bit(at(row, k));
            }
            return bits;
        }

        private int open(Court court) {
            if (length == 0) {
                return court.verdicts & ~struck;
            }
            return openBehind(court, at(row, length - 1), members(), struck);
        }

        private boolean isEnded(Court court) {
            return length > 0 && court.isNight(at(row, length - 1));
        }

        private boolean isStuck(Court court) {
            return length > 0 && !isEnded(court) && open(court) == 0;
        }
    }

    /** Copies of hearings, the latest to be taken first; where it is full, the oldest gives way. */
    private static final class Shelf {
        private final Hearing[] places;
        private int top;
        private int size;

        private Shelf(int most) {
            places = new Hearing[Math.max(most, 1)];
            for (int i = 0; i < places.length; i++) {
                places[i] = new Hearing();
            }
        }

        private void clear() {
            size = 0;
        }

        private void add(Hearing hearing) {
            Hearing place = placeAt(top);
            if (place == null) {
                return;
            }
            place.copyFrom(hearing);
            top = top + 1 < places.length ? top + 1 : 0;
            size = Math.min(size + 1, places.length);
        }

        private boolean takeLatest(Hearing into) {
            int latest = top > 0 ? top - 1 : places.length - 1;
            Hearing place = placeAt(latest);
            if (size == 0 || place == null) {
                return false;
            }
            into.copyFrom(place);
            top = latest;
            size--;
            return true;
        }

        private Hearing placeAt(int i) {
            return i >= 0 && i < places.length ? places[i] : null;
        }
    }

    /** What the WHOLE CHAINS of one VERDICT come to, gathered on one walk through all of them. */
    private static final class Survey {
        private final int[] row = new int[MOST_STATEMENTS];
        private final int[] best = new int[MOST_STATEMENTS];
        private final int[] leastTo = new int[MOST_STATEMENTS];
        private int found;
        private int bestCost;
        private int bestLength;
        private int fewestDays;
        private int ends;
        private int common;
        private int told;

        private void walkAll(Court court, int verdict, int struck) {
            found = 0;
            ends = 0;
            common = 0;
            told = 0;
            if (!has(struck, verdict)) {
                put(row, 0, verdict);
                walk(this, court, struck, bit(verdict), 1);
            }
        }

        /** Goes by the lowest STATEMENT first: so, of chains that are as good, the first is met first. */
        private static void walk(Survey survey, Court court, int struck, int chain, int length) {
            int last = at(survey.row, length - 1);
            if (court.isNight(last)) {
                survey.note(court, chain, length);
                return;
            }
            if (length >= MOST_STATEMENTS) {
                return;
            }
            int open = openBehind(court, last, chain, struck);
            for (int b = 0; b < MOST_STATEMENTS; b++) {
                if (has(open, b)) {
                    put(survey.row, length, b);
                    walk(survey, court, struck, chain | bit(b), length + 1);
                }
            }
        }

        private void note(Court court, int chain, int length) {
            int cost = court.costOf(row, length);
            int night = at(row, length - 1);
            int together = court.daysOf(row, length);
            boolean first = found == 0;
            if (first || cost < bestCost || cost == bestCost && length < bestLength) {
                System.arraycopy(row, 0, best, 0, MOST_STATEMENTS);
                bestCost = cost;
                bestLength = length;
            }
            if (!has(ends, night) || cost < at(leastTo, night)) {
                put(leastTo, night, cost);
            }
            fewestDays = first ? together : Math.min(fewestDays, together);
            common = first ? chain : common & chain;
            ends |= bit(night);
            told |= chain;
            found++;
        }
    }
}
