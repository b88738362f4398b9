import java.util.Set;

/** A sentence of the document, as it stands there, with the checks that hold it. */
final class Sentence {
    private final Check check;
    private final Set<String> refusals;
    private final String label;

    Sentence(Check check, Set<String> refusals, String part, String words) {
        this.check = check;
        this.refusals = refusals;
        label = part + ", \"" + words + "\": ";
    }

    /** A new object. */
    Talk talk() {
        return new Talk(this);
    }

    /** A new object with that text laid. */
    Talk talk(String text) {
        return new Talk(this).lays(text);
    }

    /** What fault() answers of a text, of which nothing but the letters is asked. */
    void fault(String text, int want) {
        int got = Check.written(text).fault();
        holds("fault() of " + text + " answered " + got + ", due is " + want, got == want);
    }

    void due(String call, long got, long want) {
        check.due(label + call, got, want);
    }

    void holds(String what, boolean yes) {
        check.holds(label + what, yes);
    }

    /** Notes that a call was refused with a word, as "argue BAD". */
    void refusal(String callAndWord) {
        refusals.add(callAndWord);
    }
}
