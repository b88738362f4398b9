import java.io.IOException;
import java.util.Set;
import java.util.TreeSet;

/**
 * Each sentence of the document that names a boundary case, quoted as it stands there, with inputs on
 * both sides of the boundary; what is refused is looked at for having changed nothing. In the end no
 * stretch of the terms and promises may be left unquoted, and no call without its words of refusal.
 */
public final class BoundaryTests {
    private final Check check = new Check();
    private final Document document = new Document();
    private final Set<String> refusals = new TreeSet<>();

    private BoundaryTests() throws IOException {
    }

    public static void main(String[] args) throws IOException {
        BoundaryTests all = new BoundaryTests();
        new TextBoundaries(all).run();
        new TrialBoundaries(all).run();
        new ChainBoundaries(all).run();
        new PeopleBoundaries(all).run();
        new CallBoundaries(all).run();
        all.nothingIsLeft();
        all.check.end("BoundaryTests");
    }

    /** A sentence of that part of the document; it must stand there so, once. */
    Sentence sentence(String part, String words) {
        check.holds(part + " does not say, or not once: " + words, document.quote(part, words));
        return new Sentence(check, refusals, part, words);
    }

    private void nothingIsLeft() {
        check.due("promises", document.promises(), 30);
        for (String open : document.unquoted()) {
            check.holds("no test holds it: " + open, false);
        }
        for (String refusal : document.refusals()) {
            check.holds("no test has it refused: " + refusal, refusals.contains(refusal));
        }
    }
}
