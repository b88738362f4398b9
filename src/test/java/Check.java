import java.util.ArrayList;
import java.util.List;

/** Counts what holds and what does not; each test program has one. */
final class Check {
    private final List<String> wrong = new ArrayList<>();
    private int right;

    void due(String call, long got, long want) {
        holds(call + " answered " + got + ", due is " + want, got == want);
    }

    void holds(String what, boolean yes) {
        if (yes) {
            right++;
        } else {
            wrong.add(what);
        }
    }

    int faults() {
        return wrong.size();
    }

    /** Prints the faults and ends the program: with 1 if there was one. */
    void end(String program) {
        int shown = Math.min(wrong.size(), 40);
        for (int i = 0; i < shown; i++) {
            System.out.println("  " + wrong.get(i));
        }
        System.out.println(program + ": " + right + " checks hold, " + wrong.size() + " do not");
        System.exit(wrong.isEmpty() ? 0 : 1);
    }

    static HeardBackward written(String text) {
        HeardBackward x = new HeardBackward();
        write(x, text);
        return x;
    }

    static HeardBackward laidOut(String text) {
        HeardBackward x = written(text);
        if (x.lay() < 0) {
            throw new IllegalStateException("the test's own text can't be laid: " + text);
        }
        return x;
    }

    static void write(HeardBackward x, String text) {
        for (int i = 0; i < text.length(); i++) {
            x.write(text.charAt(i));
        }
    }
}
