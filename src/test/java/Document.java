import java.io.IOException;
import java.nio.charset.StandardCharsets;
import java.nio.file.Files;
import java.nio.file.Path;
import java.util.ArrayList;
import java.util.LinkedHashMap;
import java.util.List;
import java.util.Map;
import java.util.TreeMap;
import java.util.regex.Matcher;
import java.util.regex.Pattern;

/** The document's sentences by the place where they stand, and which of them a test has quoted. */
final class Document {
    private static final Path PLACE = Path.of("../shared/DOC.md");
    private static final Pattern TERM = Pattern.compile("(?m)^======== (\\d) ");
    private static final Pattern PROMISE = Pattern.compile("(?m)^## Promise (\\d+): ");
    private static final Pattern CALL = Pattern.compile("`int (\\w+)\\(");

    private final Map<String, String> parts = new LinkedHashMap<>();
    private final Map<String, boolean[]> quoted = new LinkedHashMap<>();
    private final Map<String, String> refusals = new TreeMap<>();

    Document() throws IOException {
        String all = Files.readString(PLACE, StandardCharsets.UTF_8);
        add("Life", line(all, "An object is used for"));
        add("Refusals", line(all, "BAD: a number is none"));
        String terms = all.substring(all.indexOf("## Terms"), all.indexOf("\nBAD: a number is none"));
        cut(terms, TERM, "Terms ");
        String promises = all.substring(all.indexOf("## Promise 1:"), all.indexOf("## Not promised"));
        cut(promises, PROMISE, "Promise ");
    }

    private static String line(String all, String start) {
        int from = all.indexOf("\n" + start) + 1;
        return all.substring(from, all.indexOf('\n', from));
    }

    private void cut(String text, Pattern heads, String name) {
        Matcher m = heads.matcher(text);
        List<Integer> starts = new ArrayList<>();
        List<Integer> bodies = new ArrayList<>();
        List<String> names = new ArrayList<>();
        while (m.find()) {
            starts.add(m.start());
            bodies.add(m.end());
            names.add(name + m.group(1));
        }
        for (int i = 0; i < names.size(); i++) {
            int end = i + 1 < starts.size() ? starts.get(i + 1) : text.length();
            String body = text.substring(bodies.get(i), end);
            noteRefusals(body);
            int sign = body.indexOf("`: ");
            add(names.get(i), name.startsWith("Promise") ? body.substring(sign + 3) : body);
        }
    }

    private void noteRefusals(String body) {
        Matcher call = CALL.matcher(body);
        if (call.find()) {
            String said = body.substring(call.end());
            for (String word : new String[] {"BAD", "NO", "FULL", "NONE"}) {
                if (Pattern.compile("\\b" + word + "\\b").matcher(said).find()) {
                    refusals.put(call.group(1) + " " + word, word);
                }
            }
        }
    }

    private void add(String name, String text) {
        String plain = squeezed(text);
        parts.put(name, plain);
        quoted.put(name, new boolean[plain.length()]);
    }

    private static String squeezed(String text) {
        return text.replace("```text", " ").replace("```", " ").replaceAll("\\s+", " ").trim();
    }

    /** Marks the quote; false if it doesn't stand in that part exactly once. */
    boolean quote(String part, String words) {
        String text = parts.getOrDefault(part, "");
        String plain = squeezed(words);
        int from = text.indexOf(plain);
        if (from < 0 || text.indexOf(plain, from + 1) >= 0) {
            return false;
        }
        for (int i = from; i < from + plain.length(); i++) {
            quoted.get(part)[i] = true;
        }
        return true;
    }

    /** The stretches of letters that no test has quoted. */
    List<String> unquoted() {
        List<String> open = new ArrayList<>();
        for (Map.Entry<String, String> part : parts.entrySet()) {
            boolean[] marks = quoted.get(part.getKey());
            StringBuilder stretch = new StringBuilder();
            for (int i = 0; i <= marks.length; i++) {
                if (i < marks.length && !marks[i]) {
                    stretch.append(part.getValue().charAt(i));
                } else {
                    if (Pattern.compile("[A-Za-z0-9]").matcher(stretch).find()) {
                        open.add(part.getKey() + ": " + stretch.toString().trim());
                    }
                    stretch.setLength(0);
                }
            }
        }
        return open;
    }

    /** Each call with each word of refusal that its promise names, as "argue BAD". */
    List<String> refusals() {
        return new ArrayList<>(refusals.keySet());
    }

    int promises() {
        return (int) parts.keySet().stream().filter(name -> name.startsWith("Promise ")).count();
    }
}
