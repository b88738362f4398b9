import java.lang.reflect.Constructor;
import java.lang.reflect.Field;
import java.lang.reflect.Member;
import java.lang.reflect.Method;
import java.lang.reflect.Modifier;
import java.nio.charset.StandardCharsets;
import java.nio.file.Files;
import java.nio.file.Path;
import java.util.Set;
import java.util.TreeSet;
import java.util.regex.Matcher;
import java.util.regex.Pattern;

/** The face of the document, and what of LANGUAGE.md can be seen from the source and the class. */
public final class LanguageTests {
    private static final Check CHECK = new Check();
    private static final Path SOURCE = Path.of("src/main/java/HeardBackward.java");
    private static final Set<String> FACE = Set.of(
            "write(int)", "wipe()", "fault()", "lay()", "statement(int,int)", "argue(int)", "drop()",
            "strike(int)", "undo()", "argued(int)", "next()", "trial(int)", "chains(int)",
            "shortest(int,int)", "nights(int)", "needed(int)", "forgotten()", "both(int,int,int)",
            "byTurns(int,int)", "days(int)", "who(int)", "fits(int)", "look(int,int)", "laid(int,int)",
            "odds(int,int,int)", "trialBy(int,int,int)", "keep()", "back()", "count(int)");

    public static void main(String[] args) throws Exception {
        face();
        for (Class<?> inside : HeardBackward.class.getDeclaredClasses()) {
            int is = inside.getModifiers();
            CHECK.holds("rule 2: " + inside + " is static", Modifier.isStatic(is));
            CHECK.holds("rule 1: " + inside + " is not public", !Modifier.isPublic(is) && !Modifier.isProtected(is));
            limits(inside);
        }
        limits(HeardBackward.class);
        CHECK.holds("rule 11: twelve classes", HeardBackward.class.getDeclaredClasses().length <= 11);
        String source = Files.readString(SOURCE, StandardCharsets.ISO_8859_1);
        CHECK.holds("rule 4: signs 1 to 127", source.chars().allMatch(c -> c > 0 && c < 127));
        words(withoutTexts(source));
        methodLengths(source);
        CHECK.end("LanguageTests");
    }

    private static void face() throws Exception {
        Class<?> face = HeardBackward.class;
        CHECK.holds("rule 1: public and final", face.getModifiers() == (Modifier.PUBLIC | Modifier.FINAL));
        Set<String> found = new TreeSet<>();
        for (Method m : face.getDeclaredMethods()) {
            if (Modifier.isPrivate(m.getModifiers())) {
                continue;
            }
            StringBuilder types = new StringBuilder();
            for (Class<?> type : m.getParameterTypes()) {
                types.append(types.length() > 0 ? "," : "").append(type);
            }
            found.add(m.getName() + "(" + types + ")");
            CHECK.holds("an int: " + m, m.getReturnType() == int.class);
            CHECK.holds("public and no more: " + m, m.getModifiers() == Modifier.PUBLIC);
        }
        CHECK.holds("rule 1: the face is " + found, found.equals(new TreeSet<>(FACE)));
        Constructor<?>[] made = face.getDeclaredConstructors();
        CHECK.holds("rule 1: one constructor", made.length == 1 && made[0].getParameterCount() == 0
                && Modifier.isPublic(made[0].getModifiers()));
        Set<String> constants = new TreeSet<>();
        for (Field f : face.getDeclaredFields()) {
            if (!Modifier.isPrivate(f.getModifiers())) {
                constants.add(f.getName() + f.getInt(null));
                CHECK.holds("a constant: " + f, f.getModifiers() == (Modifier.PUBLIC | Modifier.STATIC | Modifier.FINAL));
            }
        }
        CHECK.holds("the constants are " + constants, constants.equals(Set.of("BAD-1", "NO-2", "FULL-3", "NONE-4")));
    }

    private static void limits(Class<?> part) {
        int fields = 0;
        for (Field f : part.getDeclaredFields()) {
            if (Modifier.isStatic(f.getModifiers())) {
                CHECK.holds("rule 5: final: " + f, Modifier.isFinal(f.getModifiers()));
            } else {
                fields++;
                CHECK.holds("hidden: " + f, Modifier.isPrivate(f.getModifiers()));
            }
        }
        CHECK.holds("rule 11: twenty fields in " + part, fields <= 20);
        Set<String> names = new TreeSet<>();
        for (String call : FACE) {
            names.add(call.substring(0, call.indexOf('(')));
        }
        for (Method m : part.getDeclaredMethods()) {
            CHECK.holds("rule 11: seven parameters: " + m, m.getParameterCount() <= 7);
            CHECK.holds("rule 1: a name of the face: " + m, part == HeardBackward.class && isOpen(m) || !names.contains(m.getName()));
            CHECK.holds("rule 6: a name of Object: " + m, !Set.of("equals", "hashCode", "toString").contains(m.getName()));
        }
    }

    private static boolean isOpen(Member m) {
        return Modifier.isPublic(m.getModifiers());
    }

    private static String withoutTexts(String source) {
        return source.replaceAll("(?s)/\\*.*?\\*/", " ").replaceAll("//[^\n]*", " ")
                .replaceAll("\"[^\"\n]*\"", "TEXT").replaceAll("'[^'\n]*'", "SIGN");
    }

    private static void words(String code) {
        String[] banned = {"throw", "throws", "try", "catch", "finally", "synchronized", "assert", "import", "package",
            "volatile", "transient", "native", "strictfp", "instanceof", "float", "double", "Object", "System\\.out",
            "System\\.in", "Thread", "Random", "Scanner", "Exact", "String\\.format", "enum", "interface", "goto"};
        for (String word : banned) {
            CHECK.holds("not in the source: " + word, !Pattern.compile("\\b" + word + "\\b").matcher(code).find());
        }
        CHECK.holds("rule 2: no lambda", !code.contains("->"));
        CHECK.holds("rule 2: no method reference", !code.contains("::"));
        CHECK.holds("no annotation", !code.contains("@"));
        CHECK.holds("rule 5: no static block", !Pattern.compile("static\\s*\\{").matcher(code).find());
        CHECK.holds("rule 10: no texts joined by +", !Pattern.compile("TEXT\\s*\\+|\\+\\s*TEXT").matcher(code).find());
        CHECK.holds("one top class", Pattern.compile("(?m)^\\S*.*\\bclass\\b").matcher(code).find()
                && Pattern.compile("(?m)^(public|final|class|abstract|record)\\b").matcher(code).results().count() == 1);
    }

    /** A method begins at a line that ends with ") {" behind a type, and ends at a brace as far in. */
    private static void methodLengths(String source) {
        String[] lines = source.split("\n");
        Pattern head = Pattern.compile("^(\\s+)(public|private)\\s[^=;]*\\)?\\s*\\{$");
        int methods = 0;
        for (int i = 0; i < lines.length; i++) {
            Matcher m = head.matcher(lines[i]);
            if (!m.matches() || lines[i].contains(" class ")) {
                continue;
            }
            int end = i;
            while (end < lines.length - 1 && !lines[end].equals(m.group(1) + "}")) {
                end++;
            }
            methods++;
            CHECK.holds("rule 11: sixty lines: " + lines[i].trim(), end - i + 1 <= 60);
        }
        CHECK.holds("methods are found", methods > 60);
    }
}
