import java.nio.file.Files;
import java.nio.file.Path;
import java.util.ArrayList;
import java.util.List;
import java.util.Set;
import java.util.TreeSet;
import java.util.regex.Matcher;
import java.util.regex.Pattern;

/** Looks for what LANGUAGE.md forbids, as far as a text search can see it. */
public final class RulesTest {
    static final Set<String> FACE = Set.of("addParticipant", "behave", "setMethod", "setThreshold", "setFine", "setDelay", "begin",
            "commit", "spoil", "complain", "beginOpening", "open", "close", "play", "phase", "set", "digest", "share", "isRight",
            "check", "recover", "lock", "results", "canForce", "bias", "slow", "quick", "prime", "proof", "accepts", "account",
            "pot", "rounds", "past", "output", "coins", "longestRun", "undo", "fingerprint");
    static int wrong = 0;

    static void fault(String text) {
        wrong++;
        System.out.println("rules: " + text);
    }

    public static void main(String[] args) throws Exception {
        String source = Files.readString(Path.of("src/main/java/OwnerlessCoin.java"));
        String code = source.replaceAll("(?s)/\\*.*?\\*/", "").replaceAll("//.*", "");
        for (String word : List.of("package", "import", "throw", "throws", "try", "catch", "finally", "synchronized", "assert", "volatile",
                "transient", "native", "protected", "equals", "hashCode", "toString", "instanceof", "Thread", "Random", "File", "float",
                "double", "Object", "var", "yield", "strictfp")) {
            forbid(code, "\\b" + word + "\\b");
        }
        for (String sign : List.of("->", "::", "\"", "@", "static\\s*\\{", "\\w+Exact\\b", "while\\s*\\(true", "for\\s*\\(;;")) {
            forbid(code, sign);
        }
        library(code);
        members(code);
        methods(code);
        objects(code);
        System.out.println(wrong == 0 ? "rules: nothing forbidden was seen" : "rules: " + wrong + " faults");
        if (wrong != 0) {
            System.exit(1);
        }
    }

    static void forbid(String code, String pattern) {
        Matcher m = Pattern.compile(pattern).matcher(code);
        while (m.find()) {
            fault("forbidden: " + m.group());
        }
    }

    /** Of the library's classes only some functions may be called. */
    static void library(String code) {
        Set<String> allowed = Set.of("Integer.bitCount", "Math.min", "Math.max", "System.arraycopy");
        Matcher m = Pattern.compile("\\b(Integer|Long|Math|System|Arrays|String|StringBuilder)\\b(\\.\\w+)?").matcher(code);
        while (m.find()) {
            if (!allowed.contains(m.group())) {
                fault("not of the allowed library: " + m.group());
            }
        }
    }

    /** All calls live in one room: only constructors and the rows of an object make objects. */
    static void objects(String code) {
        String calls = code.replaceAll("(?ms)^( +)(?:public )?[A-Z]\\w*\\(\\) \\{$.*?^\\1\\}$", "")
                .replaceAll("(?m)^ +(?:private )?final [\\w\\[\\]]+ \\w+ = new [^;]*;$", "");
        forbid(calls, "\\bnew\\b.*");
    }

    static void members(String code) {
        Matcher m = Pattern.compile("(?m)^    (?! |\\}|private |public )(\\S.*)").matcher(code);
        while (m.find()) {
            fault("neither private nor public: " + m.group(1));
        }
        m = Pattern.compile("(?m)^ {5,}public .*").matcher(code);
        while (m.find()) {
            fault("public inside: " + m.group());
        }
        m = Pattern.compile("(?m)^.*\\bstatic (?!final |class |(?:int|boolean|long|void) \\w+\\().*").matcher(code);
        while (m.find()) {
            fault("static and not final: " + m.group().trim());
        }
        int classes = 0;
        m = Pattern.compile("(?m)^ *(.*)\\bclass (\\w+)").matcher(code);
        while (m.find()) {
            classes++;
            if (classes > 1 && !m.group(1).equals("private static final ")) {
                fault("class " + m.group(2));
            }
        }
        if (classes > 12) {
            fault(classes + " classes");
        }
    }

    /** Methods are short, take at most seven parameters, and no private one has a public one's name. */
    static void methods(String code) {
        String[] lines = code.split("\n", -1);
        Pattern head = Pattern.compile("^( +)((?:private |public |static )*)(?:int|long|boolean|void) (\\w+)\\((.*)\\) \\{$");
        List<String> seen = new ArrayList<>();
        for (int i = 0; i < lines.length; i++) {
            Matcher m = head.matcher(lines[i]);
            if (!m.find()) {
                continue;
            }
            seen.add(m.group(3));
            if (!m.group(2).startsWith("public ") && FACE.contains(m.group(3))) {
                fault("a method of its own with a public name: " + m.group(3));
            }
            if (m.group(4).split(",").length > 7) {
                fault("more than seven parameters: " + m.group(3));
            }
            int end = i;
            while (!lines[end].equals(m.group(1) + "}")) {
                end++;
            }
            if (end - i > 60) {
                fault("long: " + m.group(3));
            }
        }
        Set<String> missing = new TreeSet<>(FACE);
        missing.removeAll(seen);
        if (!missing.isEmpty()) {
            fault("not seen: " + missing);
        }
    }
}
