import java.lang.reflect.Method;
import java.nio.file.Files;
import java.nio.file.Path;
import java.util.HashMap;
import java.util.Map;
import java.util.regex.Matcher;
import java.util.regex.Pattern;

/** Makes the calls of README.md's examples and compares the answers with the remarks behind them. */
public final class ReadmeTest extends Checks {
    private static final Pattern BLOCK = Pattern.compile("(?s)```java\n(.*?)```");
    /** A call, and behind it perhaps the number or the constant that is due. */
    private static final Pattern CALL = Pattern.compile("\\bx\\.(\\w+)\\(([^()]*)\\)\\)?;(?: +// (-?\\d+|[A-Z]+)(?=:|$))?");
    private static final Map<String, Method> FACE = new HashMap<>();

    public static void main(String[] args) throws Exception {
        for (Method m : OwnerlessCoin.class.getMethods()) {
            FACE.put(m.getName(), m);
        }
        Matcher block = BLOCK.matcher(Files.readString(Path.of("README.md")));
        int blocks = 0;
        while (block.find()) {
            blocks++;
            promise = "README, example " + blocks;
            example(block.group(1));
        }
        promise = "README";
        due("the number of examples is not 0", blocks > 0 ? 1 : 0, 1);
        finish("readme");
    }

    private static void example(String text) throws Exception {
        OwnerlessCoin x = new OwnerlessCoin();
        for (String line : text.split("\n")) {
            Matcher call = CALL.matcher(line);
            boolean isCall = call.find();
            due("'" + line + "' is understood", isCall || !line.contains("x."), true);
            if (isCall) {
                make(x, line.trim(), call);
            }
        }
    }

    private static void make(OwnerlessCoin x, String line, Matcher call) throws Exception {
        Method method = FACE.get(call.group(1));
        due("'" + line + "' is a call", method != null, true);
        if (method == null) {
            return;
        }
        String[] words = call.group(2).isEmpty() ? new String[0] : call.group(2).split(", ");
        Object[] arguments = new Object[words.length];
        for (int i = 0; i < words.length; i++) {
            arguments[i] = Integer.parseInt(words[i]);
        }
        long got = ((Number) method.invoke(x, arguments)).longValue();
        due("'" + line + "' has a remark that is understood", call.group(3) != null || !line.contains("//"), true);
        if (call.group(3) != null) {
            due("'" + line + "'", got, number(call.group(3)));
        }
    }

    private static long number(String word) throws Exception {
        if (Character.isLetter(word.charAt(0))) {
            return OwnerlessCoin.class.getField(word).getInt(null);
        }
        return Long.parseLong(word);
    }

    private static void due(String what, boolean got, boolean want) {
        due(what, got ? 1 : 0, want ? 1 : 0);
    }
}
