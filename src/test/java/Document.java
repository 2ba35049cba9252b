import java.io.IOException;
import java.nio.file.Files;
import java.nio.file.Path;
import java.util.BitSet;
import java.util.Map;
import java.util.TreeMap;
import java.util.regex.Matcher;
import java.util.regex.Pattern;

/** Which words of the document have a test: each one that a test cites must stand there, and no promise's words may be left over. */
final class Document {
    private static final Pattern PROMISE = Pattern.compile("\n## Promise (\\d+): .*?\n\n`[^`]*`: (.*?)\n(?=\n## )", Pattern.DOTALL);
    private static final Pattern TERMS = Pattern.compile("\n## Terms\n(.*?)\n(?=\n## )", Pattern.DOTALL);
    private static final Pattern LEAD = Pattern.compile("\n## What it is\n(.*?)\n(?=\n## )", Pattern.DOTALL);
    private final Map<Integer, StringBuilder> cited = new TreeMap<>();

    void cite(int promise, String words) {
        cited.computeIfAbsent(promise, n -> new StringBuilder()).append(words).append('\n');
    }

    private static String plain(String text) {
        return text.replaceAll("\\s+", " ");
    }

    private static Map<Integer, String> read(Path file) throws IOException {
        String all = Files.readString(file).replace("\r", "");
        Map<Integer, String> told = new TreeMap<>();
        StringBuilder terms = new StringBuilder();
        for (Pattern part : new Pattern[] {LEAD, TERMS}) {
            Matcher found = part.matcher(all);
            if (found.find()) terms.append(plain(found.group(1)));
        }
        told.put(0, terms.toString());
        Matcher promise = PROMISE.matcher(all);
        while (promise.find()) told.put(Integer.parseInt(promise.group(1)), plain(promise.group(2)));
        return told;
    }

    /** The terms may have words that are no case of their own; a promise may not. */
    void look(Path file, Checks checks) throws IOException {
        Map<Integer, String> told = read(file);
        checks.due("promises of the document", told.size() - 1, 45);
        for (int promise : told.keySet()) {
            String words = told.get(promise);
            BitSet tested = new BitSet();
            for (String one : cited.getOrDefault(promise, new StringBuilder()).toString().split("\n")) {
                int from = words.indexOf(one);
                checks.that("promise " + promise + " says \"" + one + "\"", from >= 0 && !one.isEmpty());
                for (int at = from; at >= 0; at = words.indexOf(one, at + 1)) tested.set(at, at + one.length());
            }
            StringBuilder left = new StringBuilder();
            for (int at = 0; at < words.length(); at++) if (!tested.get(at)) left.append(words.charAt(at));
            checks.that("promise " + promise + " has words without a test: " + left, promise == 0 || !left.toString().matches(".*\\w.*"));
        }
    }
}
