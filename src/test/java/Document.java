import java.io.IOException;
import java.lang.reflect.Method;
import java.nio.file.Files;
import java.nio.file.Path;
import java.util.ArrayList;
import java.util.List;
import java.util.regex.Matcher;
import java.util.regex.Pattern;

/** The document's "Terms" and promises, and which of their words tests stand for. */
final class Document {
    static final Path PLACE = Path.of("../shared/DOC.md");
    private static final int TERMS = 0;

    private final String[] texts = new String[Edges.PROMISES + 1];
    private final boolean[][] claimed = new boolean[texts.length][];

    Document() throws IOException {
        String whole = Files.readString(PLACE);
        for (int part = 0; part < texts.length; part++) {
            texts[part] = part == TERMS ? terms(whole) : promise(whole, part);
            claimed[part] = new boolean[texts[part].length()];
        }
    }

    private static String terms(String whole) {
        return bare(find(whole, "(?s)\n## Terms\n(.*?)\n## Promise 1:"));
    }

    /** What stands behind the signature. */
    private static String promise(String whole, int number) {
        return bare(find(whole, "(?s)\n## Promise " + number + ": [^\n]*\n\\s*`[^`]*`: (.*?)\n##"));
    }

    private static String find(String whole, String pattern) {
        Matcher matcher = Pattern.compile(pattern).matcher(whole);
        if (!matcher.find()) {
            throw new IllegalStateException("the document has no " + pattern);
        }
        return matcher.group(1);
    }

    private static String bare(String text) {
        return text.replace("```text", "").replace("`", "").replaceAll("\\s+", " ").trim();
    }

    /** What the tests of a class claim; each claim that the document does not hold is told. */
    List<String> claimAll(Class<?> holder) {
        List<String> wrong = new ArrayList<>();
        for (Method test : holder.getDeclaredMethods()) {
            Says says = test.getAnnotation(Says.class);
            if (says == null) {
                continue;
            }
            for (String words : says.value()) {
                claim(Integer.parseInt(test.getName().substring(7, 9)), words, test, wrong);
            }
            for (String words : says.terms()) {
                claim(TERMS, words, test, wrong);
            }
        }
        return wrong;
    }

    private void claim(int part, String words, Method test, List<String> wrong) {
        int from = texts[part].indexOf(words);
        if (from < 0 || texts[part].indexOf(words, from + 1) >= 0) {
            wrong.add(test.getName() + ": '" + words + "' stands not once in its part of the document");
            return;
        }
        mark(part, from, words.length());
    }

    /** Words that promise nothing by themselves. */
    void pass(String words) {
        int from = texts[TERMS].indexOf(words);
        if (from >= 0) {
            mark(TERMS, from, words.length());
        }
    }

    private void mark(int part, int from, int length) {
        for (int k = from; k < from + length; k++) {
            claimed[part][k] = true;
        }
    }

    /** Words for which no test stands. */
    List<String> unclaimed() {
        List<String> left = new ArrayList<>();
        for (int part = 0; part < texts.length; part++) {
            StringBuilder words = new StringBuilder();
            for (int k = 0; k <= texts[part].length(); k++) {
                boolean isLeft = k < texts[part].length() && !claimed[part][k];
                if (isLeft) {
                    words.append(texts[part].charAt(k));
                } else {
                    add(part, words.toString(), left);
                    words.setLength(0);
                }
            }
        }
        return left;
    }

    private static void add(int part, String words, List<String> left) {
        if (words.matches(".*\\w.*")) {
            left.add((part == TERMS ? "Terms" : "Promise " + part) + ": '" + words.trim() + "'");
        }
    }
}
