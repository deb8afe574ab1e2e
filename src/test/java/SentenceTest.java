import java.io.IOException;
import java.nio.file.Files;
import java.nio.file.Path;
import java.util.ArrayList;
import java.util.HashMap;
import java.util.List;
import java.util.Map;

/**
 * Every sentence of the document's promises and Terms, each tried at its edges: too small, too large, empty, full,
 * refused. What is tried has to stand in the document, and all that stands there has to be tried.
 */
public final class SentenceTest {
    private static final Path DOCUMENT = Path.of("../shared/DOC.md");
    private static final int PROMISES = 47;

    private static int wrong = 0;

    public static void main(String[] args) throws IOException {
        SentenceBench[] groups = {new RowSentences(), new CraftSentences(), new RopeSentences(), new MessageSentences(),
            new SlipSentences(), new ToldSentences()};
        Map<Integer, List<String>> tried = new HashMap<>();
        int checks = 0;
        int sentences = 0;
        for (SentenceBench group : groups) {
            group.tryAll();
            wrong += group.wrong;
            checks += group.checks;
            for (Map.Entry<Integer, List<String>> e : group.tried.entrySet()) {
                tried.computeIfAbsent(e.getKey(), n -> new ArrayList<>()).addAll(e.getValue());
                sentences += e.getValue().size();
            }
        }
        compareWithDocument(Files.readString(DOCUMENT), tried);
        System.out.println(sentences + " sentences tried, " + checks + " answers");
        System.out.println(wrong == 0 ? "all is as due" : wrong + " are not as due");
        if (wrong != 0) {
            System.exit(1);
        }
    }

    private static void compareWithDocument(String document, Map<Integer, List<String>> tried) {
        String terms = between(document, "## Terms", "Ahead of the calls").replace("```text", " ").replace("```", " ");
        compare("Terms", terms, tried.get(SentenceBench.TERMS));
        for (int n = 1; n <= PROMISES; n++) {
            String section = between(document, "## Promise " + n + ":", "\n## ");
            int signatureEnd = section.indexOf("`:");
            compare("promise " + n, section.substring(signatureEnd + 2), tried.get(n));
        }
    }

    private static String between(String document, String from, String to) {
        int begin = document.indexOf(from) + from.length();
        return document.substring(begin, document.indexOf(to, begin));
    }

    /** All letters and figures of a part of the document have to stand in sentences that are tried. */
    private static void compare(String part, String words, List<String> tried) {
        String text = words.replaceAll("\\s+", " ").trim();
        boolean[] seen = new boolean[text.length()];
        for (String sentence : tried == null ? new ArrayList<String>() : tried) {
            int at = text.indexOf(sentence);
            if (at < 0) {
                wrong++;
                System.out.println(part + " does not say: " + sentence);
            }
            for (; at >= 0; at = text.indexOf(sentence, at + 1)) {
                java.util.Arrays.fill(seen, at, at + sentence.length(), true);
            }
        }
        StringBuilder untried = new StringBuilder();
        for (int i = 0; i < seen.length; i++) {
            if (!seen[i] && Character.isLetterOrDigit(text.charAt(i))) {
                untried.append(text.charAt(i));
            }
        }
        if (untried.length() > 0) {
            wrong++;
            System.out.println(part + " is not tried: " + untried);
        }
    }
}
