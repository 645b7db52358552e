import java.io.IOException;
import java.nio.file.Files;
import java.nio.file.Path;
import java.util.HashMap;
import java.util.List;
import java.util.Map;
import java.util.regex.Matcher;
import java.util.regex.Pattern;

/** Each sentence of the document that names a boundary case holds, and none is left out; run from the project's folder. */
public final class SentencesTest {
    private static final Path DOC = Path.of("../shared/DOC.md");
    private static final int PROMISES = 36;

    private final Map<Integer, String> texts = new HashMap<>();
    private final Map<Integer, String> left = new HashMap<>();

    public static void main(String[] args) throws IOException {
        List<Sentences.Case> cases = Sentences.all();
        for (Sentences.Case c : cases) Sentences.wrongOf(c);
        SentencesTest test = new SentencesTest();
        test.readDocument();
        for (Sentences.Case c : cases) test.find(c);
        test.lookForWhatIsLeft();
        Check.end("SentencesTest");
    }

    /** Text 0 is that of the Terms, and how long an object is used. */
    private void readDocument() throws IOException {
        String doc = Files.readString(DOC);
        int terms = doc.indexOf("## Terms");
        int used = doc.indexOf("An object is used");
        String told = doc.substring(used, doc.indexOf(" what later calls", used)) + doc.substring(terms + 8, doc.indexOf("Ahead of the calls", terms));
        keep(0, told.replace("```text", "").replace("```", ""));
        Matcher m = Pattern.compile("## Promise (\\d+): [^\\n]*\\n\\s*`[^`]*`:([^#]*)").matcher(doc);
        while (m.find()) keep(Integer.parseInt(m.group(1)), m.group(2));
        Check.due("promises found", texts.size(), PROMISES + 1);
    }

    private void keep(int promise, String text) {
        String plain = text.replaceAll("==== \\d", "").replaceAll("\\s+", " ").trim();
        texts.put(promise, plain);
        left.put(promise, plain);
    }

    private void find(Sentences.Case c) {
        boolean isTerm = !texts.getOrDefault(c.promise, "").contains(c.words);
        Check.that(c + " stands in the document", !isTerm || texts.get(0).contains(c.words));
        int promise = isTerm ? 0 : c.promise;
        int at = texts.get(promise).indexOf(c.words);
        if (at < 0) return;
        StringBuilder rest = new StringBuilder(left.get(promise));
        for (int i = at; i < at + c.words.length(); i++) rest.setCharAt(i, ' ');
        left.put(promise, rest.toString());
    }

    private void lookForWhatIsLeft() {
        for (int promise = 0; promise <= PROMISES; promise++) {
            String rest = left.getOrDefault(promise, "").replaceAll("\\s+", " ");
            boolean nothing = rest.chars().noneMatch(Character::isLetterOrDigit);
            Check.that((promise == 0 ? "of the Terms" : "of promise " + promise) + " no test names: " + rest, nothing);
        }
    }
}
