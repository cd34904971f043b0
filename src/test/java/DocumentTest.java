import java.lang.reflect.Method;
import java.util.ArrayList;
import java.util.List;
import java.util.Map;

/** No sentence of the description, and no line "Returns .." or "Throws .." of a promise, is without a test that stands for it. */
public final class DocumentTest {
    private static final List<Class<?>> OF_PARTS = List.of(PartsTest.class, PlanPartsTest.class);
    private static final List<Class<?>> OF_PROMISES = List.of(EdgesTest.class, ThrowsTest.class);

    private final Document document = new Document();

    public static void main(String[] args) {
        DocumentTest test = new DocumentTest();
        test.parts();
        test.promises();
        Checks.end("DocumentTest");
    }

    private static List<String> said(String section, List<Class<?>> tests) {
        List<String> said = new ArrayList<>();
        for (Class<?> of : tests) {
            for (Method test : Sentences.tests(of)) {
                if (Sentences.section(test).equals(section)) {
                    said.addAll(List.of(test.getAnnotation(Sentence.class).value()));
                }
            }
        }
        return said;
    }

    private void parts() {
        Checks.same("parts and promises", document.sections().size(), 7 + 28);
        for (Map.Entry<String, String> section : document.sections().entrySet()) {
            if (section.getKey().startsWith("part")) {
                untold(section.getKey(), section.getValue());
            }
        }
    }

    /** What is left of the text when all that tests stand for is struck out. */
    private void untold(String section, String text) {
        boolean[] isTold = new boolean[text.length()];
        for (String sentence : said(section, OF_PARTS)) {
            int at = text.indexOf(sentence);
            for (int k = 0; at >= 0 && k < sentence.length(); k++) {
                isTold[at + k] = true;
            }
        }
        StringBuilder left = new StringBuilder();
        for (int k = 0; k < text.length(); k++) {
            if (!isTold[k]) {
                left.append(text.charAt(k));
            }
        }
        Checks.same(section + ": no test stands for", left.toString().strip(), "");
    }

    private void promises() {
        for (int k = 1; k <= 28; k++) {
            String promise = "promise" + k;
            for (String line : document.lines(promise, "Throws ")) {
                Checks.same(promise + " is tested: " + line, said(promise, List.of(ThrowsTest.class)).contains(line), true);
            }
            boolean isSaid = !said(promise, OF_PROMISES).isEmpty();
            Checks.same(promise + " is tested", isSaid, true);
            returns(promise);
        }
    }

    /** "Returns that." says what its "what" says. */
    private void returns(String promise) {
        List<String> lines = new ArrayList<>(document.lines(promise, "Returns "));
        lines.addAll(document.lines(promise, "- `what`: 0 "));
        for (String line : lines) {
            boolean isSaid = line.equals("Returns that.");
            for (String sentence : said(promise, List.of(EdgesTest.class))) {
                isSaid = isSaid || line.contains(sentence) || sentence.contains(line);
            }
            Checks.same(promise + " is tested: " + line, isSaid, true);
        }
    }
}
