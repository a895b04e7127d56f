import java.io.IOException;
import java.lang.reflect.Method;
import java.nio.file.Files;
import java.nio.file.Path;
import java.util.LinkedHashSet;
import java.util.List;
import java.util.Set;

/** Each sentence of the document's terms and promises has a test that stands for it, and no other has. */
public final class DocumentTest {
    private static final Class<?>[] TESTS = {TermsTest.class, MakingTest.class, ReducingTest.class, DerivingTest.class,
        TellingTest.class, RefusalTest.class};

    public static void main(String[] args) throws IOException {
        Path document = Path.of("../shared/DOC.md");
        if (!Files.exists(document)) {
            System.out.println("no document beside the checkout: its sentences are not looked at");
            return;
        }
        Set<String> said = sentences(Files.readString(document));
        Set<String> tested = new LinkedHashSet<>();
        for (Class<?> tests : TESTS) {
            for (Method test : Check.sentenceTests(tests)) {
                tested.addAll(List.of(test.getAnnotation(Sentence.class).value()));
            }
        }
        Check.due("the document has sentences", said.size() > 20, true);
        for (String sentence : said) {
            Check.due("a test of: " + sentence, tested.contains(sentence), true);
        }
        for (String sentence : tested) {
            Check.due("the document says: " + sentence, said.contains(sentence), true);
        }
        Check.end();
    }

    /** From what an object is used for to the last promise, without headings, code and signatures. */
    private static Set<String> sentences(String document) {
        String text = document.replaceAll("(?s)```.*?```", "").replaceAll("(?s)## Not promised.*", "")
                .replaceAll("(?s)^.*?(?=An object is used)", "").replaceAll("(?m)^#.*$", "")
                .replaceAll("(?m)^`[^`]*`: ", "").replaceAll("\\s+", " ").strip();
        // A sentence ends with a full stop behind a word or a bracket; " .. " is none.
        return new LinkedHashSet<>(List.of(text.split("(?<=[^ .]\\.) ")));
    }
}
