import java.io.IOException;
import java.lang.reflect.Method;
import java.nio.file.Files;
import java.nio.file.Path;
import java.util.List;

/** Each promise has tests, and what they quote stands in the document as it is today. */
public final class QuoteTest {
    private static final int PROMISES = 24;
    private static final Path DOCUMENT = Path.of("../shared/DOC.md");
    private static final Check check = new Check();

    public static void main(String[] args) throws IOException, ClassNotFoundException {
        boolean isThere = Files.isReadable(DOCUMENT);
        if (!isThere) {
            System.out.println("no document here: the quotes are not compared");
        }
        String document = isThere ? oneLine(Files.readString(DOCUMENT)) : "";
        for (int promise = 1; promise <= PROMISES; promise++) {
            List<Method> tests = Sentences.testsOf(Class.forName(String.format("Promise%02dTest", promise)));
            check.due("promise " + promise + " has tests", tests.isEmpty(), false);
            for (Method test : tests) {
                String quote = test.getAnnotation(Says.class).value();
                check.due("promise " + promise + ", " + test.getName() + ": the document says '" + quote + "'",
                        !isThere || document.contains(oneLine(quote)), true);
            }
        }
        check.end();
    }

    private static String oneLine(String text) {
        return text.replaceAll("\\s+", " ");
    }
}
