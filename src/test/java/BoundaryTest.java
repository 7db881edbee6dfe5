import java.io.IOException;
import java.lang.reflect.InvocationTargetException;
import java.lang.reflect.Method;
import java.util.ArrayList;
import java.util.List;
import java.util.Set;
import java.util.TreeSet;

/** Runs the tests of the document's sentences, and looks whether any sentence of the document is without one. */
public final class BoundaryTest {
    private static final Class<?>[] TESTS = {RoomSentences.class, BookingSentences.class, PaymentSentences.class,
        PlaySentences.class, ProgramSentences.class, HistorySentences.class, ErrorSentences.class,
        LookSentences.class, ForecastSentences.class};

    // The face is in LanguageTest; the other ones tell what the document is about and what it leaves free.
    private static final Set<String> HEADINGS_LEFT_OUT = Set.of("The public face", "Not promised");
    private static final Set<String> LEFT_OUT = Set.of(
        "What it is | what later calls answer is free.",
        "Terms | All numbers are whole",
        "Terms | times are in minutes from the opening, amounts in euros.",
        "Plays | A play is told by its goal, its hints and its wreckage.");

    public static void main(String[] args) throws IOException {
        Set<String> said = new TreeSet<>();
        int tests = 0;
        for (Class<?> type : TESTS) {
            for (Method test : type.getDeclaredMethods()) {
                Says says = test.getAnnotation(Says.class);
                if (says != null) {
                    said.add(says.value());
                    run(test, says.value());
                    tests++;
                }
            }
        }
        compare(said, Document.sentences());
        System.out.println("BoundaryTest: " + tests + " tests of " + said.size() + " sentences");
        Sentences.checks().finish("BoundaryTest");
    }

    private static void run(Method test, String sentence) {
        Checks checks = Sentences.checks();
        int asked = checks.asked();
        int wrong = checks.wrong();
        try {
            test.invoke(null);
        } catch (IllegalAccessException | InvocationTargetException failure) {
            checks.holds("runs to its end: " + test + ", " + failure.getCause(), false);
        }
        checks.holds("asks something: " + test, checks.asked() > asked);
        if (checks.wrong() > wrong) {
            System.out.println("    in " + test.getName() + " of: " + sentence);
        }
    }

    private static void compare(Set<String> said, List<String> sentences) {
        for (String sentence : said) {
            Sentences.checks().holds("stands in the document: " + sentence, sentences.contains(sentence));
        }
        for (String sentence : LEFT_OUT) {
            Sentences.checks().holds("stands in the document: " + sentence, sentences.contains(sentence));
        }
        List<String> untested = new ArrayList<>(sentences);
        untested.removeAll(said);
        untested.removeAll(LEFT_OUT);
        untested.removeIf(sentence -> HEADINGS_LEFT_OUT.contains(sentence.replaceAll(" \\| .*", ""))
            || sentence.startsWith("What it is | A venue with escape rooms: ")
            || sentence.startsWith("Errors | Ahead of the calls "));
        for (String sentence : untested) {
            Sentences.checks().holds("has a test: " + sentence, false);
        }
    }
}
