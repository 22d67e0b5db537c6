import java.lang.reflect.Method;
import java.util.List;
import java.util.regex.Matcher;
import java.util.regex.Pattern;

/** Each promise of the document has a test that holds its words, and so has each sentence that tells an exception. */
final class HoldsTests {
    private static final List<Class<?>> TESTS = List.of(TellingBoundaryTests.class, EndBoundaryTests.class,
            FrontBoundaryTests.class, UnitBoundaryTests.class, RetiringBoundaryTests.class);
    private static final Due due = new Due();

    public static void main(String[] args) {
        for (int promise = 1; promise <= 52; promise++) {
            due.same("promise " + promise + " has a test", isHeld(promise, ""), true);
            Matcher matcher = Pattern.compile("Throws \\w+ if (.*?)(?= Throws| ##|$)").matcher(Due.section(promise));
            while (matcher.find()) {
                String sentence = matcher.group(1).trim();
                due.same("promise " + promise + ", '" + sentence + "' has a test", isHeld(promise, sentence), true);
            }
        }
        due.end();
    }

    /** Several tests may hold the parts of a sentence. */
    private static boolean isHeld(int promise, String sentence) {
        for (Class<?> test : TESTS) {
            for (Method method : test.getDeclaredMethods()) {
                Holds holds = method.getAnnotation(Holds.class);
                if (holds != null && holds.promise() == promise
                        && (holds.words().contains(sentence) || sentence.contains(holds.words()))) {
                    return true;
                }
            }
        }
        return false;
    }
}
