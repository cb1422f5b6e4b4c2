import java.nio.file.Path;

/** For each sentence of the document that names a boundary case a test of its own. */
public final class BoundaryTest {
    private static final Class<?>[] TESTS = {BoundsOfTerms.class, BoundsOfCounter.class, BoundsOfLoans.class,
        BoundsOfFewest.class, BoundsOfReadings.class, BoundsOfSheets.class};

    private BoundaryTest() { }

    public static void main(String[] args) throws Exception {
        Due due = new Due();
        Sentences sentences = new Sentences(Path.of("../shared/DOC.md"), due);
        int count = 0;
        for (Class<?> tests : TESTS) {
            count += sentences.run(tests);
        }
        sentences.noneIsLeftOut();
        System.out.println(count + " sentences");
        due.finish();
    }
}
