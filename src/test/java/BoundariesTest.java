import java.nio.file.Path;

/**
 * For each sentence of the document a test of its own, on both sides of its bounds. Tests quote the
 * sentences, and words that no test has quoted are a fault: so no boundary case is forgotten.
 */
public final class BoundariesTest {
    private BoundariesTest() {
    }

    public static void main(String[] args) throws Exception {
        Checks checks = new Checks("BoundariesTest");
        Document document = new Document(Path.of(args.length > 0 ? args[0] : ".").resolve("../shared/DOC.md"), checks);
        Boundaries b = new Boundaries(checks, document);
        TermsBoundaries.run(b);
        DaysBoundaries.run(b);
        RulesBoundaries.run(b);
        CountedBoundaries.run(b);
        ChangedBoundaries.run(b);
        LivesBoundaries.run(b);
        WouldBeBoundaries.run(b);
        AllBoundaries.run(b);
        document.tellUnquoted();
        checks.end();
    }
}
