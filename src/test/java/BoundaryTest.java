import java.nio.file.Path;

/**
 * Every sentence of the document, quoted by a test that looks at both sides of the boundary it
 * names. The document's path is given by the property "document".
 */
public final class BoundaryTest {
    public static void main(String[] args) {
        Boundaries on = new Boundaries(
                Document.read(Path.of(System.getProperty("document", "../shared/DOC.md"))));
        new TextBoundaries(on).run();
        new CalendarBoundaries(on).run();
        new CreditBoundaries(on).run();
        new PresentationBoundaries(on).run();
        new ExaminationBoundaries(on).run();
        new FeeBoundaries(on).run();
        new ChangeBoundaries(on).run();
        on.end();
    }
}
