import java.util.function.Function;
import java.util.function.Supplier;
import java.util.function.ToLongBiFunction;
import java.util.function.ToLongFunction;

/**
 * Tests of sentences of the document. Each names its section and its words, which must stand there,
 * and looks at both sides of the boundary: two checks at least.
 */
final class Boundaries {
    private final Checks checks = new Checks("BoundaryTest");
    private final Document document;
    private String subject = "";
    private int tested;

    Boundaries(Document document) {
        this.document = document;
    }

    void sentence(String section, String words, Runnable test) {
        subject = section + ": '" + words + "'";
        tested++;
        checks.due(subject + " stands in DOC.md", document.quote(section, words) ? 1 : 0, 1);
        int before = checks.made();
        try {
            test.run();
        } catch (RuntimeException thrown) {
            checks.due(subject + ": the test ends with " + thrown, 0, 1);
        }
        checks.due(subject + " has both its sides tested", checks.made() - before >= 2, true);
    }

    /** Ends the program, when every sentence of the document has been quoted. */
    void end() {
        for (String missing : document.notQuoted()) {
            checks.due(missing + " has a test", 0, 1);
        }
        System.out.println("BoundaryTest: " + tested + " tests of sentences"
                + (document.isThere() ? "" : ", not compared with DOC.md, which is not there"));
        checks.end();
    }

    void due(String what, long got, long want) {
        checks.due(subject + ": " + what, got, want);
    }

    void due(String what, boolean got, boolean want) {
        checks.due(subject + ": " + what, got, want);
    }

    void due(String what, String got, String want) {
        checks.due(subject + ": " + what, got, want);
    }

    void badArgument(String what, Supplier<DocumentaryCreditDesk> recipe,
            ToLongFunction<DocumentaryCreditDesk> call) {
        refused(what, IllegalArgumentException.class, recipe, call);
    }

    void noSuch(String what, Supplier<DocumentaryCreditDesk> recipe,
            ToLongFunction<DocumentaryCreditDesk> call) {
        refused(what, IndexOutOfBoundsException.class, recipe, call);
    }

    void badState(String what, Supplier<DocumentaryCreditDesk> recipe,
            ToLongFunction<DocumentaryCreditDesk> call) {
        refused(what, IllegalStateException.class, recipe, call);
    }

    /**
     * Indexes beside those of the credits: of none, of three, of twelve, and of one whose transfer
     * has been undone.
     */
    void noSuchCredit(ToLongBiFunction<DocumentaryCreditDesk, Integer> call) {
        noSuchIndex("credit", 0, Desks::empty, call);
        noSuchIndex("credit", 3, Desks::busy, call);
        noSuchIndex("credit", 12, Desks::withTwelveCredits, call);
        noSuchIndex("credit", 1, Desks::withUndoneTransfer, call);
    }

    /** The same of presentations: none, five, 24, and one whose follower has been undone. */
    void noSuchPresentation(ToLongBiFunction<DocumentaryCreditDesk, Integer> call) {
        noSuchIndex("presentation", 0, Desks::empty, call);
        noSuchIndex("presentation", 5, Desks::busy, call);
        noSuchIndex("presentation", 24, () -> Desks.withPresentations(24), call);
        noSuchIndex("presentation", 1, Desks::withUndonePresentation, call);
    }

    private void noSuchIndex(String kind, int count, Supplier<DocumentaryCreditDesk> recipe,
            ToLongBiFunction<DocumentaryCreditDesk, Integer> call) {
        int[] wrong = {-1, count, count + 1, 99, Integer.MIN_VALUE, Integer.MAX_VALUE};
        for (int index : wrong) {
            noSuch(kind + " " + index + " of " + count, recipe,
                    desk -> call.applyAsLong(desk, index));
        }
        for (int index = 0; index < count; index++) {
            due(kind + " " + index + " of " + count, isThere(recipe.get(), index, call), true);
        }
    }

    /** A method may refuse an index that is there for another reason. */
    private static boolean isThere(DocumentaryCreditDesk desk, int index,
            ToLongBiFunction<DocumentaryCreditDesk, Integer> call) {
        try {
            call.applyAsLong(desk, index);
            return true;
        } catch (RuntimeException thrown) {
            return thrown.getClass() != IndexOutOfBoundsException.class;
        }
    }

    /** The call on a desk made by the recipe throws this and changes nothing. */
    private void refused(String what, Class<? extends RuntimeException> want,
            Supplier<DocumentaryCreditDesk> recipe, ToLongFunction<DocumentaryCreditDesk> call) {
        DocumentaryCreditDesk desk = recipe.get();
        checks.dueThrow(subject + ": " + what, want, () -> call.applyAsLong(desk));
        unchanged(what, recipe, twin -> refusedQuietly(twin, call));
    }

    private static long refusedQuietly(DocumentaryCreditDesk desk,
            ToLongFunction<DocumentaryCreditDesk> call) {
        try {
            return call.applyAsLong(desk);
        } catch (RuntimeException thrown) {
            return 0;
        }
    }

    /** After the call nothing that can be seen differs from a twin without the call. */
    void unchanged(String what, Supplier<DocumentaryCreditDesk> recipe,
            ToLongFunction<DocumentaryCreditDesk> call) {
        unchangedData(what, recipe, call);
        same(what + ", the text then", recipe, call, Sight::ofText);
    }

    /** The same, but that the buffer and the error offset may differ. */
    void unchangedData(String what, Supplier<DocumentaryCreditDesk> recipe,
            ToLongFunction<DocumentaryCreditDesk> call) {
        same(what + ", the data then", recipe, call, Sight::ofData);
        same(what + ", the history then", recipe, call, Sight::ofHistory);
    }

    private void same(String what, Supplier<DocumentaryCreditDesk> recipe,
            ToLongFunction<DocumentaryCreditDesk> call,
            Function<DocumentaryCreditDesk, String> sight) {
        DocumentaryCreditDesk desk = recipe.get();
        call.applyAsLong(desk);
        due(what, sight.apply(desk), sight.apply(recipe.get()));
    }
}
