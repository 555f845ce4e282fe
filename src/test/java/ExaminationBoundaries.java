import java.util.function.Supplier;

/** The examination and its deadline, and promises 21, 22, 24 and 29 to 31. */
final class ExaminationBoundaries {
    private static final int PENDING = DocumentaryCreditDesk.PENDING;
    private static final int DISCREPANT = DocumentaryCreditDesk.DISCREPANT;
    private static final int HONOURED = DocumentaryCreditDesk.HONOURED;
    private static final int REFUSED = DocumentaryCreditDesk.REFUSED;
    private static final String INDEX = "- `presentation`: index of a presentation ";
    private static final String NO_SUCH =
            "Throws `IndexOutOfBoundsException` if there is no such presentation";
    // The presentations of the busy desk.
    private static final int IN_ORDER = 0;
    private static final int NOT_IN_ORDER = 1;
    private static final int TOO_MUCH = 2;
    private static final int WAITING = 3;
    private static final int SENT_BACK = 4;

    private final Boundaries on;

    ExaminationBoundaries(Boundaries on) {
        this.on = on;
    }

    void run() {
        examination();
        questions();
        changes();
    }

    private void examination() {
        String examination = "Examination";
        on.sentence(examination, "A presentation that is PENDING can be examined.",
                this::onlyPendingOnes);
        on.sentence(examination,
                "The deadline is the day of the presentation with 5 business days added.",
                this::deadlines);
        on.sentence(examination, "If it has no discrepancies, it becomes HONOURED.",
                this::withoutDiscrepancies);
        on.sentence(examination, "If it has discrepancy 2, it becomes DISCREPANT.",
                this::withDiscrepancyTwo);
        on.sentence(examination, "Otherwise, if today is after the deadline, it becomes HONOURED (the"
                + " bank is precluded); else it becomes DISCREPANT.", this::afterTheDeadline);
        on.sentence(examination, "A DISCREPANT presentation can be waived (it becomes HONOURED), unless"
                + " it has discrepancy 2, or refused (it becomes REFUSED).",
                this::waivedOrRefused);
        on.sentence(examination, "An HONOURED presentation has a due day: the extended day that follows"
                + " the day on which it became HONOURED by its credit's tenor (0 to 180 days).",
                this::dueDays);
    }

    private void questions() {
        on.sentence("Promise 21", INDEX + "Returns the deadline of its examination.",
                this::deadlines);
        on.sentence("Promise 21", NO_SUCH,
                () -> on.noSuchPresentation((desk, paper) -> desk.deadline(paper)));
        on.sentence("Promise 22", INDEX + "Returns its due day; -1 if it is not HONOURED.",
                this::dueDayOfEveryState);
        on.sentence("Promise 22", NO_SUCH,
                () -> on.noSuchPresentation((desk, paper) -> desk.dueDay(paper)));
        on.sentence("Promise 24", "- `from`: first day - `to`: last day Returns the sum of the amounts of"
                + " the HONOURED presentations whose due day is from the first to the last day.",
                this::dueSums);
    }

    private void changes() {
        on.sentence("Promise 29", "Examines a presentation. " + INDEX + "Returns its state then.",
                this::examine);
        on.sentence("Promise 29", NO_SUCH,
                () -> on.noSuchPresentation((desk, paper) -> desk.examine(paper)));
        on.sentence("Promise 29", "Throws `IllegalStateException` if it is not PENDING",
                this::onlyPendingOnes);
        on.sentence("Promise 30",
                "Waives the discrepancies of a presentation. " + INDEX + "Returns its due day.",
                this::waive);
        on.sentence("Promise 30", NO_SUCH,
                () -> on.noSuchPresentation((desk, paper) -> desk.waive(paper)));
        on.sentence("Promise 30",
                "Throws `IllegalStateException` if it is not DISCREPANT, or if it has discrepancy 2",
                this::impossibleWaivers);
        on.sentence("Promise 31", "Refuses a presentation. " + INDEX + "Returns the available sum of its"
                + " credit then.", this::refuse);
        on.sentence("Promise 31", NO_SUCH,
                () -> on.noSuchPresentation((desk, paper) -> desk.refuse(paper)));
        on.sentence("Promise 31", "Throws `IllegalStateException` if it is not DISCREPANT",
                this::impossibleRefusals);
    }

    // Examination

    private void onlyPendingOnes() {
        on.due("a pending one", Desks.busy().examine(WAITING), HONOURED);
        int[] others = {IN_ORDER, NOT_IN_ORDER, TOO_MUCH, SENT_BACK};
        for (int paper : others) {
            on.badState("presentation " + paper, Desks::busy, desk -> desk.examine(paper));
        }
        DocumentaryCreditDesk desk = Desks.busy();
        desk.examine(WAITING);
        desk.undo();
        on.due("one whose examination has been undone", desk.examine(WAITING), HONOURED);
        on.badState("one that has been waived", () -> {
            DocumentaryCreditDesk twin = Desks.busy();
            twin.waive(NOT_IN_ORDER);
            return twin;
        }, twin -> twin.examine(NOT_IN_ORDER));
    }

    private void deadlines() {
        String text = Desks.PARTIAL;
        int[] days = {0, 1, 4, 5, 6, 7, 9000};
        // The last day is a Saturday: 1285 weeks and five days.
        int[] deadlines = {7, 8, 11, 11, 11, 14, 9006};
        for (int i = 0; i < days.length; i++) {
            on.due("of day " + days[i], deadlineOf(text, days[i]), deadlines[i]);
        }
        on.due("over a holiday", deadlineOf("holiday 3;" + text, 0), 8);
        on.due("a holiday on the deadline", deadlineOf("holiday 7;" + text, 0), 8);
        on.due("a holiday on the day itself", deadlineOf("holiday 0;" + text, 0), 7);
        on.due("a holiday behind it", deadlineOf("holiday 8;" + text, 0), 7);
        on.due("over sixteen holidays",
                deadlineOf("holiday 1 2 3 4 7 8 9 10 11 14 15 16 17 18 21 22;" + text, 0), 29);
        DocumentaryCreditDesk desk = Desks.busy();
        on.due("of one made earlier", desk.deadline(WAITING), 9);
        desk.examine(WAITING);
        desk.pass(100);
        on.due("it stays", desk.deadline(WAITING), 9);
    }

    private static int deadlineOf(String text, int day) {
        DocumentaryCreditDesk desk = Desks.onDay(text, day);
        desk.present(0, 0, 1, 0, 0);
        return desk.deadline(0);
    }

    /** Presents on day 0 and examines on another day; the deadline is day 7. */
    private static int examinedOn(int day, int shipped, int amount) {
        DocumentaryCreditDesk desk = Desks.with(Desks.PARTIAL);
        desk.present(0, shipped, amount, 0, 0);
        Desks.pass(desk, day);
        return desk.examine(0);
    }

    private void withoutDiscrepancies() {
        on.due("on the same day", examinedOn(0, 0, 1000), HONOURED);
        on.due("on the deadline", examinedOn(7, 0, 1000), HONOURED);
        on.due("after it", examinedOn(8, 0, 1000), HONOURED);
        on.due("with one discrepancy", examinedOn(0, 1, 1000), DISCREPANT);
        on.due("with discrepancy 2", examinedOn(0, 0, 1001), DISCREPANT);
    }

    private void withDiscrepancyTwo() {
        on.due("on the same day", examinedOn(0, 0, 1001), DISCREPANT);
        on.due("on the deadline", examinedOn(7, 0, 1001), DISCREPANT);
        on.due("after it", examinedOn(8, 0, 1001), DISCREPANT);
        on.due("long after it", examinedOn(9000, 0, 1001), DISCREPANT);
        on.due("after it, and one discrepancy more", examinedOn(8, 1, 1001), DISCREPANT);
        on.due("after it, and another discrepancy alone", examinedOn(8, 1, 1000), HONOURED);
    }

    private void afterTheDeadline() {
        on.due("on the same day", examinedOn(0, 1, 1), DISCREPANT);
        on.due("the day before the deadline", examinedOn(6, 1, 1), DISCREPANT);
        on.due("on the deadline", examinedOn(7, 1, 1), DISCREPANT);
        on.due("a day after it", examinedOn(8, 1, 1), HONOURED);
        on.due("long after it", examinedOn(9000, 1, 1), HONOURED);
        DocumentaryCreditDesk desk = Desks.with("holiday 7 8;" + Desks.PARTIAL);
        desk.present(0, 1, 1, 0, 0);
        desk.present(0, 1, 1, 0, 0);
        desk.pass(9);
        on.due("on a deadline moved by holidays", desk.examine(0), DISCREPANT);
        desk.pass(1);
        on.due("a day after that", desk.examine(1), HONOURED);
    }

    private void waivedOrRefused() {
        DocumentaryCreditDesk desk = Desks.busy();
        desk.waive(NOT_IN_ORDER);
        on.due("waived", desk.state(NOT_IN_ORDER), HONOURED);
        desk.undo();
        on.due("the waiver undone", desk.state(NOT_IN_ORDER), DISCREPANT);
        desk.refuse(NOT_IN_ORDER);
        on.due("refused", desk.state(NOT_IN_ORDER), REFUSED);
        on.badState("overdrawn, waived", Desks::busy, twin -> twin.waive(TOO_MUCH));
        desk.refuse(TOO_MUCH);
        on.due("overdrawn, refused", desk.state(TOO_MUCH), REFUSED);
    }

    private void dueDays() {
        int[][] rows = {
            // day, tenor, due day
            {0, 0, 0}, {0, 1, 1}, {0, 5, 7}, {4, 0, 4}, {4, 1, 7}, {5, 0, 7}, {0, 179, 179},
            {0, 180, 182}, {3, 180, 183}, {9000, 180, 9180}, {9000, 0, 9002}};
        for (int[] row : rows) {
            DocumentaryCreditDesk desk = Desks.onDay(
                    "credit 9 0 0 999 999 60 " + row[1] + " partial;", row[0]);
            desk.present(0, row[0], 1, 0, 0);
            if (desk.examine(0) == DISCREPANT) {
                on.due("waived on day " + row[0], desk.waive(0), row[2]);
            }
            on.due("day " + row[0] + ", tenor " + row[1], desk.dueDay(0), row[2]);
        }
        DocumentaryCreditDesk desk = Desks.with("holiday 14;credit 9 0 0 999 999 60 7 partial;");
        desk.present(0, 0, 1, 0, 0);
        desk.pass(6);
        desk.examine(0);
        on.due("from the day of the examination", desk.dueDay(0), 13 + 2);
        desk.pass(50);
        on.due("it stays", desk.dueDay(0), 15);
        on.due("tenor 180", Checks.load(Desks.empty(), "credit 9 0 0 0 0 1 180;"), 1);
        on.due("tenor 181", Checks.load(Desks.empty(), "credit 9 0 0 0 0 1 181;"),
                DocumentaryCreditDesk.OUT_OF_RANGE);
    }

    // Promises 22 and 24

    private void dueDayOfEveryState() {
        DocumentaryCreditDesk desk = Desks.busy();
        on.due("honoured on day 0", desk.dueDay(IN_ORDER), 30);
        on.due("discrepant", desk.dueDay(NOT_IN_ORDER), -1);
        on.due("discrepant, overdrawn", desk.dueDay(TOO_MUCH), -1);
        on.due("pending", desk.dueDay(WAITING), -1);
        on.due("refused", desk.dueDay(SENT_BACK), -1);
        desk.examine(WAITING);
        on.due("honoured on day 4", desk.dueDay(WAITING), 35);
        desk.undo();
        on.due("that undone", desk.dueDay(WAITING), -1);
        DocumentaryCreditDesk first = Desks.withPresentations(1);
        first.examine(0);
        on.due("due on day 0", first.dueDay(0), 0);
    }

    private void dueSums() {
        DocumentaryCreditDesk desk = Desks.with("credit 999999 10 0 900 900 60 2 partial;"
                + "credit 999999 10 0 900 900 60 8 partial;credit 9 0 0 900 900 60 0 partial;");
        desk.present(0, 0, 1099998, 0, 0);
        desk.present(1, 0, 700, 0, 0);
        desk.present(2, 0, 5, 0, 0);
        desk.present(2, 9, 4, 0, 0);
        on.due("before one is honoured", desk.dueBetween(Integer.MIN_VALUE, Integer.MAX_VALUE), 0);
        for (int paper = 0; paper < 4; paper++) {
            desk.examine(paper);
        }
        int[][] rows = {
            // first day, last day, sum
            {2, 2, 1099998}, {1, 2, 1099998}, {2, 3, 1099998}, {1, 1, 0}, {3, 7, 0}, {8, 8, 700},
            {2, 8, 1100698}, {2, 7, 1099998}, {3, 8, 700}, {0, 0, 5}, {-1, -1, 0}, {-1, 0, 5},
            {9, 9999, 0}, {8, 2, 0}, {1, 0, 0}, {Integer.MAX_VALUE, Integer.MIN_VALUE, 0},
            {Integer.MIN_VALUE, Integer.MAX_VALUE, 1100703}, {Integer.MIN_VALUE, -1, 0},
            {8, Integer.MAX_VALUE, 700}, {Integer.MIN_VALUE, 0, 5}};
        for (int[] row : rows) {
            on.due("from " + row[0] + " to " + row[1], desk.dueBetween(row[0], row[1]), row[2]);
        }
        desk.waive(3);
        on.due("with one that has been waived", desk.dueBetween(0, 0), 9);
        on.due("of twelve credits", greatestDueSum(), 12 * 1099998L);
    }

    private static long greatestDueSum() {
        DocumentaryCreditDesk desk = Desks.with("credit 999999 10 0 900 900 60 2 partial;".repeat(12));
        for (int credit = 0; credit < 12; credit++) {
            desk.examine(desk.present(credit, 0, 1099998, 0, 0));
        }
        return desk.dueBetween(2, 2);
    }

    // Promises 29 to 31

    private void examine() {
        DocumentaryCreditDesk desk = Desks.withPresentations(24);
        on.due("the first, in order", desk.examine(0), HONOURED);
        on.due("its state", desk.state(0), HONOURED);
        on.due("the last, not in order", desk.examine(23), DISCREPANT);
        on.due("its state", desk.state(23), DISCREPANT);
        on.due("the state of another", desk.state(1), PENDING);
        on.due("undone", desk.undo(), 7);
        on.due("pending again", desk.state(23), PENDING);
    }

    private void waive() {
        DocumentaryCreditDesk desk = Desks.busy();
        on.due("on day 4, tenor 30", desk.waive(NOT_IN_ORDER), 35);
        on.due("dueDay", desk.dueDay(NOT_IN_ORDER), 35);
        on.due("its discrepancies stay", desk.discrepancies(NOT_IN_ORDER), 112);
        desk.undo();
        desk.pass(10);
        on.due("on day 14, tenor 30", desk.waive(NOT_IN_ORDER), 44);
        DocumentaryCreditDesk late = Desks.busy();
        late.pass(100);
        on.due("after the deadline too", late.waive(NOT_IN_ORDER), 134);
    }

    private void impossibleWaivers() {
        int[] others = {IN_ORDER, TOO_MUCH, WAITING, SENT_BACK};
        for (int paper : others) {
            on.badState("presentation " + paper, Desks::busy, desk -> desk.waive(paper));
        }
        on.due("presentation 1", Desks.busy().waive(NOT_IN_ORDER), 35);
        on.badState("waived already", () -> {
            DocumentaryCreditDesk twin = Desks.busy();
            twin.waive(NOT_IN_ORDER);
            return twin;
        }, twin -> twin.waive(NOT_IN_ORDER));
        Supplier<DocumentaryCreditDesk> all = () -> {
            DocumentaryCreditDesk twin = Desks.onDay("credit 100 0 0 9 9 9 0 needs 7;", 20);
            twin.present(0, 21, 50, 0, 0);
            twin.present(0, 21, 51, 0, 0);
            twin.examine(0);
            twin.examine(1);
            return twin;
        };
        on.due("all discrepancies but 2", all.get().waive(0), 21);
        on.badState("all discrepancies", all, twin -> twin.waive(1));
    }

    private void refuse() {
        DocumentaryCreditDesk desk = Desks.busy();
        on.due("available before", desk.available(0), 500);
        on.due("one that has been drawn", desk.refuse(NOT_IN_ORDER), 600);
        on.due("available then", desk.available(0), 600);
        on.due("one that is overdrawn", desk.refuse(TOO_MUCH), 500);
        DocumentaryCreditDesk all = Desks.with(Desks.PARTIAL);
        all.present(0, 9, 1000, 0, 0);
        all.examine(0);
        on.due("nothing is available", all.available(0), 0);
        on.due("all is available again", all.refuse(0), 1000);
    }

    private void impossibleRefusals() {
        int[] others = {IN_ORDER, WAITING, SENT_BACK};
        for (int paper : others) {
            on.badState("presentation " + paper, Desks::busy, desk -> desk.refuse(paper));
        }
        on.due("presentation 1", Desks.busy().refuse(NOT_IN_ORDER), 600);
        on.due("presentation 2", Desks.busy().refuse(TOO_MUCH), 500);
        on.badState("waived", () -> {
            DocumentaryCreditDesk twin = Desks.busy();
            twin.waive(NOT_IN_ORDER);
            return twin;
        }, twin -> twin.refuse(NOT_IN_ORDER));
    }
}
