import java.util.function.Supplier;

/** The presentations and their discrepancies, and promises 18 to 20, 25, 27 and 28. */
final class PresentationBoundaries {
    private static final String INDEX = "- `presentation`: index of a presentation ";
    private static final String NO_SUCH =
            "Throws `IndexOutOfBoundsException` if there is no such presentation";
    private static final String NO_SUCH_CREDIT =
            "Throws `IndexOutOfBoundsException` if there is no such credit";
    private static final String OUT_OF_RANGE = "Throws `IllegalArgumentException` if shipped, amount,"
            + " documents or insured is out of range";
    private static final String ARGUMENTS = "- `credit`: index of a credit - `shipped`: the day of"
            + " shipment, 0 to 9999 - `amount`: 1 to 1999999 - `documents`: a set of documents, 0 to"
            + " 255 - `insured`: the insured sum, 0 or more ";

    private final Boundaries on;

    PresentationBoundaries(Boundaries on) {
        this.on = on;
    }

    /** check and present: both look at the same arguments. */
    private interface Presenting {
        int call(DocumentaryCreditDesk desk, int credit, int shipped, int amount, int documents,
                int insured);
    }

    void run() {
        sums();
        discrepancies();
        questions();
        checking();
        fitting();
        presenting();
    }

    private void sums() {
        String presentations = "Presentations";
        on.sentence(presentations, "There are at most 24 presentations.",
                this::twentyFourPresentations);
        on.sentence(presentations, "A presentation belongs to a credit and has a day on which it was"
                + " made, a day of shipment, an amount, a set of documents, an insured sum, a set of"
                + " discrepancies, and a state: PENDING, DISCREPANT, HONOURED or REFUSED.",
                this::partsOfPresentation);
        on.sentence(presentations, "The drawn sum of a credit is the sum of the amounts of its"
                + " presentations that are not REFUSED and do not have discrepancy 2.",
                this::drawnSum);
        on.sentence(presentations, "The transferred sum is the sum of the amounts of the credits whose"
                + " parent it is.", this::transferredSum);
        on.sentence(presentations, "The available sum is its maximum minus its drawn sum minus its"
                + " transferred sum; it is never negative.", this::availableSum);
    }

    private void discrepancies() {
        String presentations = "Presentations";
        on.sentence(presentations, "When a presentation is made, it has these discrepancies, where today"
                + " is the day on which it is made:", this::judgedWhenMade);
        on.sentence(presentations, "- 0 (late shipment): the day of shipment is after the latest day of"
                + " shipment;", this::lateShipment);
        on.sentence(presentations, "- 1 (late presentation): today is after the extended expiry day, or"
                + " after the extended day that follows the day of shipment by the presentation period"
                + " (day of shipment + period);", this::latePresentation);
        on.sentence(presentations,
                "- 2 (overdrawn): its amount is greater than the available sum;", this::overdrawn);
        on.sentence(presentations, "- 3 (partial drawing): the credit is not partial, and the amount is"
                + " less than the minimum of the credit or the credit has another presentation that is"
                + " not REFUSED;", this::partialDrawing);
        on.sentence(presentations, "- 4 (missing documents): a needed document is not in the set of"
                + " documents;", this::missingDocuments);
        on.sentence(presentations, "- 5 (insurance): document 7 is needed, and the insured sum is less"
                + " than amount + amount / 10;", this::insurance);
        on.sentence(presentations,
                "- 6 (shipment in the future): the day of shipment is after today.",
                this::futureShipment);
    }

    private void questions() {
        on.sentence("Promise 18", INDEX + "Returns its credit.", this::creditOf);
        on.sentence("Promise 18", NO_SUCH,
                () -> on.noSuchPresentation((desk, paper) -> desk.creditOf(paper)));
        on.sentence("Promise 19", INDEX + "Returns its state.", this::states);
        on.sentence("Promise 19", NO_SUCH,
                () -> on.noSuchPresentation((desk, paper) -> desk.state(paper)));
        on.sentence("Promise 20", INDEX + "Returns the set of its discrepancies.", this::noneAndAll);
        on.sentence("Promise 20", NO_SUCH,
                () -> on.noSuchPresentation((desk, paper) -> desk.discrepancies(paper)));
        on.sentence("The constants", "- `PENDING = 0`: State of a presentation: it has not been"
                + " examined. - `DISCREPANT = 1`: State of a presentation: it has been examined and is"
                + " not in order. - `HONOURED = 2`: State of a presentation: it will be paid or has"
                + " been paid. - `REFUSED = 3`: State of a presentation: it has been refused.",
                this::states);
    }

    private void checking() {
        on.sentence("Promise 25",
                "Tells which discrepancies a presentation would have if it were made today.",
                this::checkAndPresent);
        on.sentence("Promise 25", ARGUMENTS + "Returns the set of discrepancies.",
                () -> extremes(DocumentaryCreditDesk::check, 0));
        on.sentence("Promise 25", NO_SUCH_CREDIT,
                () -> on.noSuchCredit((desk, credit) -> desk.check(credit, 0, 1, 0, 0)));
        on.sentence("Promise 25", OUT_OF_RANGE,
                () -> wrongArguments(DocumentaryCreditDesk::check));
    }

    private void fitting() {
        on.sentence("Promise 27", "Finds the best set of REFUSED presentations of a credit whose amounts"
                + " would together fit into its available sum: the set with the greatest sum;",
                this::greatestSum);
        on.sentence("Promise 27", "of several, the one with the smallest number as a bit set.",
                this::smallestNumber);
        on.sentence("Promise 27",
                "Only the first 12 REFUSED presentations of the credit are considered.",
                this::firstTwelve);
        on.sentence("Promise 27", "- `credit`: index of a credit Returns the set of presentations (0 for"
                + " the empty set).", this::emptySet);
        on.sentence("Promise 27", NO_SUCH_CREDIT,
                () -> on.noSuchCredit((desk, credit) -> desk.bestFit(credit)));
    }

    private void presenting() {
        on.sentence("Promise 28", "Makes a presentation; it is PENDING.", this::newPresentation);
        on.sentence("Promise 28", ARGUMENTS + "Returns its index.",
                () -> extremes(DocumentaryCreditDesk::present, 1));
        on.sentence("Promise 28", NO_SUCH_CREDIT,
                () -> on.noSuchCredit((desk, credit) -> desk.present(credit, 0, 1, 0, 0)));
        on.sentence("Promise 28", OUT_OF_RANGE,
                () -> wrongArguments(DocumentaryCreditDesk::present));
        on.sentence("Promise 28", "Throws `IllegalStateException` if there are 24 presentations",
                this::twentyFourPresentations);
    }

    // Sums

    private void twentyFourPresentations() {
        DocumentaryCreditDesk desk = Desks.withPresentations(23);
        on.due("the 24th", desk.present(0, 0, 1, 0, 0), 23);
        on.due("the last index", desk.creditOf(23), 0);
        Supplier<DocumentaryCreditDesk> full = () -> Desks.withPresentations(24);
        on.badState("a 25th", full, twin -> twin.present(0, 0, 1, 0, 0));
        desk.undo();
        on.due("when the 24th has been undone", desk.present(0, 0, 1, 0, 0), 23);
        DocumentaryCreditDesk refused = Desks.with("credit 1000 0 0 900 900 60 0 partial;");
        for (int i = 0; i < 24; i++) {
            Desks.refuseAll(refused, 0, 1);
        }
        on.due("24 refused ones", refused.presentationCount(), 24);
        on.badState("a 25th behind refused ones", () -> {
            DocumentaryCreditDesk twin = Desks.withPresentations(0);
            for (int i = 0; i < 24; i++) {
                Desks.refuseAll(twin, 0, 1);
            }
            return twin;
        }, twin -> twin.present(0, 0, 1, 0, 0));
    }

    private void partsOfPresentation() {
        DocumentaryCreditDesk desk = Desks.onDay(
                "fee amount*1000+days;credit 9 0 0 90 90 60 0;credit 9 0 0 90 90 60 0;", 3);
        desk.present(1, 4, 9, 0, 0);
        desk.pass(2);
        on.due("its credit", desk.creditOf(0), 1);
        on.due("its amount and the day on which it was made", desk.fee(0), 9002);
        on.due("its discrepancies", desk.discrepancies(0), 64);
        on.due("its state", desk.state(0), DocumentaryCreditDesk.PENDING);
    }

    private void drawnSum() {
        DocumentaryCreditDesk desk = Desks.with("credit 100 0 0 900 900 60 0 partial;");
        on.due("of none", desk.drawn(0), 0);
        desk.present(0, 0, 10, 0, 0);
        on.due("with a pending one", desk.drawn(0), 10);
        desk.present(0, 9, 20, 0, 0);
        desk.examine(1);
        on.due("with a discrepant one", desk.drawn(0), 30);
        desk.examine(0);
        on.due("with an honoured one", desk.drawn(0), 30);
        desk.present(0, 0, 71, 0, 0);
        on.due("with an overdrawn one", desk.drawn(0), 30);
        desk.present(0, 0, 70, 0, 0);
        on.due("with one that just fits", desk.drawn(0), 100);
        desk.refuse(1);
        on.due("with a refused one", desk.drawn(0), 80);
        desk.examine(2);
        on.due("the overdrawn one examined", desk.drawn(0), 80);
        desk.refuse(2);
        on.due("the overdrawn one refused", desk.drawn(0), 80);
    }

    private void transferredSum() {
        DocumentaryCreditDesk desk = Desks.with("credit 100 0 0 50 40 9 3 partial transferable;"
                + "credit 100 0 0 50 40 9 3 partial transferable;");
        on.due("of none", desk.transferred(0), 0);
        desk.transfer(0, 30, 1);
        on.due("of one", desk.transferred(0), 30);
        desk.transfer(1, 5, 1);
        on.due("another's does not count", desk.transferred(0), 30);
        on.due("the other one's", desk.transferred(1), 5);
        desk.transfer(0, 70, 1);
        on.due("of two", desk.transferred(0), 100);
        desk.present(2, 0, 30, 0, 0);
        on.due("whatever is drawn on the part", desk.transferred(0), 100);
    }

    private void availableSum() {
        DocumentaryCreditDesk desk = Desks.with("credit 100 10 0 900 900 60 0 partial transferable;");
        on.due("the maximum", desk.available(0), 110);
        desk.present(0, 9, 50, 0, 0);
        desk.transfer(0, 59, 1);
        on.due("less both sums", desk.available(0), 1);
        desk.present(0, 0, 1999999, 0, 0);
        on.due("not negative by an overdrawn one", desk.available(0), 1);
        desk.present(0, 0, 1, 0, 0);
        on.due("nothing is left", desk.available(0), 0);
        desk.present(0, 0, 1, 0, 0);
        on.due("not negative by one more", desk.available(0), 0);
        desk.examine(0);
        on.due("the refused one's amount again", desk.refuse(0), 50);
    }

    // Discrepancies

    private void judgedWhenMade() {
        DocumentaryCreditDesk desk = Desks.with("credit 100 0 0 4 9 60 0 partial;");
        desk.present(0, 1, 60, 0, 0);
        desk.present(0, 0, 60, 0, 0);
        desk.pass(4);
        desk.present(0, 0, 1, 0, 0);
        desk.pass(1);
        desk.present(0, 0, 1, 0, 0);
        on.due("in the future then", desk.discrepancies(0), 64);
        on.due("too much then", desk.discrepancies(1), 4);
        on.due("in time then", desk.discrepancies(2), 0);
        on.due("late then", desk.discrepancies(3), 2);
        desk.examine(0);
        desk.waive(0);
        on.due("as it was made, when waived", desk.discrepancies(0), 64);
        on.due("too much, whatever is left now", desk.discrepancies(1), 4);
    }

    private void lateShipment() {
        DocumentaryCreditDesk desk = Desks.onDay("credit 100 0 0 900 10 60 0 partial;"
                + "credit 100 0 0 900 0 60 0 partial;credit 100 0 0 900 999 60 0 partial;", 20);
        on.due("the day before", desk.check(0, 9, 1, 0, 0), 0);
        on.due("on the latest day", desk.check(0, 10, 1, 0, 0), 0);
        on.due("a day later", desk.check(0, 11, 1, 0, 0), 1);
        on.due("on day 0", desk.check(1, 0, 1, 0, 0), 0);
        on.due("on day 1", desk.check(1, 1, 1, 0, 0), 1);
        on.due("on day 999", desk.check(2, 999, 1, 0, 0), 64);
        on.due("on day 1000", desk.check(2, 1000, 1, 0, 0), 65);
    }

    private void latePresentation() {
        String text = "holiday 21;credit 100 0 0 19 10 60 0 partial;"
                + "credit 100 0 0 900 99 16 0 partial;credit 100 0 0 999 999 60 0 partial;";
        int[] days = {19, 21, 22};
        for (int day : days) {
            DocumentaryCreditDesk desk = Desks.onDay(text, day);
            on.due("expiry, day " + day, desk.check(0, 0, 1, 0, 0), 0);
            on.due("period, day " + day, desk.check(1, 3, 1, 0, 0), 0);
        }
        DocumentaryCreditDesk desk = Desks.onDay(text, 23);
        on.due("expiry, day 23", desk.check(0, 0, 1, 0, 0), 2);
        on.due("period, day 23", desk.check(1, 3, 1, 0, 0), 2);
        on.due("a later shipment, day 23", desk.check(1, 7, 1, 0, 0), 0);
        on.due("latest expiry, day 1001", Desks.onDay(text, 1001).check(2, 990, 1, 0, 0), 0);
        on.due("latest expiry, day 1002", Desks.onDay(text, 1002).check(2, 990, 1, 0, 0), 2);
        on.due("longest period, day 60", Desks.onDay(text, 60).check(2, 0, 1, 0, 0), 0);
        on.due("longest period, day 61", Desks.onDay(text, 61).check(2, 0, 1, 0, 0), 2);
    }

    private void overdrawn() {
        DocumentaryCreditDesk desk = Desks.with("credit 100 10 0 900 900 60 0 partial transferable;"
                + "credit 999999 10 0 900 900 60 0 partial;");
        on.due("the maximum", desk.check(0, 0, 110, 0, 0), 0);
        on.due("one more", desk.check(0, 0, 111, 0, 0), 4);
        desk.present(0, 0, 50, 0, 0);
        desk.transfer(0, 10, 0);
        on.due("what is left", desk.check(0, 0, 50, 0, 0), 0);
        on.due("one more than is left", desk.check(0, 0, 51, 0, 0), 4);
        desk.present(0, 0, 50, 0, 0);
        on.due("1 when nothing is left", desk.check(0, 0, 1, 0, 0), 4);
        on.due("the greatest maximum", desk.check(1, 0, 1099998, 0, 0), 0);
        on.due("one more than that", desk.check(1, 0, 1099999, 0, 0), 4);
        on.due("the greatest amount", desk.check(1, 0, 1999999, 0, 0), 4);
    }

    private void partialDrawing() {
        String text = "credit 100 10 10 900 900 60 0;credit 100 10 10 900 900 60 0 partial;";
        DocumentaryCreditDesk desk = Desks.with(text);
        on.due("the minimum", desk.check(0, 0, 90, 0, 0), 0);
        on.due("less than it", desk.check(0, 0, 89, 0, 0), 8);
        on.due("less than it of a partial credit", desk.check(1, 0, 89, 0, 0), 0);
        desk.present(1, 0, 1, 0, 0);
        on.due("another of another credit", desk.check(0, 0, 90, 0, 0), 0);
        desk.present(0, 0, 111, 0, 0);
        on.due("the other is pending", desk.check(0, 0, 90, 0, 0), 8);
        on.due("it has no other itself", desk.discrepancies(1), 4);
        desk.examine(1);
        on.due("the other is discrepant", desk.check(0, 0, 90, 0, 0), 8);
        desk.refuse(1);
        on.due("the other is refused", desk.check(0, 0, 90, 0, 0), 0);
        desk.present(0, 0, 90, 0, 0);
        desk.examine(2);
        on.due("the other is honoured", desk.check(0, 0, 1, 0, 0), 8);
        on.due("another of a partial credit", desk.check(1, 0, 1, 0, 0), 0);
    }

    private void missingDocuments() {
        DocumentaryCreditDesk desk = Desks.with("credit 100 0 0 900 900 60 0 partial needs 0 3 7;"
                + "credit 100 0 0 900 900 60 0 partial;");
        for (int set = 0; set < 256; set++) {
            on.due("set " + set, desk.check(0, 0, 1, set, 9), (set & 137) == 137 ? 0 : 16);
        }
        on.due("none needed, none given", desk.check(1, 0, 1, 0, 0), 0);
        on.due("none needed, all given", desk.check(1, 0, 1, 255, 0), 0);
    }

    private void insurance() {
        DocumentaryCreditDesk desk = Desks.with("credit 999999 10 0 900 900 60 0 partial needs 7;"
                + "credit 999999 10 0 900 900 60 0 partial needs 6;");
        int[] amounts = {1, 9, 10, 19, 20, 99, 100, 1099998};
        int[] sums = {1, 9, 11, 20, 22, 108, 110, 1209997};
        for (int i = 0; i < amounts.length; i++) {
            on.due("enough for " + amounts[i], desk.check(0, 0, amounts[i], 128, sums[i]), 0);
            on.due("less for " + amounts[i], desk.check(0, 0, amounts[i], 128, sums[i] - 1), 32);
            on.due("not needed for " + amounts[i], desk.check(1, 0, amounts[i], 192, 0), 0);
        }
        on.due("enough, without the document", desk.check(0, 0, 10, 0, 11), 16);
        on.due("less, without the document", desk.check(0, 0, 10, 0, 10), 48);
        on.due("enough for the greatest amount", desk.check(0, 0, 1999999, 128, 2199998), 4);
        on.due("less for the greatest amount", desk.check(0, 0, 1999999, 128, 2199997), 36);
        on.due("the greatest sum", desk.check(0, 0, 1, 128, Integer.MAX_VALUE), 0);
    }

    private void futureShipment() {
        DocumentaryCreditDesk desk = Desks.with("credit 100 0 0 999 999 60 0 partial;");
        on.due("day 0 on day 0", desk.check(0, 0, 1, 0, 0), 0);
        on.due("day 1 on day 0", desk.check(0, 1, 1, 0, 0), 64);
        desk.pass(8);
        on.due("yesterday", desk.check(0, 7, 1, 0, 0), 0);
        on.due("today", desk.check(0, 8, 1, 0, 0), 0);
        on.due("tomorrow", desk.check(0, 9, 1, 0, 0), 64);
        on.due("the last day", desk.check(0, 9999, 1, 0, 0), 65);
        DocumentaryCreditDesk last = Desks.onDay("credit 100 0 0 999 999 60 0 partial;", 9000);
        on.due("today is day 9000", last.check(0, 9000, 1, 0, 0), 3);
        on.due("day 9001 then", last.check(0, 9001, 1, 0, 0), 67);
    }

    // Promises 18 to 20

    private void creditOf() {
        DocumentaryCreditDesk desk = Desks.withTwelveCredits();
        on.due("made for the last", desk.present(11, 0, 1, 0, 0), 0);
        desk.present(0, 0, 1, 0, 0);
        on.due("the last credit", desk.creditOf(0), 11);
        on.due("the first credit", desk.creditOf(1), 0);
        on.due("the last of 24", Desks.withPresentations(24).creditOf(23), 0);
    }

    private void states() {
        DocumentaryCreditDesk desk = Desks.busy();
        on.due("honoured", desk.state(0), 2);
        on.due("discrepant", desk.state(1), 1);
        on.due("discrepant, overdrawn", desk.state(2), 1);
        on.due("pending", desk.state(3), 0);
        on.due("refused", desk.state(4), 3);
        desk.waive(1);
        on.due("waived", desk.state(1), 2);
    }

    private void noneAndAll() {
        DocumentaryCreditDesk desk = Desks.onDay("credit 100 0 0 9 9 9 0 needs 7;", 20);
        desk.present(0, 21, 50, 0, 0);
        desk.present(0, 21, 51, 0, 0);
        on.due("all but overdrawn", desk.discrepancies(0), 123);
        on.due("all", desk.discrepancies(1), 127);
        on.due("none", Desks.withPresentations(1).discrepancies(0), 0);
    }

    // check and present

    private void checkAndPresent() {
        int[][] rows = {{0, 0, 1, 255, 9999}, {0, 9999, 1999999, 0, 0}, {1, 0, 450, 0, 0},
            {1, 5, 449, 0, 0}, {2, 4, 150, 129, 165}, {2, 4, 151, 128, 165}, {0, 61, 1, 1, 0}};
        for (int[] row : rows) {
            DocumentaryCreditDesk desk = Desks.busy();
            int found = desk.check(row[0], row[1], row[2], row[3], row[4]);
            int paper = desk.present(row[0], row[1], row[2], row[3], row[4]);
            on.due("the same for " + row[2], desk.discrepancies(paper), found);
            on.unchanged("check of " + row[2], Desks::busy,
                    twin -> twin.check(row[0], row[1], row[2], row[3], row[4]));
        }
        DocumentaryCreditDesk desk = Desks.with("credit 100 0 0 0 99 60 0 partial;");
        on.due("today", desk.check(0, 0, 1, 0, 0), 0);
        desk.pass(1);
        on.due("tomorrow", desk.check(0, 0, 1, 0, 0), 2);
        on.due("with 24 presentations", Desks.withPresentations(24).check(0, 0, 1, 0, 0), 0);
    }

    /** The least and the greatest arguments; present answers an index, check a set. */
    private void extremes(Presenting method, int kind) {
        String text = "credit 999999 10 0 999 999 60 0 partial;credit 9 0 0 999 999 60 0 partial;";
        int[][] rows = {{0, 0, 1, 0, 0, 0}, {0, 9999, 1, 0, 0, 65}, {0, 0, 1999999, 0, 0, 4},
            {0, 0, 1, 255, 0, 0}, {0, 0, 1, 0, Integer.MAX_VALUE, 0},
            {1, 9999, 1999999, 255, Integer.MAX_VALUE, 69}, {1, 0, 9, 0, 0, 0}, {1, 0, 10, 0, 0, 4}};
        for (int[] row : rows) {
            DocumentaryCreditDesk desk = Desks.with(text);
            int answer = method.call(desk, row[0], row[1], row[2], row[3], row[4]);
            on.due("shipped " + row[1] + ", amount " + row[2], answer, kind == 0 ? row[5] : 0);
            on.due("presentations then", desk.presentationCount(), kind);
            if (kind == 1) {
                on.due("the set of " + row[2], desk.discrepancies(0), row[5]);
                on.due("the next index", method.call(desk, 0, 0, 1, 0, 0), 1);
            }
        }
    }

    private void wrongArguments(Presenting method) {
        int[] days = {-1, 10000, Integer.MIN_VALUE, Integer.MAX_VALUE};
        int[] amounts = {0, -1, 2000000, Integer.MIN_VALUE, Integer.MAX_VALUE};
        int[] sets = {-1, 256, Integer.MIN_VALUE, Integer.MAX_VALUE};
        int[] sums = {-1, Integer.MIN_VALUE};
        for (int day : days) {
            on.badArgument("shipped " + day, Desks::busy,
                    desk -> method.call(desk, 0, day, 1, 0, 0));
        }
        for (int amount : amounts) {
            on.badArgument("amount " + amount, Desks::busy,
                    desk -> method.call(desk, 0, 0, amount, 0, 0));
        }
        for (int set : sets) {
            on.badArgument("documents " + set, Desks::busy,
                    desk -> method.call(desk, 0, 0, 1, set, 0));
        }
        for (int sum : sums) {
            on.badArgument("insured " + sum, Desks::busy,
                    desk -> method.call(desk, 0, 0, 1, 0, sum));
        }
        on.badArgument("all", Desks::busy, desk -> method.call(desk, 0, -1, 0, -1, -1));
        on.noSuch("all, and no such credit", Desks::busy,
                desk -> method.call(desk, 3, -1, 0, -1, -1));
    }

    private void newPresentation() {
        DocumentaryCreditDesk desk = Desks.with("credit 100 0 0 0 99 60 0 partial;");
        on.due("in order", desk.state(desk.present(0, 0, 1, 0, 0)), 0);
        on.due("not in order", desk.state(desk.present(0, 9, 1, 0, 0)), 0);
        on.due("overdrawn", desk.state(desk.present(0, 0, 101, 0, 0)), 0);
        on.due("presentations", desk.presentationCount(), 3);
        desk.undo();
        on.due("one less", desk.presentationCount(), 2);
    }

    // bestFit

    private static DocumentaryCreditDesk withRefused(int room, int... amounts) {
        DocumentaryCreditDesk desk = Desks.with("credit " + room + " 0 0 900 900 60 0 partial;");
        Desks.refuseAll(desk, 0, amounts);
        return desk;
    }

    private void greatestSum() {
        on.due("just what fits", withRefused(100, 100).bestFit(0), 1);
        on.due("one more than fits", withRefused(100, 101).bestFit(0), 0);
        on.due("both fit", withRefused(100, 60, 40).bestFit(0), 3);
        on.due("both do not fit", withRefused(100, 60, 41).bestFit(0), 1);
        on.due("the greater one", withRefused(100, 41, 60).bestFit(0), 2);
        on.due("two are more than the greatest", withRefused(100, 90, 51, 40).bestFit(0), 6);
        on.due("the greatest sum is not the fullest set",
                withRefused(100, 20, 30, 40, 99).bestFit(0), 8);
        DocumentaryCreditDesk desk = withRefused(100, 60, 40);
        desk.present(0, 0, 1, 0, 0);
        on.due("99 are available", desk.bestFit(0), 1);
        desk.undo();
        on.due("100 are available", desk.bestFit(0), 3);
        desk.present(0, 9, 40, 0, 0);
        desk.examine(2);
        on.due("a discrepant one is no candidate", desk.bestFit(0), 1);
        desk.refuse(2);
        on.due("a refused one is", desk.bestFit(0), 3);
        DocumentaryCreditDesk great = withRefused(999999, 1999999, 999999);
        on.due("the greatest amounts", great.bestFit(0), 2);
        DocumentaryCreditDesk two = Desks.with(Desks.PARTIAL + Desks.PARTIAL);
        Desks.refuseAll(two, 1, 7);
        on.due("another credit's is none", two.bestFit(0), 0);
        on.due("it is the other's", two.bestFit(1), 1);
    }

    private void smallestNumber() {
        on.due("of two equal ones", withRefused(100, 60, 60).bestFit(0), 1);
        on.due("of two pairs", withRefused(100, 70, 30, 30, 70).bestFit(0), 3);
        on.due("three of low bits before one of a high bit",
                withRefused(100, 20, 30, 50, 100).bestFit(0), 7);
        on.due("one of a low bit before two of high bits",
                withRefused(100, 100, 50, 50).bestFit(0), 1);
        on.due("a greater sum comes first", withRefused(100, 98, 99, 50, 50).bestFit(0), 12);
        on.due("of twelve equal ones",
                withRefused(3, 1, 1, 1, 1, 1, 1, 1, 1, 1, 1, 1, 1).bestFit(0), 7);
        on.due("two of low bits before three of high bits", withRefused(10, 6, 4, 1, 5).bestFit(0), 3);
    }

    private void firstTwelve() {
        int[] twelve = {1, 1, 1, 1, 1, 1, 1, 1, 1, 1, 1, 90};
        on.due("the twelfth", withRefused(101, twelve).bestFit(0), 4095);
        int[] thirteen = {1, 1, 1, 1, 1, 1, 1, 1, 1, 1, 1, 1, 90};
        on.due("the thirteenth", withRefused(101, thirteen).bestFit(0), 4095);
        DocumentaryCreditDesk late = Desks.with("credit 100 0 0 900 900 60 0 partial;"
                + "credit 9 0 0 900 900 60 0 partial;");
        for (int i = 0; i < 6; i++) {
            Desks.refuseAll(late, 1, 1);
            late.present(0, 0, 1, 0, 0);
        }
        Desks.refuseAll(late, 0, 1, 1, 1, 1, 1, 1, 1, 1, 1, 1, 1, 5);
        on.due("presentations", late.presentationCount(), 24);
        on.due("the twelfth of the credit is the 24th of all", late.bestFit(0), 4095 << 12);
        DocumentaryCreditDesk all = Desks.with("credit 100 0 0 900 900 60 0 partial;");
        for (int i = 0; i < 24; i++) {
            Desks.refuseAll(all, 0, i < 12 ? 9 : 1);
        }
        on.due("24 refused ones, eleven of which fit", all.bestFit(0), 2047);
    }

    private void emptySet() {
        on.due("no presentation", Desks.with(Desks.PARTIAL).bestFit(0), 0);
        on.due("none is refused", Desks.withPresentations(3).bestFit(0), 0);
        on.due("none fits", withRefused(5, 6, 7).bestFit(0), 0);
        on.due("one fits", withRefused(6, 6, 7).bestFit(0), 1);
        DocumentaryCreditDesk desk = withRefused(5, 1);
        on.due("room for it", desk.bestFit(0), 1);
        desk.present(0, 0, 5, 0, 0);
        on.due("no room at all", desk.bestFit(0), 0);
    }
}
