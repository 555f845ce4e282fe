import java.util.function.Supplier;

/** The credits, and promises 12 to 17, 26 and 32. */
final class CreditBoundaries {
    private static final int RANGE = DocumentaryCreditDesk.OUT_OF_RANGE;
    private static final int MANY = DocumentaryCreditDesk.TOO_MANY;
    private static final String INDEX = "- `credit`: index of a credit ";
    private static final String NO_SUCH =
            "Throws `IndexOutOfBoundsException` if there is no such credit";
    // The first can be transferred in parts, the second only once, the third not at all.
    private static final String THREE = "credit 100 10 10 50 40 9 3 partial transferable;"
            + "credit 100 10 10 50 40 9 3 transferable;credit 100 10 10 50 40 9 3 partial;";

    private final Boundaries on;

    CreditBoundaries(Boundaries on) {
        this.on = on;
    }

    void run() {
        credits();
        questions();
        lastDays();
        transfers();
    }

    private void credits() {
        String credits = "Credits";
        on.sentence(credits, "There are at most 12 credits.", this::twelveCredits);
        on.sentence(credits, "A credit has an amount (1 to 999999), an upper and a lower tolerance (0 to"
                + " 10 percent), an expiry day (0 to 999), a latest day of shipment (0 to 999), a"
                + " presentation period (1 to 60 days), and a set of needed documents (types 0 to 7).",
                this::rangesOfCredit);
        on.sentence(credits, "It may be partial (partial drawings are allowed) and transferable.",
                this::properties);
        on.sentence(credits, "A credit that has been made by a transfer has a parent.",
                this::parents);
        on.sentence(credits, "The maximum of a credit is amount + amount * (upper tolerance) / 100, its"
                + " minimum is amount - amount * (lower tolerance) / 100.", this::bounds);
    }

    private void questions() {
        on.sentence("Promise 12", INDEX + "Returns its parent; -1 if it has none.", this::parents);
        on.sentence("Promise 12", NO_SUCH,
                () -> on.noSuchCredit((desk, credit) -> desk.parent(credit)));
        on.sentence("Promise 13", INDEX + "- `upper`: true for its maximum, false for its minimum"
                + " Returns its maximum or minimum.", this::bounds);
        on.sentence("Promise 13", NO_SUCH, () -> {
            on.noSuchCredit((desk, credit) -> desk.bound(credit, true));
            on.noSuchCredit((desk, credit) -> desk.bound(credit, false));
        });
        on.sentence("Promise 14", INDEX + "Returns its expiry day (not extended).", this::expiry);
        on.sentence("Promise 14", NO_SUCH,
                () -> on.noSuchCredit((desk, credit) -> desk.expiry(credit)));
        on.sentence("Promise 15", INDEX + "Returns its drawn sum.", this::drawn);
        on.sentence("Promise 15", NO_SUCH,
                () -> on.noSuchCredit((desk, credit) -> desk.drawn(credit)));
        on.sentence("Promise 16", INDEX + "Returns its transferred sum.", this::transferred);
        on.sentence("Promise 16", NO_SUCH,
                () -> on.noSuchCredit((desk, credit) -> desk.transferred(credit)));
        on.sentence("Promise 17", INDEX + "Returns its available sum.", this::available);
        on.sentence("Promise 17", NO_SUCH,
                () -> on.noSuchCredit((desk, credit) -> desk.available(credit)));
    }

    private void lastDays() {
        on.sentence("Promise 26", "Finds the latest day on which documents for a shipment can be"
                + " presented without discrepancy 1.", this::latestDay);
        on.sentence("Promise 26", INDEX + "- `shipped`: the day of shipment, 0 to 9999 Returns the"
                + " smaller one of the two days that are named with discrepancy 1.",
                this::smallerDay);
        on.sentence("Promise 26", NO_SUCH,
                () -> on.noSuchCredit((desk, credit) -> desk.lastDay(credit, 0)));
        on.sentence("Promise 26", "Throws `IllegalArgumentException` if shipped is out of range",
                this::wrongShipments);
    }

    private void transfers() {
        String transfer = "Promise 32";
        on.sentence(transfer,
                "Transfers a part of a credit: a new credit is made, whose parent it is.",
                this::newCredit);
        on.sentence(transfer, "The new credit has the given amount and expiry day, tolerances of 0, the"
                + " smaller one of the parent's latest day of shipment and the given expiry day as its"
                + " latest day of shipment, and the parent's period, tenor, needed documents and"
                + " partial property;", this::termsOfPart);
        on.sentence(transfer, "it is not transferable.", this::partOfPart);
        on.sentence(transfer, INDEX + "- `amount`: 1 to 999999 - `expiry`: the expiry day, 0 to 999"
                + " Returns the index of the new credit.", this::rangesOfTransfer);
        on.sentence(transfer, NO_SUCH,
                () -> on.noSuchCredit((desk, credit) -> desk.transfer(credit, 1, 0)));
        on.sentence(transfer, "Throws `IllegalArgumentException` if amount or expiry is out of range, or"
                + " if expiry is after the expiry day of the credit", this::wrongTransfers);
        on.sentence(transfer, "Throws `IllegalStateException` if the credit is not transferable, if the"
                + " amount is greater than its available sum, if the credit is not partial and its"
                + " transferred sum is not 0, or if there are 12 credits",
                this::impossibleTransfers);
    }

    // Credits

    private void twelveCredits() {
        DocumentaryCreditDesk desk = Desks.empty();
        on.due("12 in a text", Checks.load(desk, Desks.CREDIT.repeat(12)), 12);
        on.due("13 in a text", Checks.load(desk, Desks.CREDIT.repeat(13)), MANY);
        on.due("where the 13th stands", desk.errorOffset(), 252);
        DocumentaryCreditDesk eleven = Desks.with(THREE + Desks.CREDIT.repeat(8));
        on.due("the 12th by transfer", eleven.transfer(0, 1, 1), 11);
        on.badState("the 13th by transfer", Desks::withTwelveCredits,
                twelve -> twelve.transfer(0, 1, 1));
    }

    private void rangesOfCredit() {
        int[] least = {1, 0, 0, 0, 0, 1, 0};
        int[] most = {999999, 10, 10, 999, 999, 60, 180};
        for (int place = 0; place < 7; place++) {
            answerOf(place, least[place], 1);
            answerOf(place, most[place], 1);
            answerOf(place, most[place] + 1, RANGE);
            if (least[place] > 0) {
                answerOf(place, least[place] - 1, RANGE);
            }
        }
        on.due("document 0", Checks.load(Desks.empty(), "credit 1 0 0 0 0 1 0 needs 0;"), 1);
        on.due("document 7", Checks.load(Desks.empty(), "credit 1 0 0 0 0 1 0 needs 7;"), 1);
        on.due("document 8", Checks.load(Desks.empty(), "credit 1 0 0 0 0 1 0 needs 8;"), RANGE);
    }

    private void answerOf(int place, int number, int want) {
        StringBuilder text = new StringBuilder("credit");
        int offset = -1;
        for (int i = 0; i < 7; i++) {
            text.append(' ');
            if (i == place && want < 0) {
                offset = text.length();
            }
            text.append(i == place ? number : 5);
        }
        DocumentaryCreditDesk desk = Desks.empty();
        on.due("'" + text + "'", Checks.load(desk, text + ";"), want);
        on.due("'" + text + "' at", desk.errorOffset(), offset);
    }

    private void properties() {
        DocumentaryCreditDesk desk = Desks.with("credit 100 0 0 50 40 9 3;"
                + "credit 100 0 0 50 40 9 3 partial;credit 100 0 0 50 40 9 3 transferable;"
                + "credit 100 0 0 50 40 9 3 partial transferable;");
        for (int credit = 0; credit < 4; credit++) {
            boolean isPartial = credit == 1 || credit == 3;
            on.due("partial " + credit, desk.check(credit, 0, 99, 0, 0), isPartial ? 0 : 8);
            on.due("the whole of " + credit, desk.check(credit, 0, 100, 0, 0), 0);
        }
        on.due("transferable 2", desk.transfer(2, 1, 1), 4);
        on.due("transferable 3", desk.transfer(3, 1, 1), 5);
        on.badState("not transferable 0", () -> Desks.with("credit 100 0 0 50 40 9 3;"),
                plain -> plain.transfer(0, 1, 1));
        on.badState("not transferable 1", () -> Desks.with("credit 100 0 0 50 40 9 3 partial;"),
                plain -> plain.transfer(0, 1, 1));
    }

    private void parents() {
        DocumentaryCreditDesk desk = Desks.with(THREE);
        for (int credit = 0; credit < 3; credit++) {
            on.due("of credit " + credit, desk.parent(credit), -1);
        }
        desk.transfer(1, 5, 5);
        desk.transfer(0, 5, 5);
        on.due("of the first part", desk.parent(3), 1);
        on.due("of the second part", desk.parent(4), 0);
        on.due("of a credit with a part", desk.parent(0), -1);
        DocumentaryCreditDesk last = Desks.with(Desks.CREDIT.repeat(10)
                + "credit 100 0 0 50 40 9 3 transferable;");
        last.transfer(10, 5, 5);
        on.due("of the 12th", last.parent(11), 10);
    }

    private void bounds() {
        int[][] rows = {
            // amount, upper and lower tolerance, maximum, minimum
            {1, 0, 0, 1, 1}, {1, 10, 10, 1, 1}, {9, 10, 10, 9, 9}, {10, 10, 10, 11, 9},
            {99, 1, 1, 99, 99}, {100, 1, 1, 101, 99}, {19, 10, 5, 20, 19}, {20, 10, 5, 22, 19},
            {999999, 0, 0, 999999, 999999}, {999999, 10, 0, 1099998, 999999},
            {999999, 0, 10, 999999, 900000}, {999999, 1, 1, 1009998, 990000}};
        for (int[] row : rows) {
            DocumentaryCreditDesk desk = Desks.with(
                    "credit " + row[0] + " " + row[1] + " " + row[2] + " 9 9 9 0;");
            on.due("maximum of " + row[0] + " + " + row[1], desk.bound(0, true), row[3]);
            on.due("minimum of " + row[0] + " - " + row[2], desk.bound(0, false), row[4]);
            on.due("the same is available", desk.available(0), row[3]);
        }
        DocumentaryCreditDesk drawnOn = Desks.busy();
        on.due("maximum, whatever is drawn", drawnOn.bound(0, true), 1100);
        on.due("minimum, whatever is drawn", drawnOn.bound(0, false), 950);
    }

    // Promises 14 to 17

    private void expiry() {
        DocumentaryCreditDesk desk = Desks.with("holiday 5 7;credit 9 0 0 0 0 9 0;"
                + "credit 9 0 0 999 9 9 0;credit 9 0 0 5 9 9 0;credit 9 0 0 7 9 9 0;");
        int[] days = {0, 999, 5, 7};
        for (int credit = 0; credit < days.length; credit++) {
            on.due("of credit " + credit, desk.expiry(credit), days[credit]);
        }
        Desks.pass(desk, 1000);
        on.due("of an expired credit", desk.expiry(0), 0);
    }

    private void drawn() {
        DocumentaryCreditDesk desk = Desks.with("credit 999999 10 0 900 900 60 0 partial;");
        on.due("of nothing", desk.drawn(0), 0);
        desk.present(0, 0, 1099998, 0, 0);
        on.due("of the maximum", desk.drawn(0), 1099998);
        desk.present(0, 0, 1, 0, 0);
        on.due("and of an overdrawn one", desk.drawn(0), 1099998);
        DocumentaryCreditDesk many = Desks.withPresentations(24);
        on.due("of 24", many.drawn(0), 24);
    }

    private void transferred() {
        DocumentaryCreditDesk desk = Desks.with("credit 999999 10 0 900 900 60 0 partial transferable;");
        on.due("of nothing", desk.transferred(0), 0);
        desk.transfer(0, 999999, 0);
        on.due("of the greatest part", desk.transferred(0), 999999);
        desk.transfer(0, 99999, 0);
        on.due("of all", desk.transferred(0), 1099998);
        on.due("of a part", desk.transferred(1), 0);
        DocumentaryCreditDesk many = Desks.with("credit 100 0 0 50 40 9 3 partial transferable;");
        for (int part = 1; part < 12; part++) {
            many.transfer(0, part, 1);
        }
        on.due("of eleven parts", many.transferred(0), 66);
    }

    private void available() {
        DocumentaryCreditDesk desk = Desks.with("credit 100 10 0 900 900 60 0 partial transferable;");
        on.due("at first", desk.available(0), 110);
        desk.present(0, 0, 60, 0, 0);
        on.due("after a drawing", desk.available(0), 50);
        desk.transfer(0, 49, 1);
        on.due("after a transfer", desk.available(0), 1);
        desk.present(0, 0, 2, 0, 0);
        on.due("after an overdrawn one", desk.available(0), 1);
        desk.present(0, 0, 1, 0, 0);
        on.due("at last", desk.available(0), 0);
        on.due("of the part", desk.available(1), 49);
    }

    // Promise 26

    private void latestDay() {
        String text = "holiday 21;credit 100 0 0 19 10 60 0 partial;"
                + "credit 100 0 0 900 99 16 0 partial;";
        int[] shipments = {0, 3};
        for (int credit = 0; credit < 2; credit++) {
            int last = Desks.with(text).lastDay(credit, shipments[credit]);
            on.due("the latest day", last, 22);
            on.due("on that day",
                    Desks.onDay(text, last).check(credit, shipments[credit], 1, 0, 0) & 2, 0);
            on.due("a day later",
                    Desks.onDay(text, last + 1).check(credit, shipments[credit], 1, 0, 0) & 2, 2);
        }
    }

    private void smallerDay() {
        DocumentaryCreditDesk desk = Desks.with("credit 9 0 0 22 9 1 0;credit 9 0 0 999 9 60 0;"
                + "credit 9 0 0 0 9 60 0;credit 9 0 0 19 9 1 0;");
        on.due("by the shipment", desk.lastDay(0, 20), 21);
        on.due("both are the same", desk.lastDay(0, 21), 22);
        on.due("by the expiry", desk.lastDay(0, 22), 22);
        on.due("by the longest period, extended", desk.lastDay(1, 1), 63);
        on.due("the latest expiry, extended", desk.lastDay(1, 9999), 1001);
        on.due("a day before it", desk.lastDay(1, 938), 998);
        on.due("both extended", desk.lastDay(1, 939), 1001);
        on.due("expiry 0", desk.lastDay(2, 9999), 0);
        on.due("extended before they are compared", desk.lastDay(3, 18), 21);
        on.due("the shipment's is not extended", desk.lastDay(3, 17), 18);
        on.due("shipped 9999", desk.lastDay(0, 9999), 22);
        on.due("shipped 0, period 1", desk.lastDay(0, 0), 1);
    }

    private void wrongShipments() {
        int[] days = {-1, 10000, Integer.MIN_VALUE, Integer.MAX_VALUE};
        for (int day : days) {
            on.badArgument("shipped " + day, Desks::busy, desk -> desk.lastDay(0, day));
            on.noSuch("no such credit comes first", Desks::busy, desk -> desk.lastDay(3, day));
        }
        on.due("shipped 0", Desks.busy().lastDay(0, 0), 21);
        on.due("shipped 9999", Desks.busy().lastDay(0, 9999), 91);
    }

    // Promise 32

    private void newCredit() {
        DocumentaryCreditDesk desk = Desks.with(THREE);
        on.due("credits before", desk.creditCount(), 3);
        on.due("the part", desk.transfer(0, 30, 20), 3);
        on.due("credits then", desk.creditCount(), 4);
        on.due("its parent", desk.parent(3), 0);
        on.due("transferred", desk.transferred(0), 30);
        on.due("available", desk.available(0), 80);
        on.due("undone", desk.undo(), 1);
        on.due("transferred at last", desk.transferred(0), 0);
        on.due("credits at last", desk.creditCount(), 3);
    }

    private void termsOfPart() {
        DocumentaryCreditDesk desk = Desks.with("credit 100 10 10 50 40 9 3 partial transferable"
                + " needs 2 7;credit 100 10 10 50 40 9 3 transferable;");
        on.due("the day of shipment", desk.transfer(0, 20, 39), 2);
        desk.transfer(0, 20, 40);
        desk.transfer(0, 20, 41);
        desk.transfer(1, 20, 50);
        int[] latest = {39, 40, 40, 40};
        int[] expiry = {39, 40, 41, 50};
        for (int part = 2; part < 6; part++) {
            int last = latest[part - 2];
            on.due("expiry day", desk.expiry(part), expiry[part - 2]);
            on.due("no upper tolerance", desk.bound(part, true), 20);
            on.due("no lower tolerance", desk.bound(part, false), 20);
            on.due("on the latest day of shipment", desk.check(part, last, 20, 132, 22), 64);
            on.due("a day later", desk.check(part, last + 1, 20, 132, 22), 65);
            on.due("the period", desk.lastDay(part, 1), 10);
        }
        on.due("the documents", desk.check(2, 0, 20, 255 - 4, 22), 16);
        on.due("no documents", desk.check(5, 0, 20, 0, 0), 0);
        on.due("the insurance", desk.check(2, 0, 20, 132, 21), 32);
        on.due("partial", desk.check(2, 0, 19, 132, 22), 0);
        on.due("not partial", desk.check(5, 0, 19, 0, 0), 8);
        desk.present(5, 0, 20, 0, 0);
        desk.examine(0);
        on.due("the tenor", desk.dueDay(0), 3);
    }

    private void partOfPart() {
        DocumentaryCreditDesk desk = Desks.with(THREE);
        desk.transfer(0, 30, 20);
        on.due("the parent again", desk.transfer(0, 30, 20), 4);
        on.badState("the part", () -> {
            DocumentaryCreditDesk twin = Desks.with(THREE);
            twin.transfer(0, 30, 20);
            return twin;
        }, twin -> twin.transfer(3, 1, 1));
    }

    private void rangesOfTransfer() {
        String great = "credit 999999 10 0 999 999 9 3 partial transferable;";
        int[] amounts = {1, 999999};
        int[] days = {0, 999};
        for (int amount : amounts) {
            for (int day : days) {
                DocumentaryCreditDesk desk = Desks.with(great);
                on.due("amount " + amount + ", day " + day, desk.transfer(0, amount, day), 1);
                on.due("its amount", desk.bound(1, true), amount);
                on.due("its expiry day", desk.expiry(1), day);
                on.due("the next index", desk.transfer(0, 1, 0), 2);
            }
        }
    }

    private void wrongTransfers() {
        Supplier<DocumentaryCreditDesk> great =
                () -> Desks.with("credit 999999 10 0 999 999 9 3 partial transferable;");
        int[] amounts = {0, -1, 1000000, Integer.MIN_VALUE, Integer.MAX_VALUE};
        for (int amount : amounts) {
            on.badArgument("amount " + amount, great, desk -> desk.transfer(0, amount, 9));
        }
        int[] days = {-1, 1000, Integer.MIN_VALUE, Integer.MAX_VALUE};
        for (int day : days) {
            on.badArgument("expiry " + day, great, desk -> desk.transfer(0, 1, day));
        }
        Supplier<DocumentaryCreditDesk> three = () -> Desks.with(THREE);
        on.due("the expiry day of the credit", three.get().transfer(0, 1, 50), 3);
        on.badArgument("a day later", three, desk -> desk.transfer(0, 1, 51));
        Supplier<DocumentaryCreditDesk> first =
                () -> Desks.with("credit 100 0 0 0 0 9 3 partial transferable;");
        on.due("expiry day 0", first.get().transfer(0, 1, 0), 1);
        on.badArgument("expiry day 1", first, desk -> desk.transfer(0, 1, 1));
    }

    private void impossibleTransfers() {
        Supplier<DocumentaryCreditDesk> three = () -> Desks.with(THREE);
        on.badState("not transferable", three, desk -> desk.transfer(2, 1, 1));
        on.due("all that is available", three.get().transfer(0, 110, 1), 3);
        on.badState("one more", three, desk -> desk.transfer(0, 111, 1));
        on.due("all of a whole", three.get().transfer(1, 110, 1), 3);
        on.badState("one more of a whole", three, desk -> desk.transfer(1, 111, 1));
        Supplier<DocumentaryCreditDesk> parted = () -> {
            DocumentaryCreditDesk desk = Desks.with(THREE);
            desk.transfer(0, 1, 1);
            desk.transfer(1, 1, 1);
            desk.present(0, 0, 9, 0, 0);
            return desk;
        };
        on.due("a second part", parted.get().transfer(0, 100, 1), 5);
        on.badState("more than is left", parted, desk -> desk.transfer(0, 101, 1));
        on.badState("a second part of a whole", parted, desk -> desk.transfer(1, 1, 1));
        DocumentaryCreditDesk again = parted.get();
        again.undo();
        again.undo();
        on.due("when the first has been undone", again.transfer(1, 1, 1), 4);
        Supplier<DocumentaryCreditDesk> used = () -> {
            DocumentaryCreditDesk desk = Desks.with(THREE);
            desk.present(0, 0, 110, 0, 0);
            return desk;
        };
        on.badState("nothing is left", used, desk -> desk.transfer(0, 1, 1));
        DocumentaryCreditDesk drawn = Desks.with(THREE);
        drawn.present(1, 0, 90, 0, 0);
        on.due("a whole that has been drawn on", drawn.transfer(1, 20, 1), 3);
        on.due("the 12th credit",
                Desks.with(THREE + Desks.CREDIT.repeat(8)).transfer(0, 1, 1), 11);
        on.badState("a 13th", Desks::withTwelveCredits, desk -> desk.transfer(0, 1, 1));
    }
}
