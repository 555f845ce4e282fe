/** The conventions and the calendar, and promises 7 to 11. */
final class CalendarBoundaries {
    private static final int[] NO_DAYS = {-1, 10000, Integer.MIN_VALUE, Integer.MAX_VALUE};
    // Three weeks without a business day, and the Monday behind them.
    private static final String SIXTEEN =
            "holiday 7 8 9 10 11 14 15 16 17 18 21 22 23 24 25 28;";

    private final Boundaries on;

    CalendarBoundaries(Boundaries on) {
        this.on = on;
    }

    void run() {
        conventions();
        calendar();
        promises();
    }

    private void conventions() {
        String conventions = "Conventions";
        on.sentence(conventions, "All numbers are integers. Division rounds down; all dividends are 0"
                + " or more except in the fee expression.", this::divisions);
        on.sentence(conventions, "Credits and presentations have indexes from 0 in the order in which"
                + " they are declared or made.", this::indexes);
        on.sentence(conventions, "Days are numbers; today is day 0 at first.", this::firstDay);
    }

    private void calendar() {
        String calendar = "Calendar";
        on.sentence(calendar, "A day d is a weekend day if d modulo 7 is 5 or 6.", this::weekends);
        on.sentence(calendar, "Holidays are given by their numbers (0 to 999);",
                this::holidayNumbers);
        on.sentence(calendar, "there are at most 16.", this::sixteenHolidays);
        on.sentence(calendar,
                "A business day is a day that is neither a weekend day nor a holiday.",
                this::businessDay);
        on.sentence(calendar, "To extend a day means to take the first business day that is not before"
                + " it.", this::extending);
        on.sentence(calendar, "To add n business days to a day means to take the n-th business day"
                + " after it (for n = 0 the day itself).", this::adding);
    }

    private void promises() {
        on.sentence("Promise 7", "Returns the number of today.", this::today);
        on.sentence("Promise 8", "- `day`: 0 to 9999 Returns whether it is a business day.",
                this::isBusinessDay);
        on.sentence("Promise 8", "Throws `IllegalArgumentException` if day is out of range", () -> {
            for (int day : NO_DAYS) {
                on.badArgument("day " + day, Desks::busy, desk -> desk.isBusinessDay(day) ? 1 : 0);
            }
        });
        on.sentence("Promise 9", "- `day`: 0 to 9999 Returns the extended day.", this::extended);
        on.sentence("Promise 9", "Throws `IllegalArgumentException` if day is out of range", () -> {
            for (int day : NO_DAYS) {
                on.badArgument("day " + day, Desks::busy, desk -> desk.extended(day));
            }
        });
        on.sentence("Promise 10", "- `day`: 0 to 9999 - `count`: 0 to 100 Returns the day with that"
                + " many business days added.", this::addBusinessDays);
        on.sentence("Promise 10",
                "Throws `IllegalArgumentException` if day or count is out of range",
                this::wrongAdditions);
        on.sentence("Promise 11", "- `from`: 0 to 9999 - `to`: 0 to 9999 Returns the number of business"
                + " days from the first day to the day before the second one;", this::businessDays);
        on.sentence("Promise 11", "0 if to is less than from.", this::backwards);
        on.sentence("Promise 11",
                "Throws `IllegalArgumentException` if from or to is out of range",
                this::wrongSpans);
    }

    // Conventions

    private void divisions() {
        DocumentaryCreditDesk desk = Desks.with("credit 99 1 1 9 9 9 0;credit 100 1 1 9 9 9 0;"
                + "credit 199 1 1 9 9 9 0;credit 200 1 1 9 9 9 0 needs 7;");
        int[] most = {99, 101, 200, 202};
        int[] least = {99, 99, 198, 198};
        for (int credit = 0; credit < 4; credit++) {
            on.due("maximum " + credit, desk.bound(credit, true), most[credit]);
            on.due("minimum " + credit, desk.bound(credit, false), least[credit]);
        }
        on.due("199 / 10 is 19", desk.check(3, 0, 199, 128, 218), 0);
        on.due("not less", desk.check(3, 0, 199, 128, 217), 32);
        desk.present(0, 0, 999, 0, 0);
        desk.present(0, 0, 1000, 0, 0);
        on.due("999 / 1000", desk.fee(0), 0);
        on.due("1000 / 1000", desk.fee(1), 1);
    }

    private void indexes() {
        DocumentaryCreditDesk desk = Desks.with(
                "credit 10 0 0 9 9 9 0 transferable;credit 20 0 0 9 9 9 0;");
        on.due("the first credit", desk.bound(0, true), 10);
        on.due("the second credit", desk.bound(1, true), 20);
        on.due("the third credit", desk.transfer(0, 5, 9), 2);
        on.due("its maximum", desk.bound(2, true), 5);
        on.due("the first presentation", desk.present(1, 0, 20, 0, 0), 0);
        on.due("the second presentation", desk.present(2, 0, 5, 0, 0), 1);
        on.due("the first one's credit", desk.creditOf(0), 1);
        on.due("the second one's credit", desk.creditOf(1), 2);
    }

    private void firstDay() {
        DocumentaryCreditDesk desk = Desks.empty();
        on.due("today", desk.today(), 0);
        desk.pass(1);
        on.due("a day later", desk.today(), 1);
    }

    // Calendar

    private void weekends() {
        DocumentaryCreditDesk desk = Desks.empty();
        int[] mondays = {0, 7, 994, 1001, 8995, 9989};
        for (int monday : mondays) {
            for (int day = 0; day < 7; day++) {
                on.due("day " + (monday + day), desk.isBusinessDay(monday + day), day < 5);
            }
        }
    }

    private void holidayNumbers() {
        DocumentaryCreditDesk desk = Desks.with("holiday 0 998 999;");
        on.due("day 0", desk.isBusinessDay(0), false);
        on.due("day 1", desk.isBusinessDay(1), true);
        on.due("day 997", desk.isBusinessDay(997), true);
        on.due("day 998", desk.isBusinessDay(998), false);
        on.due("day 1001", desk.isBusinessDay(1001), true);
        // Holidays do not come again a week, a year or a thousand days later.
        on.due("day 7", desk.isBusinessDay(7), true);
        on.due("day 365", desk.isBusinessDay(365), true);
        on.due("day 1998", desk.isBusinessDay(1998), true);
        DocumentaryCreditDesk other = Desks.empty();
        on.due("999 in a text", Checks.load(other, "holiday 999;"), 0);
        on.due("1000 in a text", Checks.load(other, "holiday 1000;"),
                DocumentaryCreditDesk.OUT_OF_RANGE);
        on.due("where it stands", other.errorOffset(), 8);
    }

    private void sixteenHolidays() {
        DocumentaryCreditDesk desk = Desks.with(SIXTEEN);
        on.due("the first", desk.isBusinessDay(7), false);
        on.due("the sixteenth", desk.isBusinessDay(28), false);
        on.due("all", desk.businessDays(0, 1001), 715 - 16);
        on.due("a seventeenth", Checks.load(desk, SIXTEEN + "holiday 29;"),
                DocumentaryCreditDesk.TOO_MANY);
        on.due("where it stands", desk.errorOffset(), SIXTEEN.length() + 8);
        on.due("the old ones stay", desk.businessDays(0, 1001), 715 - 16);
    }

    private void businessDay() {
        DocumentaryCreditDesk desk = Desks.with("holiday 3 5;");
        on.due("neither", desk.isBusinessDay(4), true);
        on.due("a holiday", desk.isBusinessDay(3), false);
        on.due("a weekend day", desk.isBusinessDay(6), false);
        on.due("both", desk.isBusinessDay(5), false);
        on.due("both count once", desk.businessDays(0, 7), 4);
    }

    private void extending() {
        DocumentaryCreditDesk desk = Desks.with(SIXTEEN);
        on.due("a business day", desk.extended(4), 4);
        for (int day = 5; day <= 29; day++) {
            on.due("day " + day, desk.extended(day), 29);
        }
        on.due("the day behind", desk.extended(30), 30);
        DocumentaryCreditDesk late = Desks.with("holiday 998 999;");
        on.due("day 997", late.extended(997), 997);
        on.due("day 998", late.extended(998), 1001);
        on.due("day 999", late.extended(999), 1001);
    }

    private void adding() {
        DocumentaryCreditDesk desk = Desks.with("holiday 7;");
        int[] days = {4, 5, 6, 7, 8};
        for (int day : days) {
            on.due("0 to day " + day, desk.addBusinessDays(day, 0), day);
            on.due("1 to day " + day, desk.addBusinessDays(day, 1), day < 8 ? 8 : 9);
            on.due("2 to day " + day, desk.addBusinessDays(day, 2), day < 8 ? 9 : 10);
        }
        DocumentaryCreditDesk closed = Desks.with(SIXTEEN);
        on.due("1 over three weeks", closed.addBusinessDays(4, 1), 29);
        on.due("1 from their end", closed.addBusinessDays(28, 1), 29);
        on.due("0 within them", closed.addBusinessDays(20, 0), 20);
    }

    // Promises 7 to 11

    private void today() {
        on.due("of a new object", Desks.empty().today(), 0);
        on.due("on the last day", Desks.onDay("", 9000).today(), 9000);
        DocumentaryCreditDesk desk = Desks.onDay("", 365);
        on.due("on day 365", desk.today(), 365);
        desk.undo();
        on.due("undone", desk.today(), 0);
    }

    private void isBusinessDay() {
        DocumentaryCreditDesk desk = Desks.with("holiday 1;");
        on.due("day 0", desk.isBusinessDay(0), true);
        on.due("day 1", desk.isBusinessDay(1), false);
        on.due("day 9999", desk.isBusinessDay(9999), true);
        on.due("day 9995", desk.isBusinessDay(9995), false);
        on.due("day 0 as a holiday", Desks.with("holiday 0;").isBusinessDay(0), false);
    }

    private void extended() {
        DocumentaryCreditDesk desk = Desks.empty();
        on.due("day 0", desk.extended(0), 0);
        on.due("day 9999", desk.extended(9999), 9999);
        on.due("day 9994", desk.extended(9994), 9996);
        on.due("day 0 as a holiday", Desks.with("holiday 0;").extended(0), 1);
    }

    private void addBusinessDays() {
        DocumentaryCreditDesk desk = Desks.empty();
        on.due("0 to day 0", desk.addBusinessDays(0, 0), 0);
        on.due("1 to day 0", desk.addBusinessDays(0, 1), 1);
        on.due("99 to day 0", desk.addBusinessDays(0, 99), 137);
        on.due("100 to day 0", desk.addBusinessDays(0, 100), 140);
        on.due("0 to day 9999", desk.addBusinessDays(9999, 0), 9999);
        on.due("1 to day 9999", desk.addBusinessDays(9999, 1), 10000);
        on.due("100 to day 9999", desk.addBusinessDays(9999, 100), 10139);
        on.due("100 over sixteen holidays", Desks.with(SIXTEEN).addBusinessDays(0, 100), 162);
    }

    private void wrongAdditions() {
        for (int day : NO_DAYS) {
            on.badArgument("to day " + day, Desks::busy, desk -> desk.addBusinessDays(day, 0));
            on.badArgument("both " + day, Desks::busy, desk -> desk.addBusinessDays(day, day));
        }
        int[] counts = {-1, 101, Integer.MIN_VALUE, Integer.MAX_VALUE};
        for (int count : counts) {
            on.badArgument("count " + count, Desks::busy, desk -> desk.addBusinessDays(0, count));
        }
    }

    private void businessDays() {
        DocumentaryCreditDesk desk = Desks.with("holiday 3;");
        on.due("0 to 0", desk.businessDays(0, 0), 0);
        on.due("0 to 1", desk.businessDays(0, 1), 1);
        on.due("up to a holiday", desk.businessDays(0, 3), 3);
        on.due("with the holiday", desk.businessDays(0, 4), 3);
        on.due("up to a weekend", desk.businessDays(0, 5), 4);
        on.due("with the weekend", desk.businessDays(0, 7), 4);
        on.due("with the next Monday", desk.businessDays(0, 8), 5);
        on.due("from the holiday", desk.businessDays(3, 5), 1);
        on.due("behind the holiday", desk.businessDays(4, 5), 1);
        on.due("9998 to 9999", desk.businessDays(9998, 9999), 1);
        on.due("9999 to 9999", desk.businessDays(9999, 9999), 0);
        // 1428 weeks and three days, less the holiday.
        on.due("0 to 9999", desk.businessDays(0, 9999), 7142);
    }

    private void backwards() {
        DocumentaryCreditDesk desk = Desks.empty();
        on.due("8 to 7", desk.businessDays(8, 7), 0);
        on.due("7 to 7", desk.businessDays(7, 7), 0);
        on.due("7 to 8", desk.businessDays(7, 8), 1);
        on.due("9999 to 0", desk.businessDays(9999, 0), 0);
        on.due("over holidays", Desks.with(SIXTEEN).businessDays(40, 0), 0);
    }

    private void wrongSpans() {
        for (int day : NO_DAYS) {
            on.badArgument("from " + day, Desks::busy, desk -> desk.businessDays(day, 5));
            on.badArgument("to " + day, Desks::busy, desk -> desk.businessDays(5, day));
            on.badArgument("both " + day, Desks::busy, desk -> desk.businessDays(day, day));
        }
        on.badArgument("backwards", Desks::busy, desk -> desk.businessDays(10000, -1));
    }
}
