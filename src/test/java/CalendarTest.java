/** Promises 7 to 11: today, isBusinessDay, extended, addBusinessDays, businessDays. */
public final class CalendarTest {
    private static final Checks checks = new Checks("CalendarTest");

    // Fifteen workdays of three weeks and the Monday after them, and no weekend day between.
    private static final String LONG_BREAK =
            "holiday 0 1 2 3 4 7 8 9 10 11 14 15 16 17 18 21;";

    public static void main(String[] args) {
        todayFollowsPass();
        weekendsAndHolidaysAreNoBusinessDays();
        extendedDayIsTheFirstBusinessDay();
        businessDaysAreAdded();
        businessDaysAreCounted();
        daysAreCountedAsOneByOne();
        daysOutOfRangeAreRefused();
        checks.end();
    }

    private static void todayFollowsPass() {
        DocumentaryCreditDesk desk = new DocumentaryCreditDesk();
        checks.due("today of a new object", desk.today(), 0);
        desk.pass(5);
        desk.pass(365);
        checks.due("today after two passes", desk.today(), 370);
        desk.load(0);
        checks.due("today after load", desk.today(), 0);
    }

    private static void weekendsAndHolidaysAreNoBusinessDays() {
        DocumentaryCreditDesk desk = Checks.deskWith("holiday 3 12 997;");
        int[] open = {0, 1, 2, 4, 7, 8, 11, 996, 998, 1001, 9999};
        int[] closed = {3, 5, 6, 12, 13, 997, 999, 9995, 9994};
        for (int day : open) {
            checks.due("isBusinessDay " + day, desk.isBusinessDay(day), true);
        }
        for (int day : closed) {
            checks.due("isBusinessDay " + day, desk.isBusinessDay(day), false);
        }
    }

    private static void extendedDayIsTheFirstBusinessDay() {
        DocumentaryCreditDesk desk = Checks.deskWith(LONG_BREAK);
        checks.due("extended over three weeks", desk.extended(0), 22);
        checks.due("extended of a holiday at the end", desk.extended(21), 22);
        checks.due("extended of a business day", desk.extended(22), 22);
        checks.due("extended of a Saturday", desk.extended(26), 28);
        checks.due("extended of a Sunday", desk.extended(27), 28);
        checks.due("extended of the last day", desk.extended(9999), 9999);
        DocumentaryCreditDesk weekendHoliday = Checks.deskWith("holiday 5 7;");
        checks.due("extended over a holiday on a weekend", weekendHoliday.extended(5), 8);
    }

    private static void businessDaysAreAdded() {
        DocumentaryCreditDesk desk = Checks.deskWith("holiday 7 8;");
        checks.due("add 0 to a business day", desk.addBusinessDays(4, 0), 4);
        checks.due("add 0 to a weekend day", desk.addBusinessDays(5, 0), 5);
        checks.due("add 0 to a holiday", desk.addBusinessDays(7, 0), 7);
        checks.due("add 1 over a long weekend", desk.addBusinessDays(4, 1), 9);
        checks.due("add 1 to a weekend day", desk.addBusinessDays(6, 1), 9);
        checks.due("add 4", desk.addBusinessDays(4, 4), 14);
        checks.due("add 100 behind the holidays", desk.addBusinessDays(14, 100), 154);
        checks.due("add 100 over them", desk.addBusinessDays(0, 100), 142);
        checks.due("add 100 to the last day", desk.addBusinessDays(9999, 100), 10139);
    }

    private static void businessDaysAreCounted() {
        DocumentaryCreditDesk desk = Checks.deskWith("holiday 3 5 9;");
        checks.due("a week with a holiday", desk.businessDays(0, 7), 4);
        checks.due("up to a holiday", desk.businessDays(0, 3), 3);
        checks.due("up to behind a holiday", desk.businessDays(0, 4), 3);
        checks.due("from a holiday", desk.businessDays(3, 5), 1);
        checks.due("a weekend with a holiday", desk.businessDays(5, 7), 0);
        checks.due("no day", desk.businessDays(4, 4), 0);
        checks.due("one day", desk.businessDays(4, 5), 1);
        checks.due("backwards", desk.businessDays(5, 4), 0);
        checks.due("backwards by far", desk.businessDays(9999, 0), 0);
        checks.due("all days", desk.businessDays(0, 9999), 7141);
    }

    /** The same answers, found by going from day to day. */
    private static void daysAreCountedAsOneByOne() {
        DocumentaryCreditDesk desk = Checks.deskWith("holiday 1 2 6 14 15 16 17 18 30 33 34;");
        for (int from = 0; from < 45; from++) {
            int count = 0;
            for (int to = from; to < 60; to++) {
                checks.due("businessDays " + from + " " + to, desk.businessDays(from, to), count);
                count += desk.isBusinessDay(to) ? 1 : 0;
                if (to > from && desk.isBusinessDay(to)) {
                    int added = desk.businessDays(from + 1, to + 1);
                    checks.due("addBusinessDays " + from + " " + added,
                            desk.addBusinessDays(from, added), to);
                }
            }
        }
    }

    private static void daysOutOfRangeAreRefused() {
        DocumentaryCreditDesk desk = new DocumentaryCreditDesk();
        int[] wrong = {-1, 10000, Integer.MIN_VALUE, Integer.MAX_VALUE};
        for (int day : wrong) {
            checks.badArgument("isBusinessDay " + day, () -> desk.isBusinessDay(day) ? 1 : 0);
            checks.badArgument("extended " + day, () -> desk.extended(day));
            checks.badArgument("addBusinessDays " + day, () -> desk.addBusinessDays(day, 0));
            checks.badArgument("addBusinessDays by " + day, () -> desk.addBusinessDays(0, day));
            checks.badArgument("businessDays from " + day, () -> desk.businessDays(day, 0));
            checks.badArgument("businessDays to " + day, () -> desk.businessDays(0, day));
        }
        checks.badArgument("addBusinessDays by 101", () -> desk.addBusinessDays(0, 101));
        checks.badArgument("businessDays of wrong days", () -> desk.businessDays(10000, -1));
    }
}
