/** Promises 33 to 35: pass, undo, checksum. */
public final class ChangesTest {
    private static final Checks checks = new Checks("ChangesTest");

    private static final String SETUP =
            "holiday 3;fee days+1;credit 100 0 0 900 900 60 2 partial transferable;";

    public static void main(String[] args) {
        daysPass();
        passLooksAtItsArgument();
        passEndsAtDay9000();
        undoTakesEveryChangeBack();
        undoGoesBackEightChanges();
        undoCountsFromTheLatestChange();
        undoOfLoad();
        undoLeavesTheBufferAndTheErrorAlone();
        exceptionsAreNoChanges();
        failedLoadIsNoChange();
        checksumIsOfTheDay();
        checksumIsOfCreditsAndPresentations();
        checksumWrapsAround();
        checks.end();
    }

    private static void daysPass() {
        DocumentaryCreditDesk desk = new DocumentaryCreditDesk();
        checks.due("one day", desk.pass(1), 1);
        checks.due("a year", desk.pass(365), 366);
        checks.due("today", desk.today(), 366);
    }

    private static void passLooksAtItsArgument() {
        DocumentaryCreditDesk desk = new DocumentaryCreditDesk();
        int[] wrong = {0, -1, 366, Integer.MIN_VALUE, Integer.MAX_VALUE};
        for (int days : wrong) {
            checks.badArgument("pass " + days, () -> desk.pass(days));
        }
        checks.due("today", desk.today(), 0);
        checks.due("undo", desk.undo(), -1);
    }

    private static void passEndsAtDay9000() {
        DocumentaryCreditDesk desk = Checks.deskWith("credit 9 0 0 999 999 60 180 partial;");
        for (int i = 0; i < 24; i++) {
            desk.pass(365);
        }
        checks.due("today", desk.today(), 8760);
        checks.badState("to 9001", () -> desk.pass(241));
        checks.due("to 9000", desk.pass(240), 9000);
        checks.badState("to 9001", () -> desk.pass(1));
        checks.badArgument("wrong days first", () -> desk.pass(366));
        checks.due("today stays", desk.today(), 9000);
        desk.present(0, 9000, 9, 0, 0);
        checks.due("discrepancies on day 9000", desk.discrepancies(0), 3);
        checks.due("deadline on day 9000", desk.deadline(0), 9006);
        desk.examine(0);
        checks.due("due day on day 9000", desk.waive(0), 9180);
    }

    private static void undoTakesEveryChangeBack() {
        DocumentaryCreditDesk desk = Checks.deskWith(SETUP);
        long[] sums = new long[7];
        sums[0] = desk.checksum();
        desk.present(0, 9, 60, 0, 0);
        sums[1] = desk.checksum();
        desk.present(0, 9, 30, 0, 0);
        sums[2] = desk.checksum();
        desk.examine(0);
        sums[3] = desk.checksum();
        desk.waive(0);
        sums[4] = desk.checksum();
        desk.transfer(0, 10, 5);
        sums[5] = desk.checksum();
        desk.pass(8);
        sums[6] = desk.checksum();
        desk.examine(1);
        for (int i = 6; i >= 0; i--) {
            checks.due("undo to " + i, desk.undo(), i + 1);
            checks.due("checksum of " + i, desk.checksum(), sums[i]);
        }
        checks.due("presentations", desk.presentationCount(), 0);
        checks.due("credits", desk.creditCount(), 1);
        checks.due("undo of load", desk.undo(), 0);
        checks.due("credits of a new object", desk.creditCount(), 0);
        checks.due("undo of nothing", desk.undo(), -1);
        undoOfRefuse();
    }

    private static void undoOfRefuse() {
        DocumentaryCreditDesk desk = Checks.deskWith(SETUP);
        desk.present(0, 9, 60, 0, 0);
        desk.examine(0);
        desk.refuse(0);
        checks.due("available", desk.available(0), 100);
        checks.due("undo of refuse", desk.undo(), 3);
        checks.due("state", desk.state(0), DocumentaryCreditDesk.DISCREPANT);
        checks.due("available again", desk.available(0), 40);
        desk.waive(0);
        desk.undo();
        checks.due("due day after undo of waive", desk.dueDay(0), -1);
        checks.due("refuse instead", desk.refuse(0), 100);
    }

    private static void undoGoesBackEightChanges() {
        DocumentaryCreditDesk desk = new DocumentaryCreditDesk();
        for (int i = 0; i < 12; i++) {
            desk.pass(1);
        }
        for (int i = 7; i >= 0; i--) {
            checks.due("undo with " + i + " left", desk.undo(), i);
        }
        checks.due("a ninth undo", desk.undo(), -1);
        checks.due("today", desk.today(), 4);
    }

    private static void undoCountsFromTheLatestChange() {
        DocumentaryCreditDesk desk = new DocumentaryCreditDesk();
        for (int i = 0; i < 10; i++) {
            desk.pass(1);
        }
        checks.due("first undo", desk.undo(), 7);
        checks.due("second undo", desk.undo(), 6);
        desk.pass(100);
        checks.due("today", desk.today(), 108);
        checks.due("undo of the new change", desk.undo(), 6);
        checks.due("today then", desk.today(), 8);
        for (int i = 5; i >= 0; i--) {
            desk.undo();
        }
        checks.due("no more", desk.undo(), -1);
        checks.due("today at last", desk.today(), 2);
    }

    private static void undoOfLoad() {
        DocumentaryCreditDesk desk = Checks.deskWith(SETUP);
        desk.present(0, 0, 60, 0, 0);
        desk.pass(4);
        long before = desk.checksum();
        Checks.load(desk, "fee 9;holiday 8;");
        checks.due("today after load", desk.today(), 0);
        checks.due("undo of load", desk.undo(), 3);
        checks.due("checksum", desk.checksum(), before);
        checks.due("the old fee", desk.fee(0), 5);
        checks.due("the old holiday", desk.isBusinessDay(3), false);
        checks.due("no new holiday", desk.isBusinessDay(8), true);
        checks.due("undo of pass before it", desk.undo(), 2);
        checks.due("today", desk.today(), 0);
    }

    private static void undoLeavesTheBufferAndTheErrorAlone() {
        DocumentaryCreditDesk desk = Checks.deskWith(SETUP);
        desk.append(0x20202020, 0x20202020, 0x20202020, 0x20202020, 0x20202020);
        checks.due("undo of load", desk.undo(), 0);
        checks.due("append", desk.append(0x3f202020, 0, 0, 0, 0), 40);
        checks.due("load of both", desk.load(40), DocumentaryCreditDesk.SYNTAX_ERROR);
        desk.pass(1);
        desk.undo();
        checks.due("errorOffset", desk.errorOffset(), 20);
        desk.load(0);
        desk.undo();
        checks.due("errorOffset of the load that was undone", desk.errorOffset(), -1);
    }

    private static void exceptionsAreNoChanges() {
        DocumentaryCreditDesk desk = Checks.deskWith(SETUP);
        desk.present(0, 9, 10, 0, 0);
        long before = desk.checksum();
        checks.badState("waive", () -> desk.waive(0));
        checks.badState("refuse", () -> desk.refuse(0));
        checks.badState("transfer", () -> desk.transfer(0, 91, 1));
        checks.badArgument("present", () -> desk.present(0, 0, 0, 0, 0));
        checks.badArgument("pass", () -> desk.pass(0));
        checks.noSuch("examine", () -> desk.examine(1));
        checks.badArgument("load", () -> desk.load(1));
        checks.due("checksum", desk.checksum(), before);
        checks.due("undo", desk.undo(), 1);
        checks.due("presentations", desk.presentationCount(), 0);
    }

    private static void failedLoadIsNoChange() {
        DocumentaryCreditDesk desk = Checks.deskWith(SETUP);
        Checks.load(desk, "?");
        checks.due("undo", desk.undo(), 0);
        checks.due("undo again", desk.undo(), -1);
        desk.load(0);
        checks.due("undo of an empty load", desk.undo(), 0);
    }

    private static void checksumIsOfTheDay() {
        DocumentaryCreditDesk desk = new DocumentaryCreditDesk();
        checks.due("at first", desk.checksum(), 0);
        desk.pass(17);
        checks.due("on day 17", desk.checksum(), 17);
    }

    private static long sumOf(long... numbers) {
        long sum = 0;
        for (long number : numbers) {
            sum = 31 * sum + number;
        }
        return sum;
    }

    private static void checksumIsOfCreditsAndPresentations() {
        DocumentaryCreditDesk desk = Checks.deskWith(SETUP);
        checks.due("a credit", desk.checksum(), sumOf(0, -1, 0, 100));
        desk.pass(2);
        desk.transfer(0, 30, 5);
        checks.due("a transfer", desk.checksum(), sumOf(2, -1, 0, 70, 0, 0, 30));
        desk.present(1, 9, 20, 0, 0);
        checks.due("a pending one", desk.checksum(),
                sumOf(2, -1, 0, 70, 0, 20, 10, 1, 0, 1 | 64, -1));
        desk.present(0, 1, 50, 0, 0);
        desk.examine(1);
        desk.examine(0);
        checks.due("an honoured one", desk.checksum(),
                sumOf(2, -1, 50, 20, 0, 20, 10, 1, 1, 1 | 64, -1, 0, 2, 0, 4));
        desk.refuse(0);
        checks.due("a refused one", desk.checksum(),
                sumOf(2, -1, 50, 20, 0, 0, 30, 1, 3, 1 | 64, -1, 0, 2, 0, 4));
    }

    private static void checksumWrapsAround() {
        String credit = "credit 999999 10 0 900 900 60 2 partial;";
        DocumentaryCreditDesk desk = Checks.deskWith(credit.repeat(12));
        for (int i = 0; i < 5; i++) {
            desk.pass(365);
        }
        long sum = 1825;
        for (int i = 0; i < 12; i++) {
            sum = 31 * (31 * (31 * sum - 1)) + 1099998;
        }
        checks.due("twelve credits", desk.checksum(), sum);
    }
}
