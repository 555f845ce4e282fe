/** Promise 23: fee. */
public final class FeeTest {
    private static final Checks checks = new Checks("FeeTest");

    public static void main(String[] args) {
        usualFee();
        namesInTheExpression();
        orderOfOperations();
        divisionTruncates();
        everyResultIsLimited();
        feeIsLimited();
        longExpressions();
        checks.end();
    }

    /** The fee of a presentation of amount 1999 with 2 discrepancies, 3 days after it was made. */
    private static void fee(String expression, int want) {
        DocumentaryCreditDesk desk = Checks.deskWith(
                "fee " + expression + ";credit 1500 0 0 900 900 60 0 partial;");
        desk.pass(4);
        desk.present(0, 5, 1999, 0, 0);
        desk.pass(3);
        checks.due("errors", Integer.bitCount(desk.discrepancies(0)), 2);
        checks.due("fee " + expression, desk.fee(0), want);
    }

    private static void usualFee() {
        DocumentaryCreditDesk desk = Checks.deskWith("credit 999999 0 0 900 900 60 0 partial;");
        int[] amounts = {999, 1000, 1999, 2000, 990000, 1999999};
        int[] fees = {0, 1, 1, 2, 990, 1999};
        for (int i = 0; i < amounts.length; i++) {
            desk.present(0, 0, amounts[i], 0, 0);
            checks.due("fee of " + amounts[i], desk.fee(i), fees[i]);
        }
        desk.examine(0);
        checks.due("fee of an honoured one", desk.fee(0), 0);
        checks.noSuch("fee 6", () -> desk.fee(6));
        checks.noSuch("fee -1", () -> desk.fee(-1));
    }

    private static void namesInTheExpression() {
        fee("amount", 1999);
        fee("days", 3);
        fee("errors", 2);
        fee("amount+days*100+errors*1000", 4299);
        DocumentaryCreditDesk desk = Checks.deskWith("fee days;credit 9 0 0 900 900 60 0 partial;");
        desk.pass(10);
        desk.present(0, 0, 1, 0, 0);
        checks.due("on the first day", desk.fee(0), 0);
        desk.pass(365);
        checks.due("a year later", desk.fee(0), 365);
        desk.undo();
        checks.due("on the first day again", desk.fee(0), 0);
    }

    private static void orderOfOperations() {
        fee("9999", 9999);
        fee("0", 0);
        fee("2+3*4", 14);
        fee("2*3+4", 10);
        fee("(2+3)*4", 20);
        fee("20-3-4", 13);
        fee("20-(3-4)", 21);
        fee("100/5/2", 10);
        fee("100/(5/2)", 50);
        fee("100/7*7", 98);
        fee("7*100/7", 100);
        fee("1+2*3-4/2", 5);
        fee("((((1)+2)*3)-4)", 5);
        fee("1+(2*(3+(4*(5+6))))", 95);
        fee("8-2+1", 7);
    }

    private static void divisionTruncates() {
        fee("10+(0-7)/2", 7);
        fee("10+7/(0-2)", 7);
        fee("10+(0-7)/(0-2)", 13);
        fee("5/0", 0);
        fee("9+5/0", 9);
        fee("9+(0-5)/(3-days)", 9);
        fee("7/2", 3);
        fee("0/5+1", 1);
    }

    private static void everyResultIsLimited() {
        // 9999 * 9999 is below 100000000, and 9999 * 9999 * 2 is above it.
        fee("9999*9999-9999*9998", 9999);
        fee("9999*9999*2/1000", 100000);
        fee("9999*9999*9999*9999*9999*9999/1000", 100000);
        fee("(0-9999)*9999*9999/1000+200*1000", 100000);
        fee("(9999*9999+9999*9999)/1000", 100000);
        fee("(0-9999*9999-9999*9999)/1000+150*1000", 50000);
        fee("9999*9999*2+1-9999*9999", 100000000 - 99980001);
        fee("((0-9999)*9999*9999)*((0-9999)*9999*9999)/1000", 100000);
    }

    private static void feeIsLimited() {
        fee("1000*1000-1", 999999);
        fee("1000*1000", 999999);
        fee("9999*9999", 999999);
        fee("0-1", 0);
        fee("errors-days", 0);
        fee("0-9999*9999", 0);
    }

    private static void longExpressions() {
        String sum = "1" + "+1".repeat(400);
        fee(sum, 401);
        String deep = "1+2*(3+4*(5+6*(7+8*(9+2*3))))";
        int deepValue = 1 + 2 * (3 + 4 * (5 + 6 * (7 + 8 * (9 + 2 * 3))));
        fee(deep, deepValue);
        fee(deep + "+1-" + deep, 2 * deepValue - 1);
        fee("2" + "*1".repeat(100) + "-(((" + "0+".repeat(100) + "1)))", 1);
    }
}
