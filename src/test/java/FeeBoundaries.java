/** The fee, and promise 23. */
final class FeeBoundaries {
    private final Boundaries on;

    FeeBoundaries(Boundaries on) {
        this.on = on;
    }

    void run() {
        String fee = "Fee";
        on.sentence(fee, "The fee of a presentation is the value of the fee expression, limited to the"
                + " range 0 to 999999.", this::limits);
        on.sentence(fee, "In the expression, amount is the amount of the presentation, days is the number"
                + " of days from the day on which it was made to today, and errors is the number of its"
                + " discrepancies.", this::names);
        on.sentence(fee, "Division truncates toward zero;", this::divisions);
        on.sentence(fee, "division by 0 gives 0.", this::divisionByZero);
        on.sentence(fee, "The result of each operation is limited to the range -100000000 to 100000000.",
                this::limitsOfOperations);
        on.sentence(fee, "Without a fee statement the fee is amount / 1000.", this::usualFee);
        on.sentence("Promise 23", "- `presentation`: index of a presentation Returns its fee.",
                this::everyPresentation);
        on.sentence("Promise 23",
                "Throws `IndexOutOfBoundsException` if there is no such presentation",
                () -> on.noSuchPresentation((desk, paper) -> desk.fee(paper)));
    }

    /** The fee of a presentation of this amount on the day on which it is made. */
    private static int feeOf(String expression, int amount) {
        DocumentaryCreditDesk desk = Desks.with(
                "fee " + expression + ";credit 999999 10 0 999 999 60 0 partial;");
        desk.present(0, 0, amount, 0, 0);
        return desk.fee(0);
    }

    private void fee(String expression, int want) {
        on.due("fee " + expression, feeOf(expression, 1), want);
    }

    private void limits() {
        fee("0", 0);
        fee("1", 1);
        fee("1-1", 0);
        fee("0-1", 0);
        fee("1-9999*9999", 0);
        fee("1000*1000-2", 999998);
        fee("1000*1000-1", 999999);
        fee("1000*1000", 999999);
        fee("9999*9999", 999999);
        on.due("an amount of 999999", feeOf("amount", 999999), 999999);
        on.due("an amount of 1000000", feeOf("amount", 1000000), 999999);
        on.due("an amount of 1999999", feeOf("amount", 1999999), 999999);
        on.due("only the value is limited", feeOf("amount-1000*1000", 1999999), 999999);
        on.due("and not a name", feeOf("amount-1000*1000", 1000007), 7);
        // Below 0 on the way, and above it in the end.
        fee("5-9+6", 2);
    }

    private void names() {
        on.due("the least amount", feeOf("amount", 1), 1);
        on.due("the greatest amount", feeOf("amount/2", 1999999), 999999);
        DocumentaryCreditDesk desk = Desks.onDay(
                "fee days;credit 9 0 0 999 999 60 0 partial;", 10);
        desk.present(0, 0, 1, 0, 0);
        on.due("days on the first day", desk.fee(0), 0);
        desk.pass(1);
        on.due("days on the second day", desk.fee(0), 1);
        Desks.pass(desk, 9000 - 11);
        on.due("days on the last day", desk.fee(0), 8990);
        DocumentaryCreditDesk first = Desks.with("fee days;credit 9 0 0 999 999 60 0 partial;");
        first.present(0, 0, 1, 0, 0);
        Desks.pass(first, 9000);
        on.due("days from day 0", first.fee(0), 9000);
        on.due("no errors", feeOf("errors", 1), 0);
        on.due("one error", feeOf("errors", 1999999), 1);
        DocumentaryCreditDesk all = Desks.onDay("fee errors;credit 100 0 0 9 9 9 0 needs 7;", 20);
        all.present(0, 21, 50, 0, 0);
        all.present(0, 21, 51, 0, 0);
        on.due("six errors", all.fee(0), 6);
        on.due("seven errors", all.fee(1), 7);
        all.examine(0);
        all.waive(0);
        on.due("errors that have been waived", all.fee(0), 6);
    }

    private void divisions() {
        fee("7/2", 3);
        fee("6/2", 3);
        fee("1/2", 0);
        fee("10+(0-7)/2", 7);
        fee("10+(0-6)/2", 7);
        fee("10+(0-1)/2", 10);
        fee("10+7/(0-2)", 7);
        fee("10+1/(0-2)", 10);
        fee("(0-7)/(0-2)", 3);
        fee("0/7", 0);
        fee("10+0/(0-7)", 10);
    }

    private void divisionByZero() {
        fee("7/0", 0);
        fee("7/1", 7);
        fee("9+7/0", 9);
        fee("9+0/0", 9);
        fee("9+(0-7)/0", 9);
        fee("9+7/(3-3)", 9);
        fee("9+7/(3-4)", 2);
        fee("9+7/days", 9);
        fee("9+7/errors", 9);
        fee("9+7/(1/2)", 9);
        fee("7/0/0+5", 5);
    }

    private void limitsOfOperations() {
        // 99999999, 100000000 and more than that, each less 99980001.
        fee("1000*1000*99+9999*100+100-1-9999*9999", 99999999 - 99980001);
        fee("1000*1000*100-9999*9999", 100000000 - 99980001);
        fee("(1000*1000*100+1)-9999*9999", 100000000 - 99980001);
        fee("1000*1000*101-9999*9999", 100000000 - 99980001);
        fee("9999*9999*9999-9999*9999", 100000000 - 99980001);
        fee("9999*9999*9999*9999*9999*9999-9999*9999", 100000000 - 99980001);
        // The same below 0: what is added brings it back above.
        fee("0-1000*1000*100+9999*9999+9999+9999+9999", 9999 * 10002 - 100000000);
        fee("(0-1000*1000*100-1)+9999*9999+9999+9999+9999", 9999 * 10002 - 100000000);
        fee("(0-1000*1000*100)*9999+9999*9999+9999+9999+9999", 9999 * 10002 - 100000000);
        fee("(0-1000*1000*100)*(1000*1000*100)/1000+100*1000+7", 7);
        fee("(0-1000*1000*100)*(0-1000*1000*100)/1000-100*1000+7", 7);
        fee("(1000*1000*100)/(0-1)/1000+100*1000+7", 7);
        // A name that is greater than a number may be is not limited by itself.
        on.due("amounts", feeOf("amount*50-99*1000*1000", 1999999), 99999950 - 99000000);
        on.due("greater amounts", feeOf("amount*51-99*1000*1000-9999*100", 1999999), 100);
    }

    private void usualFee() {
        int[] amounts = {1, 999, 1000, 1001, 1999, 2000, 1099998, 1999999};
        int[] fees = {0, 0, 1, 1, 1, 2, 1099, 1999};
        for (int i = 0; i < amounts.length; i++) {
            DocumentaryCreditDesk desk = Desks.with("credit 999999 10 0 999 999 60 0 partial;");
            desk.present(0, 0, amounts[i], 0, 0);
            on.due("of " + amounts[i], desk.fee(0), fees[i]);
        }
        DocumentaryCreditDesk desk = Desks.with("fee 5;" + Desks.PARTIAL);
        Checks.load(desk, Desks.PARTIAL);
        desk.present(0, 0, 1000, 0, 0);
        on.due("after a text with a fee statement", desk.fee(0), 1);
    }

    private void everyPresentation() {
        DocumentaryCreditDesk desk = Desks.with("fee amount+days;" + Desks.PARTIAL);
        for (int paper = 0; paper < 24; paper++) {
            desk.present(0, 0, paper + 1, 0, 0);
            desk.pass(1);
        }
        on.due("of the first", desk.fee(0), 1 + 24);
        on.due("of the second", desk.fee(1), 2 + 23);
        on.due("of the last", desk.fee(23), 24 + 1);
        on.due("of an honoured one", Desks.busy().fee(0), 30);
        on.due("of a discrepant one", Desks.busy().fee(1), 10 + 4 * 3);
        on.due("of a refused one", Desks.busy().fee(4), 6 + 4 * 3);
    }
}
