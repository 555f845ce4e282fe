/** Desks that the tests of boundaries start from. */
final class Desks {
    static final String CREDIT = "credit 1 0 0 0 0 1 0;";
    static final String PARTIAL = "credit 1000 0 0 900 900 60 0 partial;";

    private Desks() {
    }

    static DocumentaryCreditDesk empty() {
        return new DocumentaryCreditDesk();
    }

    static DocumentaryCreditDesk with(String text) {
        return Checks.deskWith(text);
    }

    static DocumentaryCreditDesk onDay(String text, int day) {
        DocumentaryCreditDesk desk = with(text);
        pass(desk, day);
        return desk;
    }

    /** Lets more than 365 days pass, if need be. */
    static void pass(DocumentaryCreditDesk desk, int days) {
        for (int left = days; left > 0; left -= 365) {
            desk.pass(Math.min(left, 365));
        }
    }

    /**
     * A desk with something of everything, on day 4: three credits, the last one transferred from
     * the first; presentations that are HONOURED, DISCREPANT, DISCREPANT by being overdrawn, PENDING
     * and REFUSED; more changes than can be undone; an error, and a text in the buffer.
     */
    static DocumentaryCreditDesk busy() {
        DocumentaryCreditDesk desk = with("holiday 3 8;fee amount/10+days*errors;"
                + "credit 1000 10 5 90 60 21 30 partial transferable needs 0 7;"
                + "credit 500 0 10 40 30 10 5 transferable;");
        desk.transfer(0, 200, 50);
        desk.present(0, 0, 300, 129, 330);
        desk.present(0, 5, 100, 1, 0);
        desk.present(1, 0, 501, 0, 0);
        desk.present(2, 0, 50, 129, 55);
        desk.present(0, 9, 60, 0, 0);
        desk.examine(0);
        desk.examine(1);
        desk.examine(2);
        desk.examine(4);
        desk.refuse(4);
        desk.pass(4);
        Checks.load(desk, "holiday 1 1;");
        Checks.put(desk, "credit 7 0 0 1 1 1 1;");
        return desk;
    }

    static DocumentaryCreditDesk withTwelveCredits() {
        return with("credit 100 0 0 50 40 9 3 partial transferable;" + CREDIT.repeat(11));
    }

    static DocumentaryCreditDesk withPresentations(int count) {
        DocumentaryCreditDesk desk = with(PARTIAL);
        for (int i = 0; i < count; i++) {
            desk.present(0, i % 3, 1, 0, 0);
        }
        return desk;
    }

    static DocumentaryCreditDesk withUndoneTransfer() {
        DocumentaryCreditDesk desk = with("credit 100 0 0 50 40 9 3 partial transferable;");
        desk.transfer(0, 10, 9);
        desk.undo();
        return desk;
    }

    static DocumentaryCreditDesk withUndonePresentation() {
        DocumentaryCreditDesk desk = withPresentations(2);
        desk.undo();
        return desk;
    }

    /** Presents each amount with a discrepancy that is not discrepancy 2, and refuses it. */
    static void refuseAll(DocumentaryCreditDesk desk, int credit, int... amounts) {
        for (int amount : amounts) {
            int paper = desk.present(credit, 9999, amount, 0, 0);
            desk.examine(paper);
            desk.refuse(paper);
        }
    }
}
