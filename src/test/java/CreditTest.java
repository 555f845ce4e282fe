/** Promises 12 to 17, 26 and 32: what is told of credits, lastDay, and transfer. */
public final class CreditTest {
    private static final Checks checks = new Checks("CreditTest");

    public static void main(String[] args) {
        boundsFollowTheTolerances();
        sumsFollowTheDrawings();
        sumsFollowTheTransfers();
        expiryIsNotExtended();
        lastDayIsTheSmallerOne();
        transferMakesACredit();
        partKeepsTheParentsTerms();
        transferLooksAtItsArguments();
        transferLooksAtTheCredit();
        transfersFillTheDesk();
        failedTransferChangesNothing();
        thereIsNoSuchCredit();
        checks.end();
    }

    private static void boundsFollowTheTolerances() {
        DocumentaryCreditDesk desk = Checks.deskWith("credit 1000 10 5 9 9 9 0;"
                + "credit 999999 10 10 9 9 9 0;credit 99 1 1 9 9 9 0;credit 199 1 0 9 9 9 0;"
                + "credit 1 0 10 9 9 9 0;");
        int[] most = {1100, 1099998, 99, 200, 1};
        int[] least = {950, 900000, 99, 199, 1};
        for (int i = 0; i < most.length; i++) {
            checks.due("maximum " + i, desk.bound(i, true), most[i]);
            checks.due("minimum " + i, desk.bound(i, false), least[i]);
            checks.due("available " + i, desk.available(i), most[i]);
            checks.due("parent " + i, desk.parent(i), -1);
        }
    }

    private static void sumsFollowTheDrawings() {
        DocumentaryCreditDesk desk = Checks.deskWith(
                "credit 100 10 0 50 50 9 0 partial;credit 70 0 0 50 50 9 0 partial;");
        desk.present(0, 0, 60, 0, 0);
        checks.due("drawn", desk.drawn(0), 60);
        checks.due("available", desk.available(0), 50);
        desk.present(0, 0, 51, 0, 0);
        checks.due("an overdrawn one does not count", desk.drawn(0), 60);
        desk.present(0, 9, 50, 0, 0);
        checks.due("another discrepancy counts", desk.drawn(0), 110);
        checks.due("nothing is available", desk.available(0), 0);
        desk.examine(2);
        checks.due("a discrepant one counts", desk.drawn(0), 110);
        desk.refuse(2);
        checks.due("a refused one does not count", desk.drawn(0), 60);
        desk.examine(0);
        checks.due("an honoured one counts", desk.drawn(0), 60);
        checks.due("drawn of the other credit", desk.drawn(1), 0);
        checks.due("available of the other credit", desk.available(1), 70);
    }

    private static void sumsFollowTheTransfers() {
        DocumentaryCreditDesk desk = Checks.deskWith(
                "credit 100 10 0 50 50 9 0 partial transferable;credit 70 0 0 50 50 9 0;");
        checks.due("transferred at first", desk.transferred(0), 0);
        desk.transfer(0, 30, 50);
        desk.transfer(0, 20, 50);
        checks.due("transferred", desk.transferred(0), 50);
        checks.due("drawn", desk.drawn(0), 0);
        checks.due("available", desk.available(0), 60);
        desk.present(2, 0, 30, 0, 0);
        checks.due("a drawing on the part is not the parent's", desk.available(0), 60);
        checks.due("transferred of the other credit", desk.transferred(1), 0);
        checks.due("transferred of a part", desk.transferred(2), 0);
        checks.due("available of a part", desk.available(2), 0);
        desk.undo();
        desk.undo();
        checks.due("transferred after undo", desk.transferred(0), 30);
    }

    private static void expiryIsNotExtended() {
        DocumentaryCreditDesk desk = Checks.deskWith(
                "holiday 7;credit 1 0 0 5 9 9 0;credit 1 0 0 999 9 9 0;credit 1 0 0 0 9 9 0;");
        checks.due("expiry on a weekend", desk.expiry(0), 5);
        checks.due("latest expiry", desk.expiry(1), 999);
        checks.due("earliest expiry", desk.expiry(2), 0);
    }

    private static void lastDayIsTheSmallerOne() {
        DocumentaryCreditDesk desk = Checks.deskWith(
                "holiday 7 21;credit 1 0 0 20 0 10 0;credit 1 0 0 999 0 60 0;");
        checks.due("by shipment", desk.lastDay(0, 0), 10);
        checks.due("by shipment, extended over a weekend", desk.lastDay(0, 2), 14);
        checks.due("both are the same", desk.lastDay(0, 9), 22);
        checks.due("by shipment, extended over a holiday", desk.lastDay(0, 11), 22);
        checks.due("by expiry, extended over a holiday", desk.lastDay(0, 12), 22);
        checks.due("by expiry", desk.lastDay(0, 9999), 22);
        checks.due("by the longest period", desk.lastDay(1, 1), 63);
        checks.due("by the latest expiry", desk.lastDay(1, 9999), 1001);
        desk.pass(300);
        checks.due("whatever today is", desk.lastDay(0, 0), 10);
        checks.badArgument("shipped -1", () -> desk.lastDay(0, -1));
        checks.badArgument("shipped 10000", () -> desk.lastDay(0, 10000));
        checks.noSuch("credit 2, shipped -1", () -> desk.lastDay(2, -1));
    }

    private static void transferMakesACredit() {
        DocumentaryCreditDesk desk = Checks.deskWith(
                "credit 5 0 0 9 9 9 0;credit 1000 10 10 50 40 9 3 partial transferable needs 2;");
        checks.due("index", desk.transfer(1, 300, 30), 2);
        checks.due("next index", desk.transfer(1, 1, 0), 3);
        checks.due("parent", desk.parent(2), 1);
        checks.due("parent of the next", desk.parent(3), 1);
        checks.due("maximum", desk.bound(2, true), 300);
        checks.due("minimum", desk.bound(2, false), 300);
        checks.due("expiry", desk.expiry(2), 30);
        checks.due("expiry of the next", desk.expiry(3), 0);
        checks.badState("a part is not transferable", () -> desk.transfer(2, 1, 1));
        checks.due("all that is available", desk.transfer(1, 799, 50), 4);
        checks.due("nothing is left", desk.available(1), 0);
    }

    private static void partKeepsTheParentsTerms() {
        DocumentaryCreditDesk desk = Checks.deskWith("credit 1000 0 0 50 40 9 3 partial transferable"
                + " needs 2 7;credit 1000 0 0 50 40 9 3 transferable;");
        int early = desk.transfer(0, 100, 30);
        int late = desk.transfer(0, 100, 45);
        int whole = desk.transfer(1, 100, 50);
        checks.due("latest shipment is the expiry day", desk.check(early, 30, 100, 132, 110), 64);
        checks.due("behind the expiry day", desk.check(early, 31, 100, 132, 110), 65);
        checks.due("latest shipment is the parent's", desk.check(late, 40, 100, 132, 110), 64);
        checks.due("behind the parent's", desk.check(late, 41, 100, 132, 110), 65);
        checks.due("documents", desk.check(early, 0, 100, 128, 110), 16);
        checks.due("insurance", desk.check(early, 0, 100, 132, 109), 32);
        checks.due("partial", desk.check(early, 0, 1, 132, 110), 0);
        checks.due("not partial", desk.check(whole, 0, 99, 0, 0), 8);
        checks.due("the period", desk.lastDay(early, 1), 10);
        desk.present(early, 0, 100, 132, 110);
        desk.examine(0);
        checks.due("the tenor", desk.dueDay(0), 3);
    }

    private static void transferLooksAtItsArguments() {
        DocumentaryCreditDesk desk = Checks.deskWith(
                "credit 100 0 0 50 40 9 3 partial transferable;credit 100 0 0 999 40 9 3;");
        checks.badArgument("amount 0", () -> desk.transfer(0, 0, 10));
        checks.badArgument("amount -1", () -> desk.transfer(0, -1, 10));
        checks.badArgument("amount 1000000", () -> desk.transfer(0, 1000000, 10));
        checks.badArgument("expiry -1", () -> desk.transfer(0, 1, -1));
        checks.badArgument("expiry behind the parent's", () -> desk.transfer(0, 1, 51));
        checks.badArgument("expiry 1000", () -> desk.transfer(1, 1, 1000));
        checks.badArgument("before the state", () -> desk.transfer(1, 0, 10));
        checks.noSuch("before the arguments", () -> desk.transfer(2, 0, -1));
        checks.noSuch("credit -1", () -> desk.transfer(-1, 1, 1));
        checks.badState("amount 999999 is in range", () -> desk.transfer(0, 999999, 10));
        checks.badState("expiry 999 is in range", () -> desk.transfer(1, 1, 999));
        checks.due("expiry like the parent's", desk.transfer(0, 1, 50), 2);
    }

    private static void transferLooksAtTheCredit() {
        DocumentaryCreditDesk desk = Checks.deskWith("credit 100 0 0 50 40 9 3 partial;"
                + "credit 100 10 0 50 40 9 3 transferable;"
                + "credit 100 0 0 50 40 9 3 partial transferable;");
        checks.badState("not transferable", () -> desk.transfer(0, 1, 1));
        checks.badState("more than is available", () -> desk.transfer(1, 111, 1));
        checks.due("the first part of a whole", desk.transfer(1, 60, 1), 3);
        checks.badState("the second part of a whole", () -> desk.transfer(1, 1, 1));
        desk.present(2, 0, 40, 0, 0);
        checks.badState("more than the drawing leaves", () -> desk.transfer(2, 61, 1));
        checks.due("as much as it leaves", desk.transfer(2, 60, 1), 4);
        desk.undo();
        desk.undo();
        checks.due("the first part is still there", desk.creditCount(), 4);
        desk.undo();
        checks.due("the first part again", desk.transfer(1, 110, 1), 3);
    }

    private static void transfersFillTheDesk() {
        DocumentaryCreditDesk desk = Checks.deskWith("credit 100 0 0 50 40 9 3 partial transferable;");
        for (int i = 1; i < 12; i++) {
            checks.due("part " + i, desk.transfer(0, 1, 1), i);
        }
        checks.badState("a 13th credit", () -> desk.transfer(0, 1, 1));
        checks.badArgument("a 13th credit of amount 0", () -> desk.transfer(0, 0, 1));
        checks.due("credits", desk.creditCount(), 12);
        checks.due("transferred", desk.transferred(0), 11);
    }

    private static void failedTransferChangesNothing() {
        DocumentaryCreditDesk desk = Checks.deskWith("credit 100 0 0 50 40 9 3 transferable;");
        long before = desk.checksum();
        checks.badState("too much", () -> desk.transfer(0, 101, 1));
        checks.badArgument("too late", () -> desk.transfer(0, 1, 51));
        checks.due("checksum", desk.checksum(), before);
        checks.due("credits", desk.creditCount(), 1);
        checks.due("undo is of the load", desk.undo(), 0);
        checks.due("no credits then", desk.creditCount(), 0);
    }

    private static void thereIsNoSuchCredit() {
        DocumentaryCreditDesk desk = Checks.deskWith("credit 1 0 0 0 0 1 0;credit 1 0 0 0 0 1 0;");
        int[] wrong = {-1, 2, 11, 12, Integer.MIN_VALUE, Integer.MAX_VALUE};
        for (int credit : wrong) {
            checks.noSuch("parent " + credit, () -> desk.parent(credit));
            checks.noSuch("maximum " + credit, () -> desk.bound(credit, true));
            checks.noSuch("minimum " + credit, () -> desk.bound(credit, false));
            checks.noSuch("expiry " + credit, () -> desk.expiry(credit));
            checks.noSuch("drawn " + credit, () -> desk.drawn(credit));
            checks.noSuch("transferred " + credit, () -> desk.transferred(credit));
            checks.noSuch("available " + credit, () -> desk.available(credit));
            checks.noSuch("lastDay " + credit, () -> desk.lastDay(credit, 0));
            checks.noSuch("transfer " + credit, () -> desk.transfer(credit, 1, 0));
        }
    }
}
