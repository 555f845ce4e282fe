/** Promises 18 to 22, 24, 25 and 27 to 31: presentations, from check to refuse. */
public final class PresentationTest {
    private static final Checks checks = new Checks("PresentationTest");

    private static final int PENDING = DocumentaryCreditDesk.PENDING;
    private static final int DISCREPANT = DocumentaryCreditDesk.DISCREPANT;
    private static final int HONOURED = DocumentaryCreditDesk.HONOURED;
    private static final int REFUSED = DocumentaryCreditDesk.REFUSED;

    public static void main(String[] args) {
        lateShipment();
        latePresentation();
        overdrawn();
        partialDrawing();
        missingDocuments();
        insurance();
        shipmentInTheFuture();
        severalDiscrepancies();
        checkLooksAtItsArguments();
        presentMakesAPresentation();
        presentLooksAtItsArguments();
        deadlineIsFiveBusinessDays();
        examination();
        waiving();
        refusing();
        dueDays();
        dueSums();
        bestFits();
        bestFitTakesTwelve();
        thereIsNoSuchPresentation();
        checks.end();
    }

    private static void lateShipment() {
        DocumentaryCreditDesk desk = Checks.deskWith("credit 100 0 0 900 10 60 0 partial;");
        desk.pass(20);
        checks.due("on the latest day", desk.check(0, 10, 1, 0, 0), 0);
        checks.due("a day later", desk.check(0, 11, 1, 0, 0), 1);
    }

    private static void latePresentation() {
        DocumentaryCreditDesk desk = Checks.deskWith(
                "holiday 21;credit 100 0 0 19 10 60 0 partial;credit 100 0 0 900 99 16 0 partial;");
        desk.pass(22);
        checks.due("on the extended expiry day", desk.check(0, 0, 1, 0, 0), 0);
        checks.due("on the extended day of shipment", desk.check(1, 3, 1, 0, 0), 0);
        desk.pass(1);
        checks.due("behind the extended expiry day", desk.check(0, 0, 1, 0, 0), 2);
        checks.due("behind the extended day of shipment", desk.check(1, 3, 1, 0, 0), 2);
        checks.due("on the day of a later shipment", desk.check(1, 7, 1, 0, 0), 0);
    }

    private static void overdrawn() {
        DocumentaryCreditDesk desk = Checks.deskWith(
                "credit 100 10 0 900 900 60 0 partial transferable;");
        checks.due("the maximum", desk.check(0, 0, 110, 0, 0), 0);
        checks.due("more than the maximum", desk.check(0, 0, 111, 0, 0), 4);
        desk.present(0, 0, 50, 0, 0);
        desk.transfer(0, 10, 0);
        checks.due("what is left", desk.check(0, 0, 50, 0, 0), 0);
        checks.due("more than what is left", desk.check(0, 0, 51, 0, 0), 4);
        desk.present(0, 0, 51, 0, 0);
        checks.due("as much as before", desk.check(0, 0, 50, 0, 0), 0);
        checks.due("the greatest amount", desk.check(0, 0, 1999999, 0, 0), 4);
    }

    private static void partialDrawing() {
        DocumentaryCreditDesk desk = Checks.deskWith(
                "credit 100 10 10 900 900 60 0;credit 100 0 0 900 900 60 0 partial;");
        checks.due("the minimum", desk.check(0, 0, 90, 0, 0), 0);
        checks.due("less than the minimum", desk.check(0, 0, 89, 0, 0), 8);
        checks.due("of a partial credit", desk.check(1, 0, 1, 0, 0), 0);
        desk.present(1, 0, 50, 0, 0);
        checks.due("on another credit", desk.check(0, 0, 90, 0, 0), 0);
        checks.due("a second one of a partial credit", desk.check(1, 0, 50, 0, 0), 0);
        desk.present(0, 0, 111, 0, 0);
        checks.due("an overdrawn one is another one", desk.check(0, 0, 90, 0, 0), 8);
        desk.examine(1);
        checks.due("so is a discrepant one", desk.check(0, 0, 90, 0, 0), 8);
        desk.refuse(1);
        checks.due("a refused one is not", desk.check(0, 0, 90, 0, 0), 0);
        desk.present(0, 0, 90, 0, 0);
        desk.examine(2);
        checks.due("an honoured one is", desk.check(0, 0, 20, 0, 0), 8);
        checks.due("it has none itself", desk.discrepancies(2), 0);
    }

    private static void missingDocuments() {
        DocumentaryCreditDesk desk = Checks.deskWith(
                "credit 100 0 0 900 900 60 0 partial needs 0 6;credit 100 0 0 900 900 60 0 partial;");
        checks.due("all that are needed", desk.check(0, 0, 1, 65, 0), 0);
        checks.due("more than are needed", desk.check(0, 0, 1, 255, 0), 0);
        checks.due("one is missing", desk.check(0, 0, 1, 254, 0), 16);
        checks.due("the other is missing", desk.check(0, 0, 1, 191, 0), 16);
        checks.due("both are missing", desk.check(0, 0, 1, 0, 0), 16);
        checks.due("none is needed", desk.check(1, 0, 1, 0, 0), 0);
    }

    private static void insurance() {
        DocumentaryCreditDesk desk = Checks.deskWith(
                "credit 1000 0 0 900 900 60 0 partial needs 7;credit 1000 0 0 900 900 60 0 partial;");
        checks.due("enough", desk.check(0, 0, 99, 128, 108), 0);
        checks.due("one less", desk.check(0, 0, 99, 128, 107), 32);
        checks.due("enough for 100", desk.check(0, 0, 100, 128, 110), 0);
        checks.due("one less for 100", desk.check(0, 0, 100, 128, 109), 32);
        checks.due("without the document", desk.check(0, 0, 100, 0, 110), 16);
        checks.due("without both", desk.check(0, 0, 100, 127, 0), 48);
        checks.due("document 7 is not needed", desk.check(1, 0, 100, 128, 0), 0);
        checks.due("insured for the greatest int",
                desk.check(0, 0, 1000, 128, Integer.MAX_VALUE), 0);
    }

    private static void shipmentInTheFuture() {
        DocumentaryCreditDesk desk = Checks.deskWith("credit 100 0 0 900 900 60 0 partial;");
        desk.pass(8);
        checks.due("shipped today", desk.check(0, 8, 1, 0, 0), 0);
        checks.due("shipped tomorrow", desk.check(0, 9, 1, 0, 0), 64);
        checks.due("shipped on the last day", desk.check(0, 9999, 1, 0, 0), 65);
        desk.present(0, 9, 1, 0, 0);
        desk.pass(5);
        checks.due("judged on the day it is made", desk.discrepancies(0), 64);
    }

    private static void severalDiscrepancies() {
        DocumentaryCreditDesk desk = Checks.deskWith("credit 100 0 0 9 9 9 0 needs 7;");
        desk.pass(20);
        desk.present(0, 21, 50, 0, 0);
        checks.due("all but overdrawn", desk.discrepancies(0), 127 - 4);
        checks.due("all", desk.check(0, 21, 51, 0, 0), 127);
        checks.due("all but the documents'", desk.check(0, 21, 51, 128, 56), 127 - 16 - 32);
        checks.due("all but shipment's", desk.check(0, 9, 51, 0, 0), 127 - 1 - 64);
        checks.due("one that the first makes partial", desk.check(0, 9, 50, 128, 55), 2 + 8);
    }

    private static void checkLooksAtItsArguments() {
        DocumentaryCreditDesk desk = Checks.deskWith("credit 100 0 0 900 900 60 0 partial;");
        checks.badArgument("shipped -1", () -> desk.check(0, -1, 1, 0, 0));
        checks.badArgument("shipped 10000", () -> desk.check(0, 10000, 1, 0, 0));
        checks.badArgument("amount 0", () -> desk.check(0, 0, 0, 0, 0));
        checks.badArgument("amount 2000000", () -> desk.check(0, 0, 2000000, 0, 0));
        checks.badArgument("documents -1", () -> desk.check(0, 0, 1, -1, 0));
        checks.badArgument("documents 256", () -> desk.check(0, 0, 1, 256, 0));
        checks.badArgument("insured -1", () -> desk.check(0, 0, 1, 0, -1));
        checks.noSuch("credit 1, all wrong", () -> desk.check(1, -1, 0, -1, -1));
        checks.noSuch("credit -1", () -> desk.check(-1, 0, 1, 0, 0));
        checks.due("no presentation is made", desk.presentationCount(), 0);
    }

    private static void presentMakesAPresentation() {
        DocumentaryCreditDesk desk = Checks.deskWith(
                "credit 100 0 0 900 900 60 0 partial;credit 100 0 0 5 5 60 0 partial needs 1;");
        desk.pass(10);
        checks.due("index", desk.present(1, 6, 30, 0, 0), 0);
        checks.due("next index", desk.present(0, 6, 30, 0, 0), 1);
        checks.due("credit", desk.creditOf(0), 1);
        checks.due("credit of the next", desk.creditOf(1), 0);
        checks.due("state", desk.state(0), PENDING);
        checks.due("discrepancies", desk.discrepancies(0), 1 + 2 + 16);
        checks.due("discrepancies of the next", desk.discrepancies(1), 0);
        checks.due("due day", desk.dueDay(0), -1);
        checks.due("drawn", desk.drawn(1), 30);
    }

    private static void presentLooksAtItsArguments() {
        DocumentaryCreditDesk desk = Checks.deskWith("credit 100 0 0 900 900 60 0 partial;");
        for (int i = 0; i < 2; i++) {
            checks.badArgument("shipped -1", () -> desk.present(0, -1, 1, 0, 0));
            checks.badArgument("shipped 10000", () -> desk.present(0, 10000, 1, 0, 0));
            checks.badArgument("amount 0", () -> desk.present(0, 0, 0, 0, 0));
            checks.badArgument("amount 2000000", () -> desk.present(0, 0, 2000000, 0, 0));
            checks.badArgument("documents -1", () -> desk.present(0, 0, 1, -1, 0));
            checks.badArgument("documents 256", () -> desk.present(0, 0, 1, 256, 0));
            checks.badArgument("insured -1", () -> desk.present(0, 0, 1, 0, -1));
            checks.noSuch("credit 1, all wrong", () -> desk.present(1, -1, 0, -1, -1));
            checks.noSuch("credit -1", () -> desk.present(-1, 0, 1, 0, 0));
            // The same again with 24 presentations: those exceptions come first.
            for (int n = desk.presentationCount(); n < 24; n++) {
                checks.due("index", desk.present(0, 9999, 1999999, 255, Integer.MAX_VALUE), n);
            }
        }
        checks.badState("a 25th presentation", () -> desk.present(0, 0, 1, 0, 0));
        checks.due("presentations", desk.presentationCount(), 24);
        checks.due("undo of the 24th", desk.undo(), 7);
        checks.due("presentations then", desk.presentationCount(), 23);
    }

    private static void deadlineIsFiveBusinessDays() {
        DocumentaryCreditDesk desk = Checks.deskWith(
                "holiday 7 10;credit 100 0 0 900 900 60 0 partial;");
        desk.present(0, 0, 1, 0, 0);
        checks.due("from a Monday", desk.deadline(0), 8);
        desk.pass(5);
        desk.present(0, 0, 1, 0, 0);
        checks.due("from a weekend day", desk.deadline(1), 15);
        desk.pass(6);
        desk.present(0, 0, 1, 0, 0);
        checks.due("from a Friday", desk.deadline(2), 18);
        checks.due("the first one stays", desk.deadline(0), 8);
        desk.examine(0);
        checks.due("so it does when honoured", desk.deadline(0), 8);
    }

    private static void examination() {
        DocumentaryCreditDesk desk = Checks.deskWith("credit 100 0 0 900 900 60 2 partial;");
        desk.present(0, 0, 10, 0, 0);
        desk.present(0, 9, 10, 0, 0);
        desk.present(0, 9, 10, 0, 0);
        desk.present(0, 0, 101, 0, 0);
        checks.due("in order", desk.examine(0), HONOURED);
        checks.due("state", desk.state(0), HONOURED);
        checks.badState("examined already", () -> desk.examine(0));
        desk.pass(7);
        checks.due("deadline", desk.deadline(1), 7);
        checks.due("on the deadline", desk.examine(1), DISCREPANT);
        checks.due("state", desk.state(1), DISCREPANT);
        checks.badState("examined already", () -> desk.examine(1));
        desk.pass(1);
        checks.due("behind the deadline", desk.examine(2), HONOURED);
        checks.due("due from that day on", desk.dueDay(2), 10);
        checks.due("its discrepancies stay", desk.discrepancies(2), 64);
        checks.due("overdrawn, behind the deadline", desk.examine(3), DISCREPANT);
        desk.refuse(1);
        checks.badState("refused", () -> desk.examine(1));
    }

    private static void waiving() {
        DocumentaryCreditDesk desk = Checks.deskWith("credit 100 0 0 900 900 60 4 partial;");
        desk.present(0, 9, 10, 0, 0);
        desk.present(0, 0, 101, 0, 0);
        desk.present(0, 0, 10, 0, 0);
        checks.badState("pending", () -> desk.waive(0));
        desk.examine(0);
        desk.examine(1);
        desk.examine(2);
        checks.badState("overdrawn", () -> desk.waive(1));
        checks.badState("honoured", () -> desk.waive(2));
        desk.pass(1);
        checks.due("due day", desk.waive(0), 7);
        checks.due("state", desk.state(0), HONOURED);
        checks.due("dueDay", desk.dueDay(0), 7);
        checks.badState("waived already", () -> desk.waive(0));
        desk.refuse(1);
        checks.badState("refused", () -> desk.waive(1));
        checks.due("drawn", desk.drawn(0), 20);
    }

    private static void refusing() {
        DocumentaryCreditDesk desk = Checks.deskWith(
                "credit 100 10 0 900 900 60 4 partial;credit 5 0 0 900 900 60 0 partial;");
        desk.present(0, 9, 10, 0, 0);
        desk.present(0, 0, 101, 0, 0);
        desk.present(0, 0, 20, 0, 0);
        checks.badState("pending", () -> desk.refuse(0));
        desk.examine(0);
        desk.examine(1);
        desk.examine(2);
        checks.badState("honoured", () -> desk.refuse(2));
        checks.due("an overdrawn one gives nothing back", desk.refuse(1), 80);
        checks.due("another gives its amount back", desk.refuse(0), 90);
        checks.due("state", desk.state(0), REFUSED);
        checks.due("due day", desk.dueDay(0), -1);
        checks.badState("refused already", () -> desk.refuse(0));
        checks.due("available", desk.available(0), 90);
    }

    private static void dueDays() {
        DocumentaryCreditDesk desk = Checks.deskWith("holiday 14 15;credit 100 0 0 900 900 60 0 partial;"
                + "credit 100 0 0 900 900 60 180 partial;credit 100 0 0 900 900 60 12 partial;");
        for (int credit = 0; credit < 3; credit++) {
            desk.present(credit, 0, 1, 0, 0);
            checks.due("pending", desk.dueDay(credit), -1);
            desk.examine(credit);
        }
        checks.due("tenor 0", desk.dueDay(0), 0);
        checks.due("tenor 180", desk.dueDay(1), 182);
        checks.due("tenor 12, extended", desk.dueDay(2), 16);
        desk.pass(5);
        checks.due("it stays", desk.dueDay(0), 0);
        desk.present(0, 0, 1, 0, 0);
        desk.examine(3);
        checks.due("tenor 0 on a weekend day", desk.dueDay(3), 7);
    }

    private static void dueSums() {
        DocumentaryCreditDesk desk = Checks.deskWith("credit 999999 10 0 900 900 60 2 partial;"
                + "credit 999999 10 0 900 900 60 8 partial;");
        desk.present(0, 0, 500000, 0, 0);
        desk.present(1, 0, 700, 0, 0);
        desk.present(0, 0, 30, 0, 0);
        desk.present(0, 9, 4, 0, 0);
        checks.due("none is honoured", desk.dueBetween(-1, 9999), 0);
        for (int i = 0; i < 4; i++) {
            desk.examine(i);
        }
        checks.due("all days", desk.dueBetween(Integer.MIN_VALUE, Integer.MAX_VALUE), 500730);
        checks.due("the first due day", desk.dueBetween(2, 2), 500030);
        checks.due("the day before", desk.dueBetween(-1, 1), 0);
        checks.due("between them", desk.dueBetween(3, 7), 0);
        checks.due("the second due day", desk.dueBetween(8, 8), 700);
        checks.due("both due days", desk.dueBetween(2, 8), 500730);
        checks.due("backwards", desk.dueBetween(8, 2), 0);
        desk.refuse(3);
        checks.due("-1 is no due day", desk.dueBetween(-1, -1), 0);
    }

    private static void refuseAll(DocumentaryCreditDesk desk, int credit, int... amounts) {
        for (int amount : amounts) {
            int index = desk.present(credit, 9999, amount, 0, 0);
            desk.examine(index);
            desk.refuse(index);
        }
    }

    private static void bestFits() {
        String partial = "credit 100 0 0 900 900 60 0 partial;";
        DocumentaryCreditDesk desk = Checks.deskWith(partial + partial);
        checks.due("nothing at all", desk.bestFit(0), 0);
        refuseAll(desk, 0, 60, 50, 41, 150);
        checks.due("the greatest sum", desk.bestFit(0), 0b0110);
        refuseAll(desk, 1, 30);
        checks.due("another credit's do not count", desk.bestFit(0), 0b0110);
        checks.due("the other credit", desk.bestFit(1), 0b10000);
        desk.present(0, 0, 10, 0, 0);
        checks.due("into 90", desk.bestFit(0), 0b0001);
        desk.present(0, 0, 31, 0, 0);
        checks.due("into 59", desk.bestFit(0), 0b0010);
        desk.present(0, 0, 19, 0, 0);
        checks.due("into 40", desk.bestFit(0), 0);

        DocumentaryCreditDesk equal = Checks.deskWith(partial);
        refuseAll(equal, 0, 70, 30, 30, 70, 40, 101);
        checks.due("of equal sums the smallest number", equal.bestFit(0), 0b0011);
        DocumentaryCreditDesk three = Checks.deskWith(partial);
        refuseAll(three, 0, 20, 50, 30, 100);
        checks.due("three before a single one of a higher index", three.bestFit(0), 0b0111);
        DocumentaryCreditDesk high = Checks.deskWith(partial);
        refuseAll(high, 0, 99, 60, 40);
        checks.due("a greater number with a greater sum", high.bestFit(0), 0b0110);
        checks.noSuch("credit 1", () -> high.bestFit(1));
        checks.noSuch("credit -1", () -> high.bestFit(-1));
    }

    private static void bestFitTakesTwelve() {
        DocumentaryCreditDesk desk = Checks.deskWith("credit 4095 0 0 900 900 60 0 partial;"
                + "credit 1 0 0 900 900 60 0 partial;");
        refuseAll(desk, 1, 5, 6);
        for (int i = 0; i < 12; i++) {
            refuseAll(desk, 0, 1 << i);
        }
        checks.due("all twelve", desk.bestFit(0), 4095 << 2);
        refuseAll(desk, 0, 1000);
        desk.present(0, 0, 3095, 0, 0);
        checks.due("into 1000", desk.bestFit(0), 1000 << 2);
        desk.present(0, 0, 1000, 0, 0);
        checks.due("into 0", desk.bestFit(0), 0);

        DocumentaryCreditDesk late = Checks.deskWith("credit 100 0 0 900 900 60 0 partial;");
        refuseAll(late, 0, 1, 1, 1, 1, 1, 1, 1, 1, 1, 1, 1, 1, 90);
        checks.due("the 13th is not considered", late.bestFit(0), 4095);
    }

    private static void thereIsNoSuchPresentation() {
        DocumentaryCreditDesk desk = Checks.deskWith("credit 100 0 0 900 900 60 0 partial;");
        desk.present(0, 0, 1, 0, 0);
        desk.present(0, 9, 1, 0, 0);
        desk.undo();
        int[] wrong = {-1, 1, 23, 24, Integer.MIN_VALUE, Integer.MAX_VALUE};
        for (int index : wrong) {
            checks.noSuch("creditOf " + index, () -> desk.creditOf(index));
            checks.noSuch("state " + index, () -> desk.state(index));
            checks.noSuch("discrepancies " + index, () -> desk.discrepancies(index));
            checks.noSuch("deadline " + index, () -> desk.deadline(index));
            checks.noSuch("dueDay " + index, () -> desk.dueDay(index));
            checks.noSuch("fee " + index, () -> desk.fee(index));
            checks.noSuch("examine " + index, () -> desk.examine(index));
            checks.noSuch("waive " + index, () -> desk.waive(index));
            checks.noSuch("refuse " + index, () -> desk.refuse(index));
        }
    }
}
