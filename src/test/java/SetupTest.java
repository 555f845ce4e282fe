/** Promises 1 to 6: a new object, append, load, errorOffset, creditCount, presentationCount. */
public final class SetupTest {
    private static final Checks checks = new Checks("SetupTest");

    private static final int SYNTAX = DocumentaryCreditDesk.SYNTAX_ERROR;
    private static final int RANGE = DocumentaryCreditDesk.OUT_OF_RANGE;
    private static final int MANY = DocumentaryCreditDesk.TOO_MANY;
    private static final int DEEP = DocumentaryCreditDesk.TOO_DEEP;

    private static final String CREDIT = "credit 1 0 0 0 0 1 0";

    public static void main(String[] args) {
        newObjectIsEmpty();
        appendFillsTheBuffer();
        appendPutsTheMostSignificantByteFirst();
        loadWantsALengthOfTheBuffer();
        loadEmptiesTheBuffer();
        loadReadsTheFirstBytesOnly();
        loadReplacesAllData();
        failedLoadLeavesTheDataAlone();
        errorOffsetIsOfTheLatestLoad();
        tokensNeedNoSpacesBetweenThem();
        errorsOfHolidays();
        errorsOfCredits();
        errorsOfNeeds();
        errorsOfFees();
        errorsOfBytes();
        endsThatComeTooEarly();
        theSmallestOffsetCounts();
        countsOfCreditsAndPresentations();
        checks.end();
    }

    private static void good(String text, int credits) {
        DocumentaryCreditDesk desk = new DocumentaryCreditDesk();
        checks.due("load of '" + text + "'", Checks.load(desk, text), credits);
        checks.due("errorOffset of '" + text + "'", desk.errorOffset(), -1);
        checks.due("creditCount of '" + text + "'", desk.creditCount(), credits);
    }

    private static void bad(String text, int error, int offset) {
        DocumentaryCreditDesk desk = new DocumentaryCreditDesk();
        checks.due("load of '" + text + "'", Checks.load(desk, text), error);
        checks.due("errorOffset of '" + text + "'", desk.errorOffset(), offset);
        checks.due("creditCount of '" + text + "'", desk.creditCount(), 0);
        checks.due("undo behind '" + text + "'", desk.undo(), -1);
    }

    private static void newObjectIsEmpty() {
        DocumentaryCreditDesk desk = new DocumentaryCreditDesk();
        checks.due("creditCount", desk.creditCount(), 0);
        checks.due("presentationCount", desk.presentationCount(), 0);
        checks.due("today", desk.today(), 0);
        checks.due("errorOffset", desk.errorOffset(), -1);
        checks.due("checksum", desk.checksum(), 0);
        checks.due("businessDays", desk.businessDays(0, 1001), 715);
        checks.due("undo", desk.undo(), -1);
        checks.badArgument("load(1) of an empty buffer", () -> desk.load(1));
        checks.due("first append", desk.append(0, 0, 0, 0, 0), 20);
    }

    private static void appendFillsTheBuffer() {
        DocumentaryCreditDesk desk = new DocumentaryCreditDesk();
        String text = CREDIT + ";" + " ".repeat(900 - CREDIT.length() - 1);
        for (int i = 0; i < 45; i++) {
            int at = 20 * i;
            checks.due("append " + i, desk.append(Checks.word(text, at), Checks.word(text, at + 4),
                    Checks.word(text, at + 8), Checks.word(text, at + 12),
                    Checks.word(text, at + 16)), at + 20);
        }
        checks.due("append beyond 900", desk.append(1, 2, 3, 4, 5), -1);
        checks.due("append beyond 900 again", desk.append(1, 2, 3, 4, 5), -1);
        checks.badArgument("load(901)", () -> desk.load(901));
        checks.due("load(900)", desk.load(900), 1);
    }

    private static void appendPutsTheMostSignificantByteFirst() {
        DocumentaryCreditDesk desk = new DocumentaryCreditDesk();
        // "holi" "day " "1 2 " "0003" ";x  "
        desk.append(0x686f6c69, 0x64617920, 0x31203220, 0x30303033, 0x3b782020);
        checks.due("load(17)", desk.load(17), 0);
        checks.due("holiday 1", desk.isBusinessDay(1), false);
        checks.due("holiday 2", desk.isBusinessDay(2), false);
        checks.due("holiday 3", desk.isBusinessDay(3), false);
        checks.due("no holiday 4", desk.isBusinessDay(4), true);
        // A byte above 127 in each place of a word.
        for (int place = 0; place < 4; place++) {
            int filled = 0x20202020 & ~(255 << 24 - 8 * place) | 0x80 << 24 - 8 * place;
            desk.append(0x20202020, filled, 0x20202020, 0x20202020, 0x20202020);
            checks.due("load of byte 128", desk.load(20), SYNTAX);
            checks.due("offset of byte 128", desk.errorOffset(), 4 + place);
        }
    }

    private static void loadWantsALengthOfTheBuffer() {
        DocumentaryCreditDesk desk = new DocumentaryCreditDesk();
        Checks.put(desk, CREDIT + ";");
        checks.badArgument("load(-1)", () -> desk.load(-1));
        checks.badArgument("load of the least int", () -> desk.load(Integer.MIN_VALUE));
        checks.badArgument("load(41) of 40 bytes", () -> desk.load(41));
        checks.badArgument("load of the greatest int", () -> desk.load(Integer.MAX_VALUE));
        checks.due("errorOffset after throws", desk.errorOffset(), -1);
        checks.due("undo after throws", desk.undo(), -1);
        checks.due("load of the unchanged buffer", desk.load(40), 1);
    }

    private static void loadEmptiesTheBuffer() {
        DocumentaryCreditDesk desk = new DocumentaryCreditDesk();
        Checks.put(desk, CREDIT + ";");
        desk.load(21);
        checks.badArgument("load(1) after a load", () -> desk.load(1));
        checks.due("append after a load", desk.append(0, 0, 0, 0, 0), 20);
        checks.due("load of an error", desk.load(3), SYNTAX);
        checks.badArgument("load(1) after an error", () -> desk.load(1));
        checks.due("append after an error", desk.append(0, 0, 0, 0, 0), 20);
    }

    private static void loadReadsTheFirstBytesOnly() {
        DocumentaryCreditDesk desk = new DocumentaryCreditDesk();
        Checks.put(desk, CREDIT + ";" + CREDIT + ";");
        checks.due("load of the first credit", desk.load(CREDIT.length() + 1), 1);
        Checks.put(desk, "holiday 12 3;");
        checks.due("load without the end", desk.load(9), SYNTAX);
        checks.due("offset is the length read", desk.errorOffset(), 9);
        Checks.put(desk, "?");
        checks.due("load(0)", desk.load(0), 0);
    }

    private static void loadReplacesAllData() {
        DocumentaryCreditDesk desk = Checks.deskWith("holiday 1 2 3;fee 7;credit 100 0 0 9 9 9 0;");
        desk.present(0, 0, 100, 0, 0);
        desk.pass(3);
        Checks.load(desk, "credit 5000 0 0 9 9 9 0;credit 6000 0 0 9 9 9 0;");
        checks.due("today", desk.today(), 0);
        checks.due("credits", desk.creditCount(), 2);
        checks.due("presentations", desk.presentationCount(), 0);
        checks.due("holidays", desk.isBusinessDay(1), true);
        desk.present(1, 0, 6000, 0, 0);
        checks.due("fee", desk.fee(0), 6);
    }

    private static void failedLoadLeavesTheDataAlone() {
        DocumentaryCreditDesk desk = Checks.deskWith("holiday 1;fee 7;credit 100 0 0 9 9 9 0;");
        desk.present(0, 0, 100, 0, 0);
        desk.pass(3);
        long before = desk.checksum();
        checks.due("a wrong text", Checks.load(desk, "holiday 2;fee 8;" + CREDIT + ";;"), SYNTAX);
        checks.due("checksum", desk.checksum(), before);
        checks.due("fee", desk.fee(0), 7);
        checks.due("old holiday", desk.isBusinessDay(1), false);
        checks.due("new holiday", desk.isBusinessDay(2), true);
        checks.due("credits", desk.creditCount(), 1);
        checks.due("changes left of three", desk.undo(), 2);
    }

    private static void errorOffsetIsOfTheLatestLoad() {
        DocumentaryCreditDesk desk = new DocumentaryCreditDesk();
        Checks.load(desk, "holiday x;");
        checks.due("after an error", desk.errorOffset(), 8);
        checks.badArgument("load(1)", () -> desk.load(1));
        checks.due("after a throw", desk.errorOffset(), 8);
        desk.pass(1);
        desk.undo();
        checks.due("after undo", desk.errorOffset(), 8);
        Checks.load(desk, "holiday 1;");
        checks.due("after a good text", desk.errorOffset(), -1);
        Checks.load(desk, "?");
        checks.due("after an error at 0", desk.errorOffset(), 0);
        desk.load(0);
        checks.due("after an empty text", desk.errorOffset(), -1);
    }

    private static void tokensNeedNoSpacesBetweenThem() {
        good("", 0);
        good("   ", 0);
        good("holiday1;", 0);
        good("  holiday   1   2  ;  ", 0);
        good("credit1 0 0 0 0 1 0partial transferable needs1 2;", 1);
        good("credit 1 0 0 0 0 1 0 transferable needs 0 1 2 3 4 5 6 7;", 1);
        good("credit 000000000000000000001 00 010 0999 0000 0060 0180;", 1);
        good("credit 999999 10 10 999 999 60 180;", 1);
        good("fee(amount+days)*errors/3-9999;", 0);
        good("fee ( ( ( ( 1 ) ) ) ) ;", 0);
        good("fee ((((1))))+((((2))));", 0);
        good("fee 1;holiday 1;" + CREDIT + ";holiday 2;" + CREDIT + ";", 2);
        good("holiday 0 999;", 0);
        good((CREDIT + ";").repeat(12), 12);
    }

    private static void errorsOfHolidays() {
        bad("holiday;", SYNTAX, 7);
        bad("holiday ,1;", SYNTAX, 8);
        bad("holidays 1;", SYNTAX, 0);
        bad("holidayz 1;", SYNTAX, 0);
        bad("holidaya 1;", SYNTAX, 0);
        bad("xoliday 1;", SYNTAX, 0);
        bad("holidax 1;", SYNTAX, 0);
        bad("holiday 1,2;", SYNTAX, 9);
        bad("holiday 1 x;", SYNTAX, 10);
        bad("holiday 1000;", RANGE, 8);
        bad("holiday 4294967297;", RANGE, 8);
        bad("holiday 99999999999999999999999999999;", RANGE, 8);
        bad("holiday 7 07;", RANGE, 10);
        bad("holiday 7;holiday 6 7;", RANGE, 20);
        String sixteen = "holiday 1 2 3 4 5 6 7 8 9 10 11 12 13 14 15 16";
        good(sixteen + ";", 0);
        bad(sixteen + " 17;", MANY, 47);
        bad(sixteen + ";holiday 17;", MANY, 55);
        bad(sixteen + " 16;", RANGE, 47);
        bad(sixteen + " 1000;", RANGE, 47);
        bad(sixteen + " x;", SYNTAX, 47);
    }

    private static void errorsOfCredits() {
        bad("credit;", SYNTAX, 6);
        bad("credit 0 0 0 0 0 1 0;", RANGE, 7);
        bad("credit 1000000 0 0 0 0 1 0;", RANGE, 7);
        bad("credit 1 11 0 0 0 1 0;", RANGE, 9);
        bad("credit 1 0 11 0 0 1 0;", RANGE, 11);
        bad("credit 1 0 0 1000 0 1 0;", RANGE, 13);
        bad("credit 1 0 0 0 1000 1 0;", RANGE, 15);
        bad("credit 1 0 0 0 0 0 0;", RANGE, 17);
        bad("credit 1 0 0 0 0 61 0;", RANGE, 17);
        bad("credit 1 0 0 0 0 1 181;", RANGE, 19);
        bad("credit 1 0 0 0 0 1;", SYNTAX, 18);
        bad(CREDIT + " 0;", SYNTAX, 21);
        bad(CREDIT + " partial partial;", SYNTAX, 29);
        bad(CREDIT + " transferable partial;", SYNTAX, 34);
        bad(CREDIT + " partialtransferable;", SYNTAX, 21);
        bad(CREDIT + " part;", SYNTAX, 21);
        bad("credit 1 0 0 partial;", SYNTAX, 13);
        String twelve = (CREDIT + ";").repeat(12);
        bad(twelve + CREDIT + ";", MANY, 252);
        bad(twelve + "  credit", MANY, 254);
        bad(twelve + "credits", SYNTAX, 252);
        bad(twelve + ";", SYNTAX, 252);
        good(twelve + "fee 1;holiday 1;", 12);
    }

    private static void errorsOfNeeds() {
        bad(CREDIT + " needs;", SYNTAX, 26);
        bad(CREDIT + " needs 8;", RANGE, 27);
        bad(CREDIT + " needs 1 8;", RANGE, 29);
        bad(CREDIT + " needs 7 0 7;", RANGE, 31);
        bad(CREDIT + " needs 1 partial;", SYNTAX, 29);
        bad(CREDIT + " needs partial;", SYNTAX, 27);
        bad(CREDIT + " needs 1 needs 2;", SYNTAX, 29);
        good(CREDIT + " needs 1;" + CREDIT + " needs 1;", 2);
    }

    private static void errorsOfFees() {
        bad("fee;", SYNTAX, 3);
        bad("fee 1 2;", SYNTAX, 6);
        bad("fee 1+;", SYNTAX, 6);
        bad("fee +1;", SYNTAX, 4);
        bad("fee -1;", SYNTAX, 4);
        bad("fee 2*-1;", SYNTAX, 6);
        bad("fee 1%2;", SYNTAX, 5);
        bad("fee ();", SYNTAX, 5);
        bad("fee (1;", SYNTAX, 6);
        bad("fee (1;)", SYNTAX, 6);
        bad("fee 1);", SYNTAX, 5);
        bad("fee amounts;", SYNTAX, 4);
        bad("fee amount days;", SYNTAX, 11);
        bad("fee 1(2);", SYNTAX, 5);
        bad("fee holiday;", SYNTAX, 4);
        bad("feeamount;", SYNTAX, 0);
        bad("fee 10000;", RANGE, 4);
        bad("fee 1+(2*10000);", RANGE, 9);
        bad("fee 1;fee 1;", SYNTAX, 6);
        bad("fee 1; fee", SYNTAX, 7);
        bad("fee (((((1)))));", DEEP, 8);
        bad("fee 1+((2*((3/(4)))));", DEEP, 14);
        bad("fee ((((1))))(;", SYNTAX, 13);
        bad("fee ((((1(;", SYNTAX, 9);
    }

    private static void errorsOfBytes() {
        bad("?", SYNTAX, 0);
        bad("Holiday 1;", SYNTAX, 0);
        bad("holiday 1;\n", SYNTAX, 10);
        bad("holiday\t1;", SYNTAX, 7);
        bad("holiday 1\u0000;", SYNTAX, 9);
        bad("holiday 1\u00ff;", SYNTAX, 9);
        bad("holiday\u00e91;", SYNTAX, 7);
        bad("holiday 1;`", SYNTAX, 10);
        bad("holiday 1;{", SYNTAX, 10);
        bad("holiday 1:", SYNTAX, 9);
        bad("holiday 1/", SYNTAX, 9);
        bad(";", SYNTAX, 0);
        bad("holiday 1;;", SYNTAX, 10);
        bad("12;", SYNTAX, 0);
        bad("partial;", SYNTAX, 0);
    }

    private static void endsThatComeTooEarly() {
        bad("holiday", SYNTAX, 7);
        bad("holiday   ", SYNTAX, 10);
        bad("holiday 1", SYNTAX, 9);
        bad("holiday 1   ", SYNTAX, 12);
        bad("credit", SYNTAX, 6);
        bad("credit 1 0 0", SYNTAX, 12);
        bad(CREDIT, SYNTAX, 20);
        bad(CREDIT + " needs", SYNTAX, 26);
        bad("fee", SYNTAX, 3);
        bad("fee 1+ ", SYNTAX, 7);
        bad("fee (1", SYNTAX, 6);
        bad("holi", SYNTAX, 0);
    }

    private static void theSmallestOffsetCounts() {
        bad("holiday 1000 x;", RANGE, 8);
        bad("holiday x 1000;", SYNTAX, 8);
        bad("credit 0", RANGE, 7);
        bad("credit 1 0 0 x 1000;", SYNTAX, 13);
        bad("fee (((((10000", DEEP, 8);
        bad("fee (((10000(((", RANGE, 7);
        bad("fee 1;holiday 1 1;fee 1;", RANGE, 16);
    }

    private static void countsOfCreditsAndPresentations() {
        DocumentaryCreditDesk desk = Checks.deskWith(
                "credit 100 0 0 9 9 9 0 partial transferable;" + CREDIT + ";");
        checks.due("credits", desk.creditCount(), 2);
        desk.transfer(0, 10, 9);
        checks.due("credits after a transfer", desk.creditCount(), 3);
        for (int i = 0; i < 24; i++) {
            checks.due("presentations", desk.presentationCount(), i);
            desk.present(2, 0, 1, 0, 0);
        }
        checks.due("presentations", desk.presentationCount(), 24);
        desk.undo();
        checks.due("presentations after undo", desk.presentationCount(), 23);
        desk.load(0);
        checks.due("credits after load", desk.creditCount(), 0);
        checks.due("presentations after load", desk.presentationCount(), 0);
    }
}
