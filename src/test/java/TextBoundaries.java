import java.util.function.Supplier;

/** The setup text, and promises 1 to 6. */
final class TextBoundaries {
    private static final int SYNTAX = DocumentaryCreditDesk.SYNTAX_ERROR;
    private static final int RANGE = DocumentaryCreditDesk.OUT_OF_RANGE;
    private static final int MANY = DocumentaryCreditDesk.TOO_MANY;
    private static final int DEEP = DocumentaryCreditDesk.TOO_DEEP;
    private static final int BLANK = 0x20202020;

    private static final String SIXTEEN = "holiday 1 2 3 4 5 6 7 8 9 10 11 12 13 14 15 16";
    private static final String TWELVE = Desks.CREDIT.repeat(12);
    private static final String SEVEN_NUMBERS = "credit 1 0 0 0 0 1 0";

    private final Boundaries on;

    TextBoundaries(Boundaries on) {
        this.on = on;
    }

    void run() {
        promises();
        grammar();
        errors();
        on.sentence("The constants",
                "- `SYNTAX_ERROR = -2`: Error code of load: the text does not follow the grammar."
                + " - `OUT_OF_RANGE = -3`: Error code of load: a number is not allowed."
                + " - `TOO_MANY = -4`: Error code of load: too many credits or holidays."
                + " - `TOO_DEEP = -5`: Error code of load: parentheses are nested too deeply.",
                this::errorCodes);
    }

    private void promises() {
        on.sentence("Promise 1",
                "Creates an object as described above, with an empty input buffer.",
                this::newObject);
        on.sentence("Promise 2", "Appends 20 bytes to the input buffer: the 4 bytes of each argument,"
                + " the most significant byte first.", this::everyByteOfAppend);
        on.sentence("Promise 2", "Returns the new length of the buffer; -1 if it would exceed 900"
                + " bytes, and the buffer is unchanged then.", this::fullBuffer);
        on.sentence("Promise 3", "Reads the first bytes of the input buffer as a setup text and"
                + " replaces all data by it.", this::loadReplaces);
        on.sentence("Promise 3", "Today is day 0 then.", this::loadGoesToDayZero);
        on.sentence("Promise 3",
                "The input buffer is empty afterwards, also if the text has an error.",
                this::bufferAfterLoad);
        on.sentence("Promise 3", "An error leaves all other data unchanged.",
                this::dataAfterAnError);
        on.sentence("Promise 3", "- `length`: the number of bytes to read", this::lengthOfLoad);
        on.sentence("Promise 3",
                "Returns the number of credits; or the error code of the first error.",
                this::answerOfLoad);
        on.sentence("Promise 3", "Throws `IllegalArgumentException` if length is negative or greater"
                + " than the length of the buffer; the buffer is unchanged then",
                this::wrongLengths);
        on.sentence("Promise 4", "Returns the offset of the error found by the latest call of load"
                + " that did not throw;", this::errorOffsets);
        on.sentence("Promise 4", "-1 if it found none or if there was no such call.",
                this::noErrorOffset);
        on.sentence("Promise 5",
                "Returns the number of credits, those made by transfers included.",
                this::creditCounts);
        on.sentence("Promise 6", "Returns the number of presentations.", this::presentationCounts);
    }

    private void grammar() {
        String text = "Setup text";
        on.sentence(text, "The setup text is read from an input buffer of at most 900 bytes.",
                this::longestText);
        on.sentence(text, "Its grammar is: setup = { statement \";\" }", this::statements);
        on.sentence(text, "statement = \"holiday\" number { number } | \"credit\" number number"
                + " number number number number number [ \"partial\" ] [ \"transferable\" ]"
                + " [ \"needs\" number { number } ] | \"fee\" sum", this::kindsOfStatement);
        on.sentence(text, "sum = term { ( \"+\" | \"-\" ) term }", this::sums);
        on.sentence(text, "term = factor { ( \"*\" | \"/\" ) factor }", this::terms);
        on.sentence(text,
                "factor = number | \"amount\" | \"days\" | \"errors\" | \"(\" sum \")\"",
                this::factors);
        on.sentence(text, "A number is a run of decimal digits;", this::digits);
        on.sentence(text, "a word is a run of the letters a to z.", this::letters);
        on.sentence(text, "Each run is as long as possible.", this::longRuns);
        on.sentence(text, "Spaces (byte 32) may precede any token and may follow the last one.",
                this::spaces);
        on.sentence(text, "No other byte separates tokens.", this::otherBytes);
        on.sentence(text, "The numbers of credit are the amount, the upper tolerance, the lower"
                + " tolerance, the expiry day, the latest day of shipment, the presentation period,"
                + " and the tenor.", this::numbersOfCredit);
        on.sentence(text, "needs gives the needed documents.", this::needs);
        on.sentence(text, "A number as a factor is 0 to 9999.", this::factorRange);
        on.sentence(text, "Parentheses nest at most 4 deep.", this::nesting);
        on.sentence(text, "The statement fee may occur once.", this::oneFee);
    }

    private void errors() {
        String text = "Setup text";
        on.sentence(text, "The first error in the text is the one with the smallest offset.",
                this::smallestOffset);
        on.sentence(text, "If several kinds of error have the same offset, the first one in this"
                + " list counts:", this::sameOffset);
        on.sentence(text, "- SYNTAX_ERROR: a token or byte that the grammar does not allow here, at"
                + " its first byte;", this::tokenNotAllowed);
        on.sentence(text, "the end of the text, at its length, if the text ends too early;",
                this::earlyEnd);
        on.sentence(text, "a second fee, at its first letter.", this::secondFee);
        on.sentence(text, "- OUT_OF_RANGE: a number outside its range, at its first digit;",
                this::numberOutOfRange);
        on.sentence(text, "a holiday that has been given already;", this::holidayGivenAlready);
        on.sentence(text, "a document that is given twice in a statement.", this::documentTwice);
        on.sentence(text, "- TOO_MANY: a credit beyond the maximum number, at the first letter of its"
                + " statement;", this::thirteenthCredit);
        on.sentence(text, "the number of a 17th holiday, at its first digit.",
                this::seventeenthHoliday);
        on.sentence(text,
                "- TOO_DEEP: an opening parenthesis inside 4 others, at that parenthesis.",
                this::fifthParenthesis);
    }

    // A text that is right, or has an error, on a new object.

    private void good(String text, int credits) {
        DocumentaryCreditDesk desk = Desks.empty();
        on.due("load of '" + text + "'", Checks.load(desk, text), credits);
        on.due("errorOffset of '" + text + "'", desk.errorOffset(), -1);
        on.due("creditCount of '" + text + "'", desk.creditCount(), credits);
        on.due("undo of '" + text + "'", desk.undo(), 0);
    }

    private void bad(String text, int error, int offset) {
        DocumentaryCreditDesk desk = Desks.empty();
        on.due("load of '" + text + "'", Checks.load(desk, text), error);
        on.due("errorOffset of '" + text + "'", desk.errorOffset(), offset);
        on.due("creditCount of '" + text + "'", desk.creditCount(), 0);
        on.due("holidays of '" + text + "'", desk.businessDays(0, 1001), 715);
        on.due("undo of '" + text + "'", desk.undo(), -1);
    }

    private static Supplier<DocumentaryCreditDesk> withText(String text) {
        return () -> {
            DocumentaryCreditDesk desk = Desks.empty();
            Checks.put(desk, text);
            return desk;
        };
    }

    // Promises 1 to 6

    private void newObject() {
        on.due("append", Desks.empty().append(0, 0, 0, 0, 0), 20);
        on.due("load(0)", Desks.empty().load(0), 0);
        on.badArgument("load(1)", Desks::empty, desk -> desk.load(1));
    }

    private void everyByteOfAppend() {
        int[] odd = {'?', 0, 1, 31, 33, 127, 128, 160, 254, 255};
        for (int place = 0; place < 20; place++) {
            for (int value : odd) {
                int[] words = {BLANK, BLANK, BLANK, BLANK, BLANK};
                int shift = 24 - 8 * (place % 4);
                words[place / 4] = BLANK & ~(255 << shift) | value << shift;
                DocumentaryCreditDesk desk = Desks.empty();
                desk.append(words[0], words[1], words[2], words[3], words[4]);
                on.due("bytes before place " + place, desk.load(place), 0);
                desk.append(words[0], words[1], words[2], words[3], words[4]);
                on.due("byte " + value, desk.load(place + 1), SYNTAX);
                on.due("place of byte " + value, desk.errorOffset(), place);
            }
        }
        DocumentaryCreditDesk desk = Desks.empty();
        desk.append(BLANK, BLANK, BLANK, BLANK, BLANK);
        desk.append(BLANK, BLANK, BLANK, BLANK, 0x2020203f);
        on.due("the last byte of two appends", desk.load(40), SYNTAX);
        on.due("its place", desk.errorOffset(), 39);
    }

    private static DocumentaryCreditDesk withFullBuffer() {
        DocumentaryCreditDesk desk = Desks.empty();
        Checks.put(desk, Desks.CREDIT + " ".repeat(900 - 21 - 10) + "holiday 4;");
        return desk;
    }

    private void fullBuffer() {
        DocumentaryCreditDesk desk = Desks.empty();
        for (int length = 20; length <= 900; length += 20) {
            on.due("append", desk.append(BLANK, BLANK, BLANK, BLANK, BLANK), length);
        }
        on.due("a 46th append", desk.append(BLANK, BLANK, BLANK, BLANK, BLANK), -1);
        on.due("a 47th append", desk.append(0, 0, 0, 0, 0), -1);
        on.due("load of all", desk.load(900), 0);
        on.due("append then", desk.append(0, 0, 0, 0, 0), 20);
        on.unchanged("append to a full buffer", TextBoundaries::withFullBuffer,
                full -> full.append(-1, -1, -1, -1, -1));
        on.badArgument("load(901)", TextBoundaries::withFullBuffer, full -> full.load(901));
    }

    private void loadReplaces() {
        DocumentaryCreditDesk fresh = Desks.empty();
        DocumentaryCreditDesk busy = Desks.busy();
        busy.load(0);
        on.due("an empty text on a busy desk", Sight.ofData(busy), Sight.ofData(fresh));
        String setup = "holiday 2;fee 3;credit 5000 1 2 30 40 50 60 needs 4;";
        DocumentaryCreditDesk other = Desks.busy();
        other.load(0);
        Checks.load(other, setup);
        on.due("another text on a busy desk", Sight.ofData(other), Sight.ofData(Desks.with(setup)));
        DocumentaryCreditDesk first = Desks.empty();
        Checks.put(first, Desks.CREDIT + "?");
        on.due("the first bytes", first.load(21), 1);
        Checks.put(first, Desks.CREDIT + "?");
        on.due("a byte more", first.load(22), SYNTAX);
    }

    private void loadGoesToDayZero() {
        DocumentaryCreditDesk desk = Desks.onDay("", 9000);
        on.due("today", desk.today(), 9000);
        Checks.load(desk, "?");
        on.due("today after an error", desk.today(), 9000);
        desk.load(0);
        on.due("today after load", desk.today(), 0);
    }

    private void bufferAfterLoad() {
        String[] texts = {"", Desks.CREDIT, "?", "holiday 1000;", TWELVE + "credit", "fee (((((1"};
        for (String text : texts) {
            DocumentaryCreditDesk desk = TextBoundaries.withText(text + " ".repeat(20)).get();
            desk.load(text.length());
            on.due("append behind '" + text + "'", desk.append(0, 0, 0, 0, 0), 20);
            on.badArgument("load(1) behind '" + text + "'", () -> {
                DocumentaryCreditDesk twin = TextBoundaries.withText(text + " ".repeat(20)).get();
                twin.load(text.length());
                return twin;
            }, twin -> twin.load(1));
        }
    }

    private void dataAfterAnError() {
        String[] texts = {"?", "holiday 1", "holiday 5;fee 2;" + Desks.CREDIT + ";",
            "holiday 1000;", "credit 0", TWELVE + Desks.CREDIT, SIXTEEN + " 17;", "fee (((((1)))));"};
        for (String text : texts) {
            on.due("'" + text + "' has an error", loadBehindItsText(Desks.busy(), text) < 0, true);
            on.unchangedData("load of '" + text + "'", Desks::busy,
                    desk -> loadBehindItsText(desk, text));
        }
        DocumentaryCreditDesk desk = Desks.busy();
        on.due("without an error", loadBehindItsText(desk, "holiday 6;"), 1);
        on.due("the data change", desk.presentationCount(), 0);
    }

    /** The buffer of the busy desk has 40 bytes already. */
    private static int loadBehindItsText(DocumentaryCreditDesk busy, String text) {
        Checks.put(busy, text);
        return busy.load(40 + text.length());
    }

    private void lengthOfLoad() {
        on.due("no byte", withText("?").get().load(0), 0);
        on.due("one byte", withText("?").get().load(1), SYNTAX);
        String text = "holiday 12;";
        for (int length = 1; length < text.length(); length++) {
            DocumentaryCreditDesk desk = withText(text).get();
            on.due("the first " + length, desk.load(length), SYNTAX);
            on.due("their error", desk.errorOffset(), length < 7 ? 0 : length);
        }
        DocumentaryCreditDesk desk = withText(text + "?").get();
        on.due("all", desk.load(text.length()), 0);
        on.due("the holiday", desk.isBusinessDay(12), false);
    }

    private void answerOfLoad() {
        good("", 0);
        good(Desks.CREDIT, 1);
        good(Desks.CREDIT.repeat(11), 11);
        good(TWELVE, 12);
        bad(TWELVE + Desks.CREDIT, MANY, 252);
        bad("?", SYNTAX, 0);
        bad("credit 0?", RANGE, 7);
        bad("fee (((((?", DEEP, 8);
    }

    private void wrongLengths() {
        int[] never = {-1, -20, Integer.MIN_VALUE, Integer.MAX_VALUE};
        for (int length : never) {
            on.badArgument("load(" + length + ")", Desks::empty, desk -> desk.load(length));
            on.badArgument("load(" + length + ")", Desks::busy, desk -> desk.load(length));
            on.badArgument("load(" + length + ")", TextBoundaries::withFullBuffer,
                    desk -> desk.load(length));
        }
        on.due("load(0) of 0", Desks.empty().load(0), 0);
        on.badArgument("load(1) of 0", Desks::empty, desk -> desk.load(1));
        on.due("load(20) of 20", withText("holiday 1;").get().load(20), 0);
        on.badArgument("load(21) of 20", withText("holiday 1;"), desk -> desk.load(21));
        on.due("load(40) of 40", Desks.busy().load(40), 1);
        on.badArgument("load(41) of 40", Desks::busy, desk -> desk.load(41));
        on.due("load(900) of 900", withFullBuffer().load(900), 1);
        on.badArgument("load(901) of 900", TextBoundaries::withFullBuffer, desk -> desk.load(901));
    }

    private void errorOffsets() {
        bad("?", SYNTAX, 0);
        String end = "holiday 1" + " ".repeat(891);
        bad(end, SYNTAX, 900);
        bad(end.substring(1), SYNTAX, 0);
        DocumentaryCreditDesk desk = Desks.empty();
        Checks.load(desk, "holiday ?");
        on.due("of the first load", desk.errorOffset(), 8);
        on.badArgument("a load that throws", Desks::busy, busy -> busy.load(-1));
        on.due("of the busy desk", Desks.busy().errorOffset(), 10);
        Checks.load(desk, "  ?");
        on.due("of the second load", desk.errorOffset(), 2);
    }

    private void noErrorOffset() {
        DocumentaryCreditDesk desk = Desks.empty();
        on.due("without a load", desk.errorOffset(), -1);
        on.badArgument("only a load that throws", Desks::empty, fresh -> fresh.load(1));
        desk.append('?' << 24, 0, 0, 0, 0);
        on.due("before the load", desk.errorOffset(), -1);
        desk.load(1);
        on.due("with an error", desk.errorOffset(), 0);
        desk.load(0);
        on.due("with none", desk.errorOffset(), -1);
    }

    private void creditCounts() {
        on.due("of a new object", Desks.empty().creditCount(), 0);
        DocumentaryCreditDesk desk = Desks.with(
                "credit 100 0 0 50 40 9 3 partial transferable;" + Desks.CREDIT.repeat(10));
        on.due("eleven", desk.creditCount(), 11);
        desk.transfer(0, 1, 1);
        on.due("and one by transfer", desk.creditCount(), 12);
        desk.undo();
        on.due("the transfer undone", desk.creditCount(), 11);
        on.due("twelve of a text", Desks.with(TWELVE).creditCount(), 12);
    }

    private void presentationCounts() {
        on.due("of a new object", Desks.empty().presentationCount(), 0);
        on.due("one", Desks.withPresentations(1).presentationCount(), 1);
        on.due("23", Desks.withPresentations(23).presentationCount(), 23);
        on.due("24", Desks.withPresentations(24).presentationCount(), 24);
        on.due("refused ones too", Desks.busy().presentationCount(), 5);
    }

    // The grammar

    private void longestText() {
        String text = "holiday 5" + " ".repeat(890) + ";";
        good(text, 0);
        bad(text.substring(0, 899), SYNTAX, 899);
        on.badArgument("a 901st byte", withText(text), desk -> desk.load(901));
        String credits = Desks.CREDIT.repeat(12);
        String fee = "fee 1" + "+1".repeat((900 - 252 - 6) / 2) + ";";
        on.due("a text of 900 bytes", (credits + fee).length(), 900);
        good(credits + fee, 12);
    }

    private void statements() {
        good("", 0);
        good("fee 1;", 0);
        good("fee 1;holiday 1;" + Desks.CREDIT, 1);
        bad("fee 1", SYNTAX, 5);
        bad(";", SYNTAX, 0);
        bad("fee 1;;", SYNTAX, 6);
        bad("fee 1;holiday 1", SYNTAX, 15);
        bad("fee 1 holiday 1;", SYNTAX, 6);
        bad("fee 1,", SYNTAX, 5);
    }

    private void kindsOfStatement() {
        bad("holiday;", SYNTAX, 7);
        good("holiday 1;", 0);
        good("holiday 1 2;", 0);
        bad("holiday 1 partial;", SYNTAX, 10);
        String numbers = "";
        for (int count = 0; count < 7; count++) {
            bad("credit" + numbers + ";", SYNTAX, 6 + 2 * count);
            numbers += count == 0 || count == 5 ? " 1" : " 0";
        }
        good("credit" + numbers + ";", 1);
        bad("credit" + numbers + " 0;", SYNTAX, 21);
        for (int set = 0; set < 8; set++) {
            good(SEVEN_NUMBERS + ((set & 1) != 0 ? " partial" : "")
                    + ((set & 2) != 0 ? " transferable" : "") + ((set & 4) != 0 ? " needs 3" : "")
                    + ";", 1);
        }
        bad(SEVEN_NUMBERS + " partial partial;", SYNTAX, 29);
        bad(SEVEN_NUMBERS + " transferable partial;", SYNTAX, 34);
        bad(SEVEN_NUMBERS + " transferable transferable;", SYNTAX, 34);
        bad(SEVEN_NUMBERS + " needs 1 partial;", SYNTAX, 29);
        bad(SEVEN_NUMBERS + " needs 1 transferable;", SYNTAX, 29);
        bad(SEVEN_NUMBERS + " needs 1 needs 2;", SYNTAX, 29);
        bad(SEVEN_NUMBERS + " needs;", SYNTAX, 26);
        good(SEVEN_NUMBERS + " needs 0 1 2 3 4 5 6 7;", 1);
        bad("fee;", SYNTAX, 3);
        good("fee 1;", 0);
        bad("fee 1 1;", SYNTAX, 6);
        bad("days;", SYNTAX, 0);
    }

    private void sums() {
        good("fee 1;", 0);
        good("fee 1+2;", 0);
        good("fee 1-2+3-4;", 0);
        bad("fee +1;", SYNTAX, 4);
        bad("fee -1;", SYNTAX, 4);
        bad("fee 1+;", SYNTAX, 6);
        bad("fee 1-;", SYNTAX, 6);
        bad("fee 1+-2;", SYNTAX, 6);
        bad("fee 1 2;", SYNTAX, 6);
    }

    private void terms() {
        good("fee 1*2;", 0);
        good("fee 1/2*3/4;", 0);
        bad("fee *1;", SYNTAX, 4);
        bad("fee /1;", SYNTAX, 4);
        bad("fee 1*;", SYNTAX, 6);
        bad("fee 1/;", SYNTAX, 6);
        bad("fee 1//2;", SYNTAX, 6);
        bad("fee 1*+2;", SYNTAX, 6);
        bad("fee 1%2;", SYNTAX, 5);
    }

    private void factors() {
        good("fee amount;", 0);
        good("fee days;", 0);
        good("fee errors;", 0);
        good("fee (1);", 0);
        bad("fee ();", SYNTAX, 5);
        bad("fee (1;", SYNTAX, 6);
        bad("fee 1);", SYNTAX, 5);
        bad("fee (1));", SYNTAX, 7);
        bad("fee ((1);", SYNTAX, 8);
        bad("fee )1(;", SYNTAX, 4);
        bad("fee [1];", SYNTAX, 4);
        bad("fee day;", SYNTAX, 4);
        bad("fee error;", SYNTAX, 4);
        bad("fee credit;", SYNTAX, 4);
        bad("fee partial;", SYNTAX, 4);
        bad("fee amount(1);", SYNTAX, 10);
        bad("fee (1)(2);", SYNTAX, 7);
        bad("fee (1)2;", SYNTAX, 7);
    }

    private void digits() {
        for (char digit = '0'; digit <= '9'; digit++) {
            DocumentaryCreditDesk desk = Desks.empty();
            on.due("holiday 7" + digit, Checks.load(desk, "holiday 7" + digit + ";"), 0);
            // The weekend days of these ten are 75 and 76.
            on.due("day 7" + digit, desk.isBusinessDay(70 + digit - '0'), false);
            on.due("day 7", desk.isBusinessDay(7), true);
        }
        bad("holiday 7/;", SYNTAX, 9);
        bad("holiday 7:;", SYNTAX, 9);
        bad("holiday 7.0;", SYNTAX, 9);
        bad("holiday 7,000;", SYNTAX, 9);
        bad("holiday -7;", SYNTAX, 8);
        bad("holiday +7;", SYNTAX, 8);
        bad("holiday 7e1;", SYNTAX, 9);
        bad("holiday \u00b2;", SYNTAX, 8);
    }

    private void letters() {
        good("fee amount;", 0);
        bad("fee amounta;", SYNTAX, 4);
        bad("fee amountz;", SYNTAX, 4);
        bad("fee amount`;", SYNTAX, 10);
        bad("fee amount{;", SYNTAX, 10);
        bad("fee amountA;", SYNTAX, 10);
        bad("fee amount_;", SYNTAX, 10);
        bad("fee Amount;", SYNTAX, 4);
        bad("fee amounT;", SYNTAX, 4);
        bad("Fee amount;", SYNTAX, 0);
        bad("fe;", SYNTAX, 0);
        bad("fees 1;", SYNTAX, 0);
        bad("fee \u00e4;", SYNTAX, 4);
        otherWords("", "holiday", " 1;");
        otherWords("", "credit", " 1 0 0 0 0 1 0;");
        otherWords("", "fee", " 1;");
        otherWords(SEVEN_NUMBERS + " ", "partial", ";");
        otherWords(SEVEN_NUMBERS + " ", "transferable", ";");
        otherWords(SEVEN_NUMBERS + " ", "needs", " 1;");
        otherWords("fee ", "amount", ";");
        otherWords("fee ", "days", ";");
        otherWords("fee ", "errors", ";");
    }

    /** Every word that is one letter away from the right one. */
    private void otherWords(String before, String word, String behind) {
        on.due(word, Checks.load(Desks.empty(), before + word + behind) >= 0, true);
        for (int i = 0; i < word.length(); i++) {
            String head = word.substring(0, i);
            String tail = word.substring(i + 1);
            bad(before + head + "q" + tail + behind, SYNTAX, before.length());
            bad(before + head + tail + behind, SYNTAX, before.length());
            bad(before + head + word.charAt(i) + word.substring(i) + behind, SYNTAX,
                    before.length());
        }
    }

    private void longRuns() {
        DocumentaryCreditDesk desk = Desks.with("holiday 12 3;");
        on.due("day 12", desk.isBusinessDay(12), false);
        on.due("day 3", desk.isBusinessDay(3), false);
        on.due("day 1", desk.isBusinessDay(1), true);
        on.due("day 2", desk.isBusinessDay(2), true);
        on.due("days closed", desk.businessDays(0, 1001), 714);
        good("holiday1;", 0);
        bad("holidayholiday 1;", SYNTAX, 0);
        good(SEVEN_NUMBERS + "partial transferable needs1;", 1);
        bad(SEVEN_NUMBERS + "partialtransferable;", SYNTAX, 20);
        bad("feeamount;", SYNTAX, 0);
        good("fee9;", 0);
        bad("fee 9amount;", SYNTAX, 5);
        bad("fee amount9;", SYNTAX, 10);
        good("holiday " + "0".repeat(880) + "999;", 0);
        bad("holiday " + "0".repeat(880) + "1000;", RANGE, 8);
        bad("holiday 1" + "0".repeat(880) + ";", RANGE, 8);
        // What wraps to 1 in 32 bits, and in 64.
        bad("holiday 4294967297;", RANGE, 8);
        bad("holiday 18446744073709551617;", RANGE, 8);
        bad("holiday " + "9".repeat(880) + ";", RANGE, 8);
    }

    private void spaces() {
        good("", 0);
        good(" ", 0);
        good(" ".repeat(900), 0);
        good("  holiday   1  2   ;  fee   (  amount  +  days  )  *  errors  /  2  -  1  ;   ", 0);
        good("   credit  1  0  0  0  0  1  0  partial  transferable  needs  1  2  ;  ", 1);
        good("holiday 1;fee(amount+days)*errors/2-1;", 0);
        bad("holi day 1;", SYNTAX, 0);
        bad("holiday 9 9;", RANGE, 10);
        good("holiday 99;", 0);
        bad("   ?   ", SYNTAX, 3);
    }

    private void otherBytes() {
        for (int value = 0; value < 256; value++) {
            char separator = (char) value;
            String text = "holiday 1" + separator + "2;";
            if (value == ' ' || value >= '0' && value <= '9') {
                good(text, 0);
            } else {
                // A semicolon ends the statement, and 2 does not begin one.
                bad(text, SYNTAX, value == ';' ? 10 : 9);
            }
            boolean isLetter = value >= 'a' && value <= 'z';
            String behind = "fee 1;" + separator;
            if (value == ' ') {
                good(behind, 0);
            } else {
                bad(behind, SYNTAX, 6);
            }
            String before = separator + "fee 1;";
            if (value == ' ') {
                good(before, 0);
            } else {
                bad(before, SYNTAX, 0);
            }
            String inside = "fee amount" + separator + ";";
            if (value == ' ') {
                good(inside, 0);
            } else {
                bad(inside, SYNTAX, value == ';' ? 11 : isLetter ? 4 : "+-*/".indexOf(value) >= 0
                        ? 11 : 10);
            }
        }
    }

    private void numbersOfCredit() {
        DocumentaryCreditDesk desk = Desks.with("credit 1000 10 5 30 20 7 14 partial;");
        on.due("maximum", desk.bound(0, true), 1100);
        on.due("minimum", desk.bound(0, false), 950);
        on.due("expiry day", desk.expiry(0), 30);
        on.due("on the latest day of shipment", desk.check(0, 20, 1, 0, 0), 64);
        on.due("after it", desk.check(0, 21, 1, 0, 0), 65);
        on.due("by the period", desk.lastDay(0, 1), 8);
        desk.present(0, 0, 1, 0, 0);
        desk.examine(0);
        on.due("by the tenor", desk.dueDay(0), 14);
    }

    private void needs() {
        for (int document = 0; document < 8; document++) {
            DocumentaryCreditDesk desk = Desks.with(
                    "credit 100 0 0 900 900 60 0 partial needs " + document + ";");
            on.due("with " + document, desk.check(0, 0, 1, 1 << document, 9), 0);
            on.due("without " + document, desk.check(0, 0, 1, 255 - (1 << document), 9), 16);
        }
        DocumentaryCreditDesk none = Desks.with("credit 100 0 0 900 900 60 0 partial;");
        on.due("none is needed", none.check(0, 0, 1, 0, 0), 0);
        DocumentaryCreditDesk all = Desks.with(
                "credit 100 0 0 900 900 60 0 partial needs 7 6 5 4 3 2 1 0;");
        on.due("all are needed", all.check(0, 0, 1, 255, 9), 0);
        on.due("seven are there", all.check(0, 0, 1, 254, 9), 16);
    }

    private void factorRange() {
        good("fee 0;", 0);
        good("fee 9999;", 0);
        bad("fee 10000;", RANGE, 4);
        good("fee 00009999;", 0);
        bad("fee 1+(2*10000);", RANGE, 9);
        good("fee 1+(2*9999);", 0);
        DocumentaryCreditDesk desk = Desks.with("fee 9999;" + Desks.PARTIAL);
        desk.present(0, 0, 1, 0, 0);
        on.due("its value", desk.fee(0), 9999);
    }

    private void nesting() {
        good("fee ((((1))));", 0);
        bad("fee (((((1)))));", DEEP, 8);
        good("fee ((((1))))+((((2))))*((((3))));", 0);
        bad("fee ((((1))))+(((((2)))));", DEEP, 18);
        good("fee 1+(2+(3+(4+(5+6)*7)*8)*9);", 0);
        bad("fee 1+(2+(3+(4+(5+(6)))));", DEEP, 18);
        good("fee ((((1)+2)+3)+4);", 0);
        // A sum and a product wait at each depth.
        String deep = "1+2*(3+4*(5+6*(7+8*(9+2*3))))";
        int value = 1 + 2 * (3 + 4 * (5 + 6 * (7 + 8 * (9 + 2 * 3))));
        feeIs(deep, value);
        feeIs(deep + "+2*(" + "1+".repeat(99) + "1)", value + 200);
        feeIs("((((1+2)*3+4)*5+6)*7+8)*9+10", ((((1 + 2) * 3 + 4) * 5 + 6) * 7 + 8) * 9 + 10);
    }

    private void feeIs(String expression, int value) {
        DocumentaryCreditDesk desk = Desks.with("fee " + expression + ";" + Desks.PARTIAL);
        desk.present(0, 0, 1, 0, 0);
        on.due("fee " + expression, desk.fee(0), value);
    }

    private void oneFee() {
        good(Desks.CREDIT, 1);
        good("fee 1;" + Desks.CREDIT, 1);
        good(Desks.CREDIT + "fee 1;", 1);
        bad("fee 1;fee 1;", SYNTAX, 6);
        bad("fee 1;" + Desks.CREDIT + "fee 1;", SYNTAX, 27);
        DocumentaryCreditDesk desk = Desks.with("fee 1;");
        on.due("once more in another text", Checks.load(desk, "fee 2;"), 0);
    }

    // Errors

    private void smallestOffset() {
        bad("holiday 1000 ?;", RANGE, 8);
        bad("holiday ? 1000;", SYNTAX, 8);
        bad("holiday 1 1 1000 ?", RANGE, 10);
        bad("credit 0", RANGE, 7);
        bad("credit 1 11 ?", RANGE, 9);
        bad("fee (((((10000", DEEP, 8);
        bad("fee ((((10000(", RANGE, 8);
        bad("fee ((((?(", SYNTAX, 8);
        bad(TWELVE + "credit 0 ?", MANY, 252);
        bad(TWELVE + "holiday 1000;credit", RANGE, 260);
        bad(SIXTEEN + " 17 1000 ?", MANY, 47);
        bad(SIXTEEN + " 1000 17 ?", RANGE, 47);
        bad(SIXTEEN + " ? 17", SYNTAX, 47);
        bad("fee 1;holiday 1000;fee 1;", RANGE, 14);
        bad("fee 1;fee 10000;", SYNTAX, 6);
        bad("fee 10000;fee 1;", RANGE, 4);
    }

    private void sameOffset() {
        // A number that the grammar does not allow, out of every range, or given already.
        bad("99999999;", SYNTAX, 0);
        bad(SEVEN_NUMBERS + " 99999999;", SYNTAX, 21);
        bad("fee 1 99999999;", SYNTAX, 6);
        bad("holiday 1;1;", SYNTAX, 10);
        bad(SEVEN_NUMBERS + " partial 1000000;", SYNTAX, 29);
        // A thirteenth credit, and a number behind 16 holidays, where the grammar has none.
        bad(TWELVE + "fee credit", SYNTAX, 256);
        bad(TWELVE.substring(0, 251) + "credit 1;", SYNTAX, 251);
        bad(SIXTEEN + ";17;", SYNTAX, 47);
        // A fifth parenthesis where the grammar has none.
        bad("fee ((((1(2)))));", SYNTAX, 9);
        bad("fee ((((amount (2)))));", SYNTAX, 15);
        // A 17th holiday that is out of range, or has been given already, and one that is neither.
        bad(SIXTEEN + " 1000;", RANGE, 47);
        bad(SIXTEEN + " 16;", RANGE, 47);
        bad(SIXTEEN + ";holiday 1;", RANGE, 55);
        bad(SIXTEEN + " 999;", MANY, 47);
    }

    private void tokenNotAllowed() {
        bad("x", SYNTAX, 0);
        bad("xyz", SYNTAX, 0);
        bad("   xyz", SYNTAX, 3);
        bad("123", SYNTAX, 0);
        bad("\u0000", SYNTAX, 0);
        bad("  \u00ff", SYNTAX, 2);
        bad("holiday abc;", SYNTAX, 8);
        bad("holiday    abc;", SYNTAX, 11);
        bad("holiday 1 abc;", SYNTAX, 10);
        bad("credit partial;", SYNTAX, 7);
        bad("credit 1 0 0 partial;", SYNTAX, 13);
        bad(SEVEN_NUMBERS + " amount;", SYNTAX, 21);
        bad(SEVEN_NUMBERS + " needs needs;", SYNTAX, 27);
        bad("fee 1 amount;", SYNTAX, 6);
        good("fee 1* amount;", 0);
    }

    private void earlyEnd() {
        String text = "credit 1 0 0 0 0 1 0 partial transferable needs 1;";
        good(text, 1);
        // The words that a cut leaves unfinished begin at these offsets.
        int[] begins = {0, 21, 29, 42};
        int[] ends = {6, 28, 41, 47};
        for (int length = 1; length < text.length(); length++) {
            int offset = length;
            for (int word = 0; word < begins.length; word++) {
                offset = length > begins[word] && length < ends[word] ? begins[word] : offset;
            }
            bad(text.substring(0, length), SYNTAX, offset);
        }
        bad("fee", SYNTAX, 3);
        bad("fee 1", SYNTAX, 5);
        bad("fee 1+", SYNTAX, 6);
        bad("fee (", SYNTAX, 5);
        bad("fee (1", SYNTAX, 6);
        bad("fee (1)", SYNTAX, 7);
        bad("fee 1    ", SYNTAX, 9);
        bad("holiday", SYNTAX, 7);
        bad("holiday 1 ", SYNTAX, 10);
        bad("holiday 1; holiday ", SYNTAX, 19);
        good("holiday 1; ", 0);
    }

    private void secondFee() {
        bad("fee 1;fee 2;", SYNTAX, 6);
        bad("fee 1;   fee 2;", SYNTAX, 9);
        bad("fee 1;holiday 1;fee", SYNTAX, 16);
        bad("fee 1;fee ?", SYNTAX, 6);
        bad("fee 1;fee (((((1", SYNTAX, 6);
        good("fee 1;holiday 1;", 0);
    }

    private void numberOutOfRange() {
        bad("holiday 1000;", RANGE, 8);
        bad("holiday    0001000;", RANGE, 11);
        good("holiday    000999;", 0);
        bad("credit 0000 0 0 0 0 1 0;", RANGE, 7);
        bad(SEVEN_NUMBERS + " needs 8;", RANGE, 27);
        bad(SEVEN_NUMBERS + " needs 10;", RANGE, 27);
        good(SEVEN_NUMBERS + " needs 7;", 1);
        bad("fee 10000;", RANGE, 4);
        good("fee 9999;", 0);
    }

    private void holidayGivenAlready() {
        good("holiday 7 8;", 0);
        bad("holiday 7 7;", RANGE, 10);
        bad("holiday 7 8 007;", RANGE, 12);
        bad("holiday 7;holiday 7;", RANGE, 18);
        good("holiday 7;holiday 8;", 0);
        bad("holiday 0 999 0;", RANGE, 14);
        bad("holiday 0 999 999;", RANGE, 14);
        // A weekend day can be a holiday, once.
        good("holiday 5;", 0);
        bad("holiday 5 5;", RANGE, 10);
        DocumentaryCreditDesk desk = Desks.with("holiday 7;");
        on.due("again in another text", Checks.load(desk, "holiday 7;"), 0);
    }

    private void documentTwice() {
        good(SEVEN_NUMBERS + " needs 1 2;", 1);
        bad(SEVEN_NUMBERS + " needs 1 1;", RANGE, 29);
        bad(SEVEN_NUMBERS + " needs 1 2 001;", RANGE, 31);
        bad(SEVEN_NUMBERS + " needs 0 1 2 3 4 5 6 7 0;", RANGE, 43);
        bad(SEVEN_NUMBERS + " needs 0 1 2 3 4 5 6 7 7;", RANGE, 43);
        good(SEVEN_NUMBERS + " needs 1;" + SEVEN_NUMBERS + " needs 1;", 2);
    }

    private void thirteenthCredit() {
        good(TWELVE, 12);
        bad(TWELVE + Desks.CREDIT, MANY, 252);
        bad(TWELVE + "    " + Desks.CREDIT, MANY, 256);
        bad(TWELVE + "holiday 1;" + Desks.CREDIT, MANY, 262);
        bad(TWELVE + "credit", MANY, 252);
        good(TWELVE + "holiday 1;fee 1;", 12);
        bad(TWELVE + "credi", SYNTAX, 252);
        bad(TWELVE + "credits", SYNTAX, 252);
        DocumentaryCreditDesk desk = Desks.with(TWELVE);
        on.due("twelve others in another text", Checks.load(desk, TWELVE), 12);
    }

    private void seventeenthHoliday() {
        good(SIXTEEN + ";", 0);
        bad(SIXTEEN + " 17;", MANY, 47);
        bad(SIXTEEN + "    0017;", MANY, 50);
        bad(SIXTEEN + ";holiday 17;", MANY, 55);
        bad(SIXTEEN + ";fee 1;holiday   18 19;", MANY, 63);
        good(SIXTEEN + ";fee 1;", 0);
        good("holiday 1 2 3 4 5 6 7 8;holiday 9 10 11 12 13 14 15 16;", 0);
        DocumentaryCreditDesk desk = Desks.with(SIXTEEN + ";");
        on.due("others in another text", Checks.load(desk, "holiday 17;"), 0);
        on.due("the holidays", desk.businessDays(0, 1001), 714);
    }

    private void fifthParenthesis() {
        good("fee ((((1))));", 0);
        bad("fee (((((1)))));", DEEP, 8);
        bad("fee ( ( ( (   (", DEEP, 14);
        bad("fee ((((1+(", DEEP, 10);
        bad("fee (1)+(2)+((3)+(4*(5/(6-(", DEEP, 26);
        good("fee (1)+(2)+((3)+(4*(5/(6-7))));", 0);
    }

    private void errorCodes() {
        on.due("SYNTAX_ERROR", Checks.load(Desks.empty(), "?"), -2);
        on.due("OUT_OF_RANGE", Checks.load(Desks.empty(), "holiday 1000;"), -3);
        on.due("TOO_MANY credits", Checks.load(Desks.empty(), TWELVE + "credit"), -4);
        on.due("TOO_MANY holidays", Checks.load(Desks.empty(), SIXTEEN + " 17"), -4);
        on.due("TOO_DEEP", Checks.load(Desks.empty(), "fee ((((("), -5);
        on.due("no error", Checks.load(Desks.empty(), "fee ((((1))));"), 0);
    }
}
