import java.math.BigInteger;
import java.util.List;
import java.util.function.Supplier;
import java.util.function.ToLongFunction;

/** The changes and what undoes them, promises 33 to 35, and the 512 calls of an object. */
final class ChangeBoundaries {
    private static final String[] CHANGES =
            {"load", "present", "examine", "waive", "refuse", "transfer", "pass"};

    private final Boundaries on;

    ChangeBoundaries(Boundaries on) {
        this.on = on;
    }

    void run() {
        changes();
        passing();
        undoing();
        checksums();
        on.sentence("What it is", "An object is used for at most 512 calls after it has been made; what"
                + " later calls answer is free.", this::calls);
    }

    private void changes() {
        String changes = "Changes";
        on.sentence(changes, "The changing methods are load (when it succeeds), present, examine, waive,"
                + " refuse, transfer and pass.", this::changingMethods);
        on.sentence(changes, "The latest 8 changes that have not been undone can be undone, the latest"
                + " one first.", this::latestEight);
        on.sentence(changes, "A new object is in the state that an empty setup text describes: there are"
                + " no holidays, credits and presentations.", this::newObject);
        on.sentence(changes, "If several exceptions apply to a call, the one that is listed first with"
                + " the method is thrown.", this::firstException);
        on.sentence(changes, "A method that throws an exception changes nothing.",
                this::nothingChanges);
        on.sentence(changes, "Sets of documents, discrepancies and presentations are bit sets: bit k"
                + " stands for number k.", this::bitSets);
    }

    private void passing() {
        on.sentence("Promise 33", "Lets days pass. - `days`: 1 to 365 Returns the number of today then.",
                this::daysPass);
        on.sentence("Promise 33", "Throws `IllegalArgumentException` if days is out of range", () -> {
            int[] wrong = {0, -1, 366, Integer.MIN_VALUE, Integer.MAX_VALUE};
            for (int days : wrong) {
                on.badArgument("pass(" + days + ")", Desks::busy, desk -> desk.pass(days));
            }
        });
        on.sentence("Promise 33", "Throws `IllegalStateException` if today would be greater than 9000",
                this::lastDays);
    }

    private void undoing() {
        on.sentence("Promise 34", "Undoes the latest change that has not been undone.",
                this::latestFirst);
        on.sentence("Promise 34", "The input buffer and the error offset are not affected.",
                this::textStays);
        on.sentence("Promise 34", "Returns the number of changes that can still be undone;",
                this::changesLeft);
        on.sentence("Promise 34", "-1 if there was none to undo, and nothing changes then.",
                this::noneToUndo);
    }

    private void checksums() {
        on.sentence("Promise 35", "Computes a checksum. It starts at 0; each number n in the following"
                + " order replaces it by 31 * checksum + n, wrapping around on overflow of a long:",
                this::wrapsAround);
        on.sentence("Promise 35", "today(); for each credit its parent, its drawn sum and its available"
                + " sum; for each presentation its credit, its state, its discrepancies and its due"
                + " day. Returns the checksum.", this::numbersInOrder);
    }

    // Changes

    /** Does one of the changing methods on a busy desk. */
    private static long change(DocumentaryCreditDesk desk, String method) {
        switch (method) {
            case "load":
                return desk.load(40);
            case "present":
                return desk.present(0, 0, 1, 129, 9);
            case "examine":
                return desk.examine(3);
            case "waive":
                return desk.waive(1);
            case "refuse":
                return desk.refuse(1);
            case "transfer":
                return desk.transfer(0, 1, 1);
            default:
                return desk.pass(1);
        }
    }

    private void changingMethods() {
        for (String method : CHANGES) {
            DocumentaryCreditDesk desk = Desks.busy();
            long before = desk.checksum();
            change(desk, method);
            on.due(method + " changes something", desk.checksum() != before, true);
            on.due(method + " undone", desk.undo(), 7);
            on.due("the data then", Sight.ofData(desk), Sight.ofData(Desks.busy()));
        }
        on.due("an empty load too", undoneAfter(fresh -> fresh.load(0)), 0);
        on.due("no load that fails", undoneAfter(fresh -> Checks.load(fresh, "?")), -1);
        on.due("no append", undoneAfter(fresh -> fresh.append(1, 2, 3, 4, 5)), -1);
        on.due("no undo", undoneAfter(fresh -> fresh.undo()), -1);
        List<ToLongFunction<DocumentaryCreditDesk>> questions = List.of(
                desk -> desk.errorOffset(), desk -> desk.creditCount(),
                desk -> desk.presentationCount(), desk -> desk.today(),
                desk -> desk.isBusinessDay(3) ? 1 : 0, desk -> desk.extended(3),
                desk -> desk.addBusinessDays(3, 9), desk -> desk.businessDays(3, 30),
                desk -> desk.parent(2), desk -> desk.bound(0, true), desk -> desk.expiry(0),
                desk -> desk.drawn(0), desk -> desk.transferred(0), desk -> desk.available(0),
                desk -> desk.creditOf(1), desk -> desk.state(1), desk -> desk.discrepancies(1),
                desk -> desk.deadline(1), desk -> desk.dueDay(1), desk -> desk.fee(1),
                desk -> desk.dueBetween(0, 99), desk -> desk.check(0, 9, 9, 9, 9),
                desk -> desk.lastDay(0, 9), desk -> desk.bestFit(0), desk -> desk.checksum());
        for (int i = 0; i < questions.size(); i++) {
            on.unchanged("question " + i, Desks::busy, questions.get(i));
        }
    }

    private static int undoneAfter(ToLongFunction<DocumentaryCreditDesk> call) {
        DocumentaryCreditDesk desk = Desks.empty();
        call.applyAsLong(desk);
        return desk.undo();
    }

    private static DocumentaryCreditDesk after(int changes) {
        DocumentaryCreditDesk desk = Desks.empty();
        for (int i = 0; i < changes; i++) {
            desk.pass(1);
        }
        return desk;
    }

    private void latestEight() {
        for (int made = 0; made <= 20; made++) {
            DocumentaryCreditDesk desk = after(made);
            int kept = Math.min(made, 8);
            for (int undone = 1; undone <= kept; undone++) {
                on.due("undo " + undone + " of " + made, desk.undo(), kept - undone);
                on.due("the day then", desk.today(), made - undone);
            }
            on.due("one undo more of " + made, desk.undo(), -1);
            on.due("the day at last", desk.today(), made - kept);
        }
        // Every changing method counts, load too; the ninth change back is out of reach.
        DocumentaryCreditDesk desk = Desks.busy();
        desk.load(0);
        for (int left = 7; left >= 0; left--) {
            on.due("undo of the busy desk", desk.undo(), left);
        }
        on.due("its ninth", desk.undo(), -1);
        on.due("presentations left", desk.presentationCount(), 4);
    }

    private void newObject() {
        DocumentaryCreditDesk desk = Desks.empty();
        DocumentaryCreditDesk loaded = Desks.empty();
        loaded.load(0);
        on.due("the data", Sight.ofData(desk), Sight.ofData(loaded));
        on.due("credits", desk.creditCount(), 0);
        on.due("presentations", desk.presentationCount(), 0);
        on.due("business days of a thousand and one", desk.businessDays(0, 1001), 715);
        on.due("with one holiday", Desks.with("holiday 0;").businessDays(0, 1001), 714);
    }

    private void firstException() {
        Supplier<DocumentaryCreditDesk> full = () -> Desks.withPresentations(24);
        on.noSuch("check", Desks::busy, desk -> desk.check(3, -1, 0, 256, -1));
        on.noSuch("lastDay", Desks::busy, desk -> desk.lastDay(-1, 10000));
        on.noSuch("present, full", full, desk -> desk.present(1, -1, 0, 256, -1));
        on.noSuch("present, full, right arguments", full, desk -> desk.present(1, 0, 1, 0, 0));
        on.badArgument("present, full, shipped", full, desk -> desk.present(0, -1, 1, 0, 0));
        on.badArgument("present, full, amount", full, desk -> desk.present(0, 0, 0, 0, 0));
        on.badArgument("present, full, documents", full, desk -> desk.present(0, 0, 1, 256, 0));
        on.badArgument("present, full, insured", full, desk -> desk.present(0, 0, 1, 0, -1));
        on.badState("present, full, nothing else", full, desk -> desk.present(0, 0, 1, 0, 0));
        Supplier<DocumentaryCreditDesk> twelve = Desks::withTwelveCredits;
        on.noSuch("transfer, wrong amount and day", twelve, desk -> desk.transfer(12, 0, -1));
        on.noSuch("transfer, right amount and day", twelve, desk -> desk.transfer(12, 1, 0));
        on.badArgument("transfer, not transferable, amount", twelve, desk -> desk.transfer(1, 0, 0));
        on.badArgument("transfer, not transferable, day", twelve, desk -> desk.transfer(1, 1, -1));
        on.badArgument("transfer, not transferable, late", twelve, desk -> desk.transfer(1, 1, 1));
        on.badArgument("transfer, too much, late", twelve, desk -> desk.transfer(0, 101, 51));
        on.badArgument("transfer, 12 credits, amount", twelve,
                desk -> desk.transfer(0, 1000000, 1));
        on.badState("transfer, nothing else", twelve, desk -> desk.transfer(0, 1, 50));
        Supplier<DocumentaryCreditDesk> late = () -> Desks.onDay("", 9000);
        int[] wrong = {0, -1, 366, Integer.MAX_VALUE, Integer.MIN_VALUE};
        for (int days : wrong) {
            on.badArgument("pass(" + days + ") on day 9000", late, desk -> desk.pass(days));
        }
        on.badState("pass(365) on day 9000", late, desk -> desk.pass(365));
    }

    private void nothingChanges() {
        on.badArgument("load", Desks::busy, desk -> desk.load(41));
        on.badArgument("isBusinessDay", Desks::busy, desk -> desk.isBusinessDay(-1) ? 1 : 0);
        on.badArgument("extended", Desks::busy, desk -> desk.extended(10000));
        on.badArgument("addBusinessDays", Desks::busy, desk -> desk.addBusinessDays(0, 101));
        on.badArgument("businessDays", Desks::busy, desk -> desk.businessDays(0, 10000));
        on.noSuch("bestFit", Desks::busy, desk -> desk.bestFit(3));
        on.badArgument("check", Desks::busy, desk -> desk.check(0, 0, 2000000, 0, 0));
        on.badArgument("lastDay", Desks::busy, desk -> desk.lastDay(0, 10000));
        on.badArgument("present", Desks::busy, desk -> desk.present(0, 0, 1, 256, 0));
        on.badState("examine", Desks::busy, desk -> desk.examine(0));
        on.badState("waive", Desks::busy, desk -> desk.waive(2));
        on.badState("refuse", Desks::busy, desk -> desk.refuse(3));
        on.badState("transfer", Desks::busy, desk -> desk.transfer(2, 1, 1));
        on.badArgument("pass", Desks::busy, desk -> desk.pass(366));
        // The other side: what is not refused does change something.
        for (String method : CHANGES) {
            DocumentaryCreditDesk desk = Desks.busy();
            change(desk, method);
            on.due(method, Sight.ofData(desk).equals(Sight.ofData(Desks.busy())), false);
        }
    }

    private void bitSets() {
        for (int document = 0; document < 8; document++) {
            DocumentaryCreditDesk desk = Desks.with(
                    "credit 9 0 0 900 900 60 0 partial needs " + document + ";");
            for (int bit = 0; bit < 8; bit++) {
                on.due("document " + document + ", bit " + bit,
                        desk.check(0, 0, 1, 1 << bit, 9), bit == document ? 0 : 16);
            }
        }
        on.due("discrepancy 0", Desks.onDay(expiringOn(1), 1).check(0, 1, 1, 0, 0), 1);
        on.due("discrepancy 1", Desks.onDay(expiringOn(0), 1).check(0, 0, 1, 0, 0), 1 << 1);
        on.due("discrepancy 2", Desks.with(Desks.PARTIAL).check(0, 0, 1001, 0, 0), 1 << 2);
        on.due("discrepancy 3", Desks.with("credit 9 0 0 9 9 9 9;").check(0, 0, 8, 0, 0), 1 << 3);
        DocumentaryCreditDesk insured = Desks.with("credit 9 0 0 9 9 9 9 needs 7;");
        on.due("discrepancy 4", insured.check(0, 0, 9, 127, 9), 1 << 4);
        on.due("discrepancy 5", insured.check(0, 0, 9, 128, 8), 1 << 5);
        on.due("discrepancy 6", Desks.with(Desks.PARTIAL).check(0, 1, 1, 0, 0), 1 << 6);
        for (int paper = 0; paper < 24; paper++) {
            DocumentaryCreditDesk desk = Desks.withPresentations(paper);
            Desks.refuseAll(desk, 0, 5);
            on.due("presentation " + paper, desk.bestFit(0), 1 << paper);
        }
    }

    /** A credit with this expiry day, whose latest day of shipment is day 0. */
    private static String expiringOn(int expiry) {
        return "credit 9 0 0 " + expiry + " 0 9 0 partial;";
    }

    // Promise 33

    private void daysPass() {
        DocumentaryCreditDesk desk = Desks.empty();
        on.due("the least", desk.pass(1), 1);
        on.due("the most", desk.pass(365), 366);
        on.due("today", desk.today(), 366);
        on.due("one day less than the most", desk.pass(364), 730);
        on.due("undone", desk.undo(), 2);
        on.due("today then", desk.today(), 366);
    }

    private void lastDays() {
        Supplier<DocumentaryCreditDesk> near = () -> Desks.onDay(Desks.PARTIAL, 8999);
        on.due("to day 9000", near.get().pass(1), 9000);
        on.badState("to day 9001", near, desk -> desk.pass(2));
        on.badState("a year on", near, desk -> desk.pass(365));
        Supplier<DocumentaryCreditDesk> last = () -> Desks.onDay(Desks.PARTIAL, 9000);
        on.badState("from day 9000", last, desk -> desk.pass(1));
        Supplier<DocumentaryCreditDesk> year = () -> Desks.onDay(Desks.PARTIAL, 8635);
        on.due("a year to day 9000", year.get().pass(365), 9000);
        Supplier<DocumentaryCreditDesk> less = () -> Desks.onDay(Desks.PARTIAL, 8636);
        on.badState("a year to day 9001", less, desk -> desk.pass(365));
        DocumentaryCreditDesk back = last.get();
        back.load(0);
        on.due("from day 0 again", back.pass(1), 1);
    }

    // Promise 34

    private void latestFirst() {
        DocumentaryCreditDesk desk = Desks.with(Desks.PARTIAL);
        desk.pass(3);
        desk.present(0, 0, 5, 0, 0);
        desk.examine(0);
        on.due("honoured", desk.state(0), DocumentaryCreditDesk.HONOURED);
        desk.undo();
        on.due("pending", desk.state(0), DocumentaryCreditDesk.PENDING);
        desk.undo();
        on.due("no presentation", desk.presentationCount(), 0);
        on.due("day 3", desk.today(), 3);
        desk.pass(4);
        on.due("day 7", desk.today(), 7);
        desk.undo();
        on.due("day 3 again", desk.today(), 3);
        desk.undo();
        on.due("day 0", desk.today(), 0);
        desk.undo();
        on.due("no credit", desk.creditCount(), 0);
        // What has been undone does not come back.
        on.due("nothing more", desk.undo(), -1);
        on.due("still no credit", desk.creditCount(), 0);
    }

    private void textStays() {
        DocumentaryCreditDesk desk = Desks.busy();
        desk.undo();
        on.due("the error offset", desk.errorOffset(), 10);
        on.due("the buffer", desk.load(40), 1);
        on.due("no error now", desk.errorOffset(), -1);
        desk.undo();
        on.due("the load undone, no error", desk.errorOffset(), -1);
        on.due("and its text does not come back", desk.append(0, 0, 0, 0, 0), 20);
        DocumentaryCreditDesk none = Desks.empty();
        none.append('?' << 24, 0, 0, 0, 0);
        on.due("nothing to undo", none.undo(), -1);
        on.due("the buffer stays", none.load(1), DocumentaryCreditDesk.SYNTAX_ERROR);
        on.due("nothing to undo again", none.undo(), -1);
        on.due("the error offset stays", none.errorOffset(), 0);
    }

    private void changesLeft() {
        on.due("of one", after(1).undo(), 0);
        on.due("of two", after(2).undo(), 1);
        on.due("of seven", after(7).undo(), 6);
        on.due("of eight", after(8).undo(), 7);
        on.due("of nine", after(9).undo(), 7);
        on.due("of a hundred", after(100).undo(), 7);
        DocumentaryCreditDesk desk = after(8);
        desk.undo();
        desk.pass(1);
        on.due("seven and a new one", desk.undo(), 7);
        desk.pass(1);
        desk.pass(1);
        on.due("seven and two new ones", desk.undo(), 7);
    }

    private void noneToUndo() {
        on.due("of a new object", Desks.empty().undo(), -1);
        on.unchanged("undo of a new object", Desks::empty, desk -> desk.undo());
        Supplier<DocumentaryCreditDesk> used = () -> {
            DocumentaryCreditDesk desk = Desks.busy();
            for (int i = 0; i < 8; i++) {
                desk.undo();
            }
            return desk;
        };
        on.due("after eight undos", used.get().undo(), -1);
        on.unchanged("undo after eight undos", used, desk -> desk.undo());
        DocumentaryCreditDesk desk = used.get();
        desk.pass(1);
        on.due("after a new change", desk.undo(), 0);
    }

    // Promise 35

    private static long sumOf(long start, long... numbers) {
        long sum = start;
        for (long number : numbers) {
            sum = 31 * sum + number;
        }
        return sum;
    }

    private void wrapsAround() {
        on.due("of a new object", Desks.empty().checksum(), 0);
        on.due("of day 9000", Desks.onDay("", 9000).checksum(), 9000);
        String great = "credit 999999 10 0 900 900 60 2;";
        long sum = 365;
        for (int credits = 1; credits <= 12; credits++) {
            sum = sumOf(sum, -1, 0, 1099998);
            on.due(credits + " credits",
                    Desks.onDay(great.repeat(credits), 365).checksum(), sum);
        }
        // 31 to the power of 36 times 365 is far beyond a long.
        BigInteger full = BigInteger.valueOf(365);
        for (int credits = 1; credits <= 12; credits++) {
            for (long number : new long[] {-1, 0, 1099998}) {
                full = full.multiply(BigInteger.valueOf(31)).add(BigInteger.valueOf(number));
            }
        }
        on.due("bits of the full sum are more than 63", full.bitLength() > 63, true);
        on.due("the low 64 bits of it", sum, full.longValue());
    }

    private void numbersInOrder() {
        DocumentaryCreditDesk desk = Desks.busy();
        long sum = sumOf(4, -1, 400, 500, -1, 0, 500, 0, 50, 150);
        sum = sumOf(sum, 0, 2, 0, 30, 0, 1, 112, -1, 1, 1, 4, -1, 2, 0, 0, -1, 0, 3, 112, -1);
        on.due("of the busy desk", desk.checksum(), sum);
        desk.undo();
        sum = sumOf(0, -1, 400, 500, -1, 0, 500, 0, 50, 150);
        sum = sumOf(sum, 0, 2, 0, 30, 0, 1, 112, -1, 1, 1, 4, -1, 2, 0, 0, -1, 0, 3, 112, -1);
        on.due("on day 0", desk.checksum(), sum);
        on.due("of nothing", Desks.empty().checksum(), 0);
    }

    // 512 calls

    private void calls() {
        DocumentaryCreditDesk desk = Desks.empty();
        for (int pair = 0; pair < 255; pair++) {
            on.due("pass", desk.pass(35), 35 * (pair % 8 + 1));
            // Day 9000 is too near for so many; every eighth time day 0 comes again.
            boolean again = pair % 8 == 7;
            on.due("the call behind it", again ? desk.load(0) : desk.errorOffset(), again ? 0 : -1);
        }
        on.due("call 511", desk.today(), 35 * 7);
        on.due("call 512", desk.undo(), 7);
    }
}
