import java.util.Arrays;

/**
 * A documentary credit desk: letters of credit, presentations of documents, transfers and a
 * calendar, set up by a short text. The document ../shared/DOC.md says what each method promises.
 *
 * <p>All data of one moment stand in a {@link Book} that never changes. A change puts a new book in
 * the old one's place, so undoing means taking the old book back.
 */
public final class DocumentaryCreditDesk {
    public static final int SYNTAX_ERROR = -2;
    public static final int OUT_OF_RANGE = -3;
    public static final int TOO_MANY = -4;
    public static final int TOO_DEEP = -5;
    public static final int PENDING = 0;
    public static final int DISCREPANT = 1;
    public static final int HONOURED = 2;
    public static final int REFUSED = 3;

    private static final int NONE = -1;

    private static final int MOST_BYTES = 900;
    private static final int BYTES_OF_APPEND = 20;
    private static final int MOST_UNDONE = 8;
    private static final int MOST_CREDITS = 12;
    private static final int MOST_PRESENTATIONS = 24;
    private static final int MOST_FITTED = 12;

    private static final int MOST_DAY_ASKED = 9999;
    private static final int MOST_COUNT_ASKED = 100;
    private static final int MOST_TODAY = 9000;
    private static final int MOST_PASSED = 365;
    private static final int MOST_EXPIRY = 999;
    private static final int MOST_SHIPMENT = 999;
    private static final int MOST_CREDITED = 999999;
    private static final int MOST_PRESENTED = 1999999;
    private static final int ALL_DOCUMENTS = 255;
    private static final int DAYS_TO_EXAMINE = 5;

    private static final int LATE_SHIPMENT = 1;
    private static final int LATE_PRESENTATION = 1 << 1;
    private static final int OVERDRAWN = 1 << 2;
    private static final int PARTIAL_DRAWING = 1 << 3;
    private static final int MISSING_DOCUMENTS = 1 << 4;
    private static final int UNDERINSURED = 1 << 5;
    private static final int FUTURE_SHIPMENT = 1 << 6;

    private static final int INSURANCE_DOCUMENT = 1 << 7;

    private final byte[] buffer;
    private int bufferLength;
    private int errorStart;
    private Book book;
    private final Book[] past;
    private int pastCount;

    public DocumentaryCreditDesk() {
        buffer = new byte[MOST_BYTES];
        bufferLength = 0;
        errorStart = NONE;
        book = Book.ofEmptySetup();
        past = new Book[MOST_UNDONE];
        pastCount = 0;
    }

    // The setup text

    public int append(int w0, int w1, int w2, int w3, int w4) {
        if (bufferLength + BYTES_OF_APPEND > MOST_BYTES) {
            return -1;
        }
        putWord(w0);
        putWord(w1);
        putWord(w2);
        putWord(w3);
        putWord(w4);
        return bufferLength;
    }

    private void putWord(int word) {
        for (int shift = 24; shift >= 0; shift -= 8) {
            if (bufferLength >= 0 && bufferLength < buffer.length) {
                buffer[bufferLength] = (byte) (word >> shift);
                bufferLength++;
            }
        }
    }

    public int load(int length) throws IllegalArgumentException {
        if (length < 0 || length > bufferLength) {
            throw new IllegalArgumentException("the buffer does not have that many bytes");
        }
        SetupReader reader = new SetupReader(Arrays.copyOf(buffer, length));
        reader.readSetup();
        bufferLength = 0;
        errorStart = reader.errorStart;
        if (reader.error != SetupReader.NO_ERROR) {
            return reader.error;
        }
        changeTo(reader.book);
        return book.credits.length;
    }

    public int errorOffset() {
        return errorStart;
    }

    // Counts and the calendar

    public int creditCount() {
        return book.credits.length;
    }

    public int presentationCount() {
        return book.presentations.length;
    }

    public int today() {
        return book.today;
    }

    public boolean isBusinessDay(int day) throws IllegalArgumentException {
        needRange(day, 0, MOST_DAY_ASKED);
        return book.calendar.isOpen(day);
    }

    public int extended(int day) throws IllegalArgumentException {
        needRange(day, 0, MOST_DAY_ASKED);
        return book.calendar.firstOpen(day);
    }

    public int addBusinessDays(int day, int count) throws IllegalArgumentException {
        needRange(day, 0, MOST_DAY_ASKED);
        needRange(count, 0, MOST_COUNT_ASKED);
        return book.calendar.openDayAfter(day, count);
    }

    public int businessDays(int from, int to) throws IllegalArgumentException {
        needRange(from, 0, MOST_DAY_ASKED);
        needRange(to, 0, MOST_DAY_ASKED);
        return book.calendar.openDays(from, to);
    }

    // Credits

    public int parent(int credit) throws IndexOutOfBoundsException {
        return creditAt(credit).parent;
    }

    public int bound(int credit, boolean upper) throws IndexOutOfBoundsException {
        Credit asked = creditAt(credit);
        return upper ? asked.maximum() : asked.minimum();
    }

    public int expiry(int credit) throws IndexOutOfBoundsException {
        return creditAt(credit).expiry;
    }

    public int drawn(int credit) throws IndexOutOfBoundsException {
        return book.drawnSum(creditAt(credit));
    }

    public int transferred(int credit) throws IndexOutOfBoundsException {
        return book.transferredSum(creditAt(credit));
    }

    public int available(int credit) throws IndexOutOfBoundsException {
        return book.availableSum(creditAt(credit));
    }

    // Presentations

    public int creditOf(int presentation) throws IndexOutOfBoundsException {
        return presentationAt(presentation).credit;
    }

    public int state(int presentation) throws IndexOutOfBoundsException {
        return presentationAt(presentation).state;
    }

    public int discrepancies(int presentation) throws IndexOutOfBoundsException {
        return presentationAt(presentation).discrepancies;
    }

    public int deadline(int presentation) throws IndexOutOfBoundsException {
        return deadlineFor(presentationAt(presentation));
    }

    public int dueDay(int presentation) throws IndexOutOfBoundsException {
        return presentationAt(presentation).dueDay;
    }

    public int fee(int presentation) throws IndexOutOfBoundsException {
        Presentation asked = presentationAt(presentation);
        return book.feeRule.feeFor(asked.amount, book.today - asked.madeOn,
                Integer.bitCount(asked.discrepancies));
    }

    public long dueBetween(int from, int to) {
        long sum = 0;
        for (Presentation each : book.presentations) {
            if (each != null && each.state == HONOURED && each.dueDay >= from && each.dueDay <= to) {
                sum += each.amount;
            }
        }
        return sum;
    }

    // Questions about presentations that have not been made

    public int check(int credit, int shipped, int amount, int documents, int insured)
            throws IndexOutOfBoundsException, IllegalArgumentException {
        Credit asked = creditAt(credit);
        needPresentable(shipped, amount, documents, insured);
        return discrepanciesToday(asked, shipped, amount, documents, insured);
    }

    public int lastDay(int credit, int shipped)
            throws IndexOutOfBoundsException, IllegalArgumentException {
        Credit asked = creditAt(credit);
        needRange(shipped, 0, MOST_DAY_ASKED);
        return lastDayFor(asked, shipped);
    }

    public int bestFit(int credit) throws IndexOutOfBoundsException {
        Credit asked = creditAt(credit);
        FitSearch search = new FitSearch(book.availableSum(asked));
        for (int i = 0; i < book.presentations.length; i++) {
            Presentation each = book.presentations[i];
            if (each != null && each.credit == asked.index && each.state == REFUSED) {
                search.addCandidate(i, each.amount);
            }
        }
        return search.bestSet();
    }

    // Changes

    public int present(int credit, int shipped, int amount, int documents, int insured)
            throws IndexOutOfBoundsException, IllegalArgumentException, IllegalStateException {
        Credit drawnOn = creditAt(credit);
        needPresentable(shipped, amount, documents, insured);
        if (book.presentations.length >= MOST_PRESENTATIONS) {
            throw new IllegalStateException("there are too many presentations");
        }
        int found = discrepanciesToday(drawnOn, shipped, amount, documents, insured);
        int index = book.presentations.length;
        changeTo(book.withPresentation(
                new Presentation(credit, book.today, amount, found, PENDING, NONE)));
        return index;
    }

    public int examine(int presentation) throws IndexOutOfBoundsException, IllegalStateException {
        Presentation examined = presentationAt(presentation);
        if (examined.state != PENDING) {
            throw new IllegalStateException("the presentation is not pending");
        }
        int result = stateAfterExamination(examined);
        settle(presentation, examined, result);
        return result;
    }

    public int waive(int presentation) throws IndexOutOfBoundsException, IllegalStateException {
        Presentation waived = presentationAt(presentation);
        if (waived.state != DISCREPANT || waived.has(OVERDRAWN)) {
            throw new IllegalStateException("the presentation cannot be waived");
        }
        settle(presentation, waived, HONOURED);
        return presentationAt(presentation).dueDay;
    }

    public int refuse(int presentation) throws IndexOutOfBoundsException, IllegalStateException {
        Presentation refused = presentationAt(presentation);
        if (refused.state != DISCREPANT) {
            throw new IllegalStateException("the presentation is not discrepant");
        }
        settle(presentation, refused, REFUSED);
        return book.availableSum(creditAt(refused.credit));
    }

    public int transfer(int credit, int amount, int expiry)
            throws IndexOutOfBoundsException, IllegalArgumentException, IllegalStateException {
        Credit source = creditAt(credit);
        needRange(amount, 1, MOST_CREDITED);
        needRange(expiry, 0, MOST_EXPIRY);
        if (expiry > source.expiry) {
            throw new IllegalArgumentException("the credit expires earlier");
        }
        if (!canTransfer(source, amount)) {
            throw new IllegalStateException("the credit cannot be transferred so");
        }
        Credit part = source.partTransferred(book.credits.length, amount, expiry);
        changeTo(book.withCredit(part));
        return part.index;
    }

    public int pass(int days) throws IllegalArgumentException, IllegalStateException {
        needRange(days, 1, MOST_PASSED);
        if (book.today + days > MOST_TODAY) {
            throw new IllegalStateException("today would be too late");
        }
        changeTo(book.withToday(book.today + days));
        return book.today;
    }

    public int undo() {
        Book latest = pastCount > 0 && pastCount <= past.length ? past[pastCount - 1] : null;
        if (latest == null) {
            return -1;
        }
        book = latest;
        pastCount--;
        return pastCount;
    }

    public long checksum() {
        long sum = book.today;
        for (Credit each : book.credits) {
            if (each != null) {
                sum = 31 * sum + each.parent;
                sum = 31 * sum + book.drawnSum(each);
                sum = 31 * sum + book.availableSum(each);
            }
        }
        for (Presentation each : book.presentations) {
            if (each != null) {
                sum = 31 * sum + each.credit;
                sum = 31 * sum + each.state;
                sum = 31 * sum + each.discrepancies;
                sum = 31 * sum + each.dueDay;
            }
        }
        return sum;
    }

    // Helpers of the methods above

    private Credit creditAt(int index) {
        Credit found = index >= 0 && index < book.credits.length ? book.credits[index] : null;
        if (found == null) {
            throw new IndexOutOfBoundsException("there is no such credit");
        }
        return found;
    }

    private Presentation presentationAt(int index) {
        Presentation found = index >= 0 && index < book.presentations.length
                ? book.presentations[index] : null;
        if (found == null) {
            throw new IndexOutOfBoundsException("there is no such presentation");
        }
        return found;
    }

    private static void needRange(int number, int least, int most) {
        if (number < least || number > most) {
            throw new IllegalArgumentException("a number is out of range");
        }
    }

    private static void needPresentable(int shipped, int amount, int documents, int insured) {
        needRange(shipped, 0, MOST_DAY_ASKED);
        needRange(amount, 1, MOST_PRESENTED);
        needRange(documents, 0, ALL_DOCUMENTS);
        if (insured < 0) {
            throw new IllegalArgumentException("the insured sum is negative");
        }
    }

    private int discrepanciesToday(Credit credit, int shipped, int amount, int documents,
            int insured) {
        int found = 0;
        if (shipped > credit.latestShipment) {
            found |= LATE_SHIPMENT;
        }
        if (book.today > lastDayFor(credit, shipped)) {
            found |= LATE_PRESENTATION;
        }
        if (amount > book.availableSum(credit)) {
            found |= OVERDRAWN;
        }
        if (!credit.partial && (amount < credit.minimum() || book.isPresentedUnder(credit))) {
            found |= PARTIAL_DRAWING;
        }
        if ((credit.needed & ~documents) != 0) {
            found |= MISSING_DOCUMENTS;
        }
        if ((credit.needed & INSURANCE_DOCUMENT) != 0 && insured < amount + amount / 10) {
            found |= UNDERINSURED;
        }
        if (shipped > book.today) {
            found |= FUTURE_SHIPMENT;
        }
        return found;
    }

    private int lastDayFor(Credit credit, int shipped) {
        return Math.min(book.calendar.firstOpen(credit.expiry),
                book.calendar.firstOpen(shipped + credit.period));
    }

    private int deadlineFor(Presentation presentation) {
        return book.calendar.openDayAfter(presentation.madeOn, DAYS_TO_EXAMINE);
    }

    private int stateAfterExamination(Presentation examined) {
        if (examined.discrepancies == 0) {
            return HONOURED;
        }
        if (examined.has(OVERDRAWN)) {
            return DISCREPANT;
        }
        return book.today > deadlineFor(examined) ? HONOURED : DISCREPANT;
    }

    private void settle(int index, Presentation presentation, int state) {
        int due = NONE;
        if (state == HONOURED) {
            due = book.calendar.firstOpen(book.today + creditAt(presentation.credit).tenor);
        }
        changeTo(book.withPresentationAt(index, presentation.settled(state, due)));
    }

    private boolean canTransfer(Credit source, int amount) {
        return source.transferable
                && amount <= book.availableSum(source)
                && (source.partial || book.transferredSum(source) == 0)
                && book.credits.length < MOST_CREDITS;
    }

    private void changeTo(Book next) {
        if (pastCount >= past.length) {
            forgetOldest();
        }
        if (pastCount >= 0 && pastCount < past.length) {
            past[pastCount] = book;
            pastCount++;
        }
        book = next;
    }

    private void forgetOldest() {
        for (int i = 1; i < past.length; i++) {
            past[i - 1] = past[i];
        }
        pastCount = past.length - 1;
    }

    /** All data of one moment. Neither it nor its arrays change once it has been made. */
    private static final class Book {
        final int today;
        final Calendar calendar;
        final FeeRule feeRule;
        final Credit[] credits;
        final Presentation[] presentations;

        Book(int today, Calendar calendar, FeeRule feeRule, Credit[] credits,
                Presentation[] presentations) {
            this.today = today;
            this.calendar = calendar;
            this.feeRule = feeRule;
            this.credits = credits;
            this.presentations = presentations;
        }

        static Book ofEmptySetup() {
            return new Book(0, new Calendar(new int[0]), new FeeRule(FeeRule.USUAL),
                    new Credit[0], new Presentation[0]);
        }

        Book withCalendar(Calendar changed) {
            return new Book(today, changed, feeRule, credits, presentations);
        }

        Book withFeeRule(FeeRule changed) {
            return new Book(today, calendar, changed, credits, presentations);
        }

        Book withToday(int day) {
            return new Book(day, calendar, feeRule, credits, presentations);
        }

        Book withCredit(Credit added) {
            Credit[] longer = new Credit[credits.length + 1];
            for (int i = 0; i < credits.length; i++) {
                longer[i] = credits[i];
            }
            longer[credits.length] = added;
            return new Book(today, calendar, feeRule, longer, presentations);
        }

        Book withPresentation(Presentation added) {
            Presentation[] longer = new Presentation[presentations.length + 1];
            for (int i = 0; i < presentations.length; i++) {
                longer[i] = presentations[i];
            }
            longer[presentations.length] = added;
            return new Book(today, calendar, feeRule, credits, longer);
        }

        Book withPresentationAt(int index, Presentation changed) {
            Presentation[] copy = new Presentation[presentations.length];
            for (int i = 0; i < presentations.length; i++) {
                copy[i] = i == index ? changed : presentations[i];
            }
            return new Book(today, calendar, feeRule, credits, copy);
        }

        int drawnSum(Credit credit) {
            int sum = 0;
            for (Presentation each : presentations) {
                if (each != null && each.credit == credit.index && each.state != REFUSED
                        && !each.has(OVERDRAWN)) {
                    sum += each.amount;
                }
            }
            return sum;
        }

        int transferredSum(Credit credit) {
            int sum = 0;
            for (Credit each : credits) {
                if (each != null && each.parent == credit.index) {
                    sum += each.amount;
                }
            }
            return sum;
        }

        int availableSum(Credit credit) {
            return credit.maximum() - drawnSum(credit) - transferredSum(credit);
        }

        boolean isPresentedUnder(Credit credit) {
            for (Presentation each : presentations) {
                if (each != null && each.credit == credit.index && each.state != REFUSED) {
                    return true;
                }
            }
            return false;
        }
    }

    /** Weekends and holidays. A day is open if it is a business day. */
    private static final class Calendar {
        static final int MOST_HOLIDAYS = 16;
        static final int MOST_HOLIDAY = 999;
        // 16 holidays can close three weeks and a day at most, so this bound is never met.
        private static final int MOST_DAYS_CLOSED = 1000;
        private static final int DAYS_A_WEEK = 7;
        private static final int WORKDAYS_A_WEEK = 5;

        private final int[] holidays;

        Calendar(int[] holidays) {
            this.holidays = holidays;
        }

        Calendar withHoliday(int day) {
            int[] longer = Arrays.copyOf(holidays, holidays.length + 1);
            longer[holidays.length] = day;
            return new Calendar(longer);
        }

        boolean isFull() {
            return holidays.length >= MOST_HOLIDAYS;
        }

        boolean isHoliday(int day) {
            for (int holiday : holidays) {
                if (holiday == day) {
                    return true;
                }
            }
            return false;
        }

        boolean isOpen(int day) {
            return !isWeekend(day) && !isHoliday(day);
        }

        int firstOpen(int day) {
            int open = day;
            for (int n = 0; n < MOST_DAYS_CLOSED && !isOpen(open); n++) {
                open++;
            }
            return open;
        }

        int openDayAfter(int day, int count) {
            int reached = day;
            for (int n = 0; n < count; n++) {
                reached = firstOpen(reached + 1);
            }
            return reached;
        }

        /** Counts whole weeks rather than days, as the two days may be thousands apart. */
        int openDays(int from, int to) {
            if (to < from) {
                return 0;
            }
            int count = workdaysBefore(to) - workdaysBefore(from);
            for (int holiday : holidays) {
                if (holiday >= from && holiday < to && !isWeekend(holiday)) {
                    count--;
                }
            }
            return count;
        }

        private static int workdaysBefore(int day) {
            return day / DAYS_A_WEEK * WORKDAYS_A_WEEK
                    + Math.min(day % DAYS_A_WEEK, WORKDAYS_A_WEEK);
        }

        private static boolean isWeekend(int day) {
            return day % DAYS_A_WEEK >= WORKDAYS_A_WEEK;
        }
    }

    /** Its fields are set by the method that makes it and stay as they are then. */
    private static final class Credit {
        final int index;
        final int parent;
        int amount;
        int upperTolerance;
        int lowerTolerance;
        int expiry;
        int latestShipment;
        int period;
        int tenor;
        int needed;
        boolean partial;
        boolean transferable;

        Credit(int index, int parent) {
            this.index = index;
            this.parent = parent;
        }

        int maximum() {
            return amount + amount * upperTolerance / 100;
        }

        int minimum() {
            return amount - amount * lowerTolerance / 100;
        }

        Credit partTransferred(int partIndex, int partAmount, int partExpiry) {
            Credit part = new Credit(partIndex, index);
            part.amount = partAmount;
            part.expiry = partExpiry;
            part.latestShipment = Math.min(latestShipment, partExpiry);
            part.period = period;
            part.tenor = tenor;
            part.needed = needed;
            part.partial = partial;
            return part;
        }
    }

    /** Holds only what is asked for again: its shipment and documents are judged when it is made. */
    private static final class Presentation {
        final int credit;
        final int madeOn;
        final int amount;
        final int discrepancies;
        final int state;
        final int dueDay;

        Presentation(int credit, int madeOn, int amount, int discrepancies, int state,
                int dueDay) {
            this.credit = credit;
            this.madeOn = madeOn;
            this.amount = amount;
            this.discrepancies = discrepancies;
            this.state = state;
            this.dueDay = dueDay;
        }

        boolean has(int discrepancy) {
            return (discrepancies & discrepancy) != 0;
        }

        Presentation settled(int newState, int newDueDay) {
            return new Presentation(credit, madeOn, amount, discrepancies, newState, newDueDay);
        }
    }

    /**
     * A fee expression in postfix order: a step of 0 or more is a number, the others are below. A
     * tree would be as deep as a sum is long; this needs a stack only as high as parentheses nest.
     */
    private static final class FeeRule {
        static final int AMOUNT = -1;
        static final int DAYS = -2;
        static final int ERRORS = -3;
        static final int PLUS = -4;
        static final int MINUS = -5;
        static final int TIMES = -6;
        static final int OVER = -7;

        static final int[] USUAL = {AMOUNT, 1000, OVER};
        static final int MOST_DEPTH = 4;

        // A sum and a product may wait at each depth, and one operand more is at hand.
        private static final int STACK_SIZE = 2 * (MOST_DEPTH + 1) + 1;
        private static final int MOST_FEE = 999999;
        private static final int MOST_RESULT = 100000000;

        private final int[] steps;

        FeeRule(int[] steps) {
            this.steps = steps;
        }

        int feeFor(int amount, int days, int errors) {
            int[] stack = new int[STACK_SIZE];
            int height = 0;
            for (int step : steps) {
                if (step > PLUS) {
                    if (height < stack.length) {
                        stack[height] = operand(step, amount, days, errors);
                        height++;
                    }
                } else if (height >= 2) {
                    height--;
                    stack[height - 1] = result(step, stack[height - 1], stack[height]);
                }
            }
            return Math.max(0, Math.min(MOST_FEE, stack[0]));
        }

        private static int operand(int step, int amount, int days, int errors) {
            switch (step) {
                case AMOUNT:
                    return amount;
                case DAYS:
                    return days;
                case ERRORS:
                    return errors;
                default:
                    return step;
            }
        }

        private static int result(int operation, int left, int right) {
            long exact;
            switch (operation) {
                case PLUS:
                    exact = (long) left + right;
                    break;
                case MINUS:
                    exact = (long) left - right;
                    break;
                case TIMES:
                    exact = (long) left * right;
                    break;
                default:
                    exact = right == 0 ? 0 : left / right;
                    break;
            }
            return (int) Math.max(-MOST_RESULT, Math.min(MOST_RESULT, exact));
        }
    }

    /**
     * Reads a setup text from left to right, so the first error it meets is the one with the
     * smallest offset. An error makes the current token the end of the text: no rule goes on from
     * there, and the methods return one after the other.
     */
    private static final class SetupReader {
        static final int NO_ERROR = 0;

        // Kinds of tokens; any other byte is a token of its own kind, from -128 to 127.
        private static final int END = 1000;
        private static final int NUMBER = 1001;
        private static final int WORD = 1002;

        private static final int MOST_TOLERANCE = 10;
        private static final int MOST_PERIOD = 60;
        private static final int MOST_TENOR = 180;
        private static final int MOST_DOCUMENT = 7;
        private static final int MOST_FACTOR = 9999;
        // Above every number that is allowed, and ten times it is still an int.
        private static final int HUGE = 10000000;

        int error;
        int errorStart;
        // What has been read so far; of no use once there is an error.
        Book book;

        private final byte[] text;
        private int kind;
        private int start;
        private int end;
        private int value;

        private boolean feeGiven;
        private int[] feeSteps;
        private int feeStepCount;

        SetupReader(byte[] text) {
            this.text = text;
            error = NO_ERROR;
            errorStart = NONE;
            book = Book.ofEmptySetup();
            feeSteps = new int[0];
        }

        void readSetup() {
            nextToken();
            for (int n = 0; n <= text.length && kind != END; n++) {
                if (isWord("holiday")) {
                    readHolidays();
                } else if (isWord("credit")) {
                    readCredit();
                } else if (isWord("fee") && !feeGiven) {
                    readFee();
                } else {
                    fail(SYNTAX_ERROR);
                }
                needSymbol(';');
            }
        }

        // Statements

        private void readHolidays() {
            nextToken();
            readHoliday();
            for (int n = 0; n < text.length && kind == NUMBER; n++) {
                readHoliday();
            }
        }

        private void readHoliday() {
            if (!isNumberFrom(0, Calendar.MOST_HOLIDAY)) {
                return;
            }
            if (book.calendar.isHoliday(value)) {
                fail(OUT_OF_RANGE);
            } else if (book.calendar.isFull()) {
                fail(TOO_MANY);
            } else {
                book = book.withCalendar(book.calendar.withHoliday(value));
                nextToken();
            }
        }

        private void readCredit() {
            if (book.credits.length >= MOST_CREDITS) {
                fail(TOO_MANY);
                return;
            }
            nextToken();
            Credit credit = new Credit(book.credits.length, NONE);
            credit.amount = readNumber(1, MOST_CREDITED);
            credit.upperTolerance = readNumber(0, MOST_TOLERANCE);
            credit.lowerTolerance = readNumber(0, MOST_TOLERANCE);
            credit.expiry = readNumber(0, MOST_EXPIRY);
            credit.latestShipment = readNumber(0, MOST_SHIPMENT);
            credit.period = readNumber(1, MOST_PERIOD);
            credit.tenor = readNumber(0, MOST_TENOR);
            credit.partial = tookWord("partial");
            credit.transferable = tookWord("transferable");
            if (tookWord("needs")) {
                credit.needed = readDocuments();
            }
            book = book.withCredit(credit);
        }

        private int readDocuments() {
            int set = readDocumentInto(0);
            for (int n = 0; n < text.length && kind == NUMBER; n++) {
                set = readDocumentInto(set);
            }
            return set;
        }

        private int readDocumentInto(int set) {
            if (!isNumberFrom(0, MOST_DOCUMENT)) {
                return set;
            }
            int document = 1 << value;
            if ((set & document) != 0) {
                fail(OUT_OF_RANGE);
                return set;
            }
            nextToken();
            return set | document;
        }

        private void readFee() {
            feeGiven = true;
            // Each step comes from a token of at least one byte, so the text is long enough.
            feeSteps = new int[text.length];
            nextToken();
            readSum(0);
            book = book.withFeeRule(new FeeRule(Arrays.copyOf(feeSteps, feeStepCount)));
        }

        private void readSum(int depth) {
            readTerm(depth);
            for (int n = 0; n < text.length && (kind == '+' || kind == '-'); n++) {
                int operation = kind == '+' ? FeeRule.PLUS : FeeRule.MINUS;
                nextToken();
                readTerm(depth);
                addFeeStep(operation);
            }
        }

        private void readTerm(int depth) {
            readFactor(depth);
            for (int n = 0; n < text.length && (kind == '*' || kind == '/'); n++) {
                int operation = kind == '*' ? FeeRule.TIMES : FeeRule.OVER;
                nextToken();
                readFactor(depth);
                addFeeStep(operation);
            }
        }

        private void readFactor(int depth) {
            if (kind == NUMBER) {
                addFeeStep(readNumber(0, MOST_FACTOR));
            } else if (tookWord("amount")) {
                addFeeStep(FeeRule.AMOUNT);
            } else if (tookWord("days")) {
                addFeeStep(FeeRule.DAYS);
            } else if (tookWord("errors")) {
                addFeeStep(FeeRule.ERRORS);
            } else if (kind == '(') {
                readParentheses(depth);
            } else {
                fail(SYNTAX_ERROR);
            }
        }

        private void readParentheses(int depth) {
            if (depth >= FeeRule.MOST_DEPTH) {
                fail(TOO_DEEP);
                return;
            }
            nextToken();
            readSum(depth + 1);
            needSymbol(')');
        }

        private void addFeeStep(int step) {
            if (feeStepCount >= 0 && feeStepCount < feeSteps.length) {
                feeSteps[feeStepCount] = step;
                feeStepCount++;
            }
        }

        // Tokens

        private boolean isNumberFrom(int least, int most) {
            if (kind != NUMBER) {
                fail(SYNTAX_ERROR);
                return false;
            }
            if (value < least || value > most) {
                fail(OUT_OF_RANGE);
                return false;
            }
            return true;
        }

        private int readNumber(int least, int most) {
            if (!isNumberFrom(least, most)) {
                return least;
            }
            int number = value;
            nextToken();
            return number;
        }

        private boolean tookWord(String word) {
            if (!isWord(word)) {
                return false;
            }
            nextToken();
            return true;
        }

        private boolean isWord(String word) {
            if (kind != WORD || end - start != word.length()) {
                return false;
            }
            for (int i = 0; i < word.length(); i++) {
                int offset = start + i;
                if (offset < 0 || offset >= text.length || text[offset] != word.charAt(i)) {
                    return false;
                }
            }
            return true;
        }

        private void needSymbol(char symbol) {
            if (kind == symbol) {
                nextToken();
            } else {
                fail(SYNTAX_ERROR);
            }
        }

        private void nextToken() {
            start = end;
            while (start < text.length && kindAt(start) == ' ') {
                start++;
            }
            kind = kindAt(start);
            end = kind == END ? start : start + 1;
            boolean isRun = kind == NUMBER || kind == WORD;
            while (isRun && end < text.length && kindAt(end) == kind) {
                end++;
            }
            value = kind == NUMBER ? valueOfDigits() : 0;
        }

        private int kindAt(int offset) {
            if (offset < 0 || offset >= text.length) {
                return END;
            }
            byte character = text[offset];
            if (character >= '0' && character <= '9') {
                return NUMBER;
            }
            return character >= 'a' && character <= 'z' ? WORD : character;
        }

        private int valueOfDigits() {
            int number = 0;
            for (int i = Math.max(start, 0); i < end && i < text.length; i++) {
                number = Math.min(HUGE, number * 10 + text[i] - '0');
            }
            return number;
        }

        private void fail(int code) {
            if (error == NO_ERROR) {
                error = code;
                errorStart = start;
            }
            kind = END;
        }
    }

    /** Finds the set of presentations whose amounts fill a given room best. */
    private static final class FitSearch {
        private final int room;
        private final int[] presentations;
        private final int[] amounts;
        private int count;
        private int bestSum;
        private int best;

        FitSearch(int room) {
            this.room = room;
            presentations = new int[MOST_FITTED];
            amounts = new int[MOST_FITTED];
            count = 0;
            bestSum = 0;
            best = 0;
        }

        /** Candidates come in the order of their indexes; those beyond the first 12 are ignored. */
        void addCandidate(int presentation, int amount) {
            if (count >= 0 && count < amounts.length && count < presentations.length) {
                presentations[count] = presentation;
                amounts[count] = amount;
                count++;
            }
        }

        int bestSet() {
            tryAll(count, 0, 0);
            return best;
        }

        /**
         * Decides on the last of the undecided candidates, leaving it out first: so the sets come
         * in the order of their numbers, and of equal sums the first one found is kept.
         */
        private void tryAll(int undecided, int set, int sum) {
            if (undecided <= 0 || undecided > amounts.length || undecided > presentations.length) {
                if (sum > bestSum) {
                    bestSum = sum;
                    best = set;
                }
                return;
            }
            int candidate = undecided - 1;
            tryAll(candidate, set, sum);
            if (sum + amounts[candidate] <= room) {
                tryAll(candidate, set | 1 << presentations[candidate],
                        sum + amounts[candidate]);
            }
        }
    }
}
