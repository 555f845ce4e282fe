import java.math.BigInteger;
import java.util.ArrayDeque;
import java.util.ArrayList;
import java.util.Deque;
import java.util.List;
import java.util.Map;
import java.util.TreeMap;
import java.util.TreeSet;

/**
 * The document once more, written another way and with no thought of speed: days are counted one by
 * one, sets are tried one by one, errors are all gathered before the first is chosen, and undo keeps
 * deep copies. RandomRunsTest compares the desk with it.
 */
final class ReferenceDesk {
    private static final BigInteger LIMIT = BigInteger.valueOf(100000000);

    /** A value of the fee expression for amount, days and errors. */
    interface Value {
        BigInteger of(long amount, long days, long errors);
    }

    static final class Credit {
        int[] numbers = new int[7];
        boolean partial;
        boolean transferable;
        TreeSet<Integer> needs = new TreeSet<>();
        int parent = -1;

        int maximum() {
            return numbers[0] + numbers[0] * numbers[1] / 100;
        }

        int minimum() {
            return numbers[0] - numbers[0] * numbers[2] / 100;
        }
    }

    static final class Paper {
        int credit;
        int made;
        int amount;
        TreeSet<Integer> faults;
        int state;
        int honoured;

        Paper copy() {
            Paper copy = new Paper();
            copy.credit = credit;
            copy.made = made;
            copy.amount = amount;
            copy.faults = faults;
            copy.state = state;
            copy.honoured = honoured;
            return copy;
        }
    }

    static final class Data {
        int today;
        TreeSet<Integer> holidays = new TreeSet<>();
        List<Credit> credits = new ArrayList<>();
        List<Paper> papers = new ArrayList<>();
        Value fee = (amount, days, errors) -> BigInteger.valueOf(amount / 1000);

        Data copy() {
            Data copy = new Data();
            copy.today = today;
            copy.holidays = new TreeSet<>(holidays);
            copy.credits = new ArrayList<>(credits);
            for (Paper paper : papers) {
                copy.papers.add(paper.copy());
            }
            copy.fee = fee;
            return copy;
        }
    }

    private final StringBuilder buffer = new StringBuilder();
    private int errorOffset = -1;
    private Data now = new Data();
    private final Deque<Data> past = new ArrayDeque<>();

    private void change() {
        past.push(now.copy());
        if (past.size() > 8) {
            past.removeLast();
        }
    }

    private static void arguments(boolean good) {
        if (!good) {
            throw new IllegalArgumentException();
        }
    }

    private static void states(boolean good) {
        if (!good) {
            throw new IllegalStateException();
        }
    }

    private Credit credit(int index) {
        if (index < 0 || index >= now.credits.size()) {
            throw new IndexOutOfBoundsException();
        }
        return now.credits.get(index);
    }

    private Paper paper(int index) {
        if (index < 0 || index >= now.papers.size()) {
            throw new IndexOutOfBoundsException();
        }
        return now.papers.get(index);
    }

    private static int bits(Iterable<Integer> set) {
        int bits = 0;
        for (int member : set) {
            bits += 1 << member;
        }
        return bits;
    }

    // The face

    int append(int... words) {
        if (buffer.length() > 880) {
            return -1;
        }
        for (int word : words) {
            for (byte each : java.nio.ByteBuffer.allocate(4).putInt(word).array()) {
                buffer.append((char) (each & 255));
            }
        }
        return buffer.length();
    }

    int load(int length) {
        arguments(length >= 0 && length <= buffer.length());
        Reader reader = new Reader(buffer.substring(0, length));
        buffer.setLength(0);
        reader.read();
        if (!reader.errors.isEmpty()) {
            Map.Entry<Integer, Integer> first = reader.errors.firstEntry();
            errorOffset = first.getKey();
            return first.getValue();
        }
        errorOffset = -1;
        change();
        now = reader.data;
        return now.credits.size();
    }

    int errorOffset() {
        return errorOffset;
    }

    int creditCount() {
        return now.credits.size();
    }

    int presentationCount() {
        return now.papers.size();
    }

    int today() {
        return now.today;
    }

    private boolean open(int day) {
        return day % 7 != 5 && day % 7 != 6 && !now.holidays.contains(day);
    }

    private int extend(int day) {
        return open(day) ? day : extend(day + 1);
    }

    private int add(int day, int count) {
        int reached = day;
        for (int left = count; left > 0; left -= open(reached) ? 1 : 0) {
            reached++;
        }
        return reached;
    }

    boolean isBusinessDay(int day) {
        arguments(day >= 0 && day <= 9999);
        return open(day);
    }

    int extended(int day) {
        arguments(day >= 0 && day <= 9999);
        return extend(day);
    }

    int addBusinessDays(int day, int count) {
        arguments(day >= 0 && day <= 9999 && count >= 0 && count <= 100);
        return add(day, count);
    }

    int businessDays(int from, int to) {
        arguments(from >= 0 && from <= 9999 && to >= 0 && to <= 9999);
        int count = 0;
        for (int day = from; day < to; day++) {
            count += open(day) ? 1 : 0;
        }
        return count;
    }

    int parent(int credit) {
        return credit(credit).parent;
    }

    int bound(int credit, boolean upper) {
        return upper ? credit(credit).maximum() : credit(credit).minimum();
    }

    int expiry(int credit) {
        return credit(credit).numbers[3];
    }

    int drawn(int credit) {
        credit(credit);
        return now.papers.stream()
                .filter(paper -> paper.credit == credit && paper.state != 3)
                .filter(paper -> !paper.faults.contains(2))
                .mapToInt(paper -> paper.amount).sum();
    }

    int transferred(int credit) {
        credit(credit);
        return now.credits.stream().filter(each -> each.parent == credit)
                .mapToInt(each -> each.numbers[0]).sum();
    }

    int available(int credit) {
        return credit(credit).maximum() - drawn(credit) - transferred(credit);
    }

    int creditOf(int presentation) {
        return paper(presentation).credit;
    }

    int state(int presentation) {
        return paper(presentation).state;
    }

    int discrepancies(int presentation) {
        return bits(paper(presentation).faults);
    }

    int deadline(int presentation) {
        return add(paper(presentation).made, 5);
    }

    int dueDay(int presentation) {
        Paper paper = paper(presentation);
        return paper.state == 2
                ? extend(paper.honoured + credit(paper.credit).numbers[6]) : -1;
    }

    int fee(int presentation) {
        Paper paper = paper(presentation);
        return now.fee.of(paper.amount, now.today - paper.made, paper.faults.size())
                .max(BigInteger.ZERO).min(BigInteger.valueOf(999999)).intValueExact();
    }

    long dueBetween(int from, int to) {
        long sum = 0;
        for (int i = 0; i < now.papers.size(); i++) {
            if (state(i) == 2 && from <= dueDay(i) && dueDay(i) <= to) {
                sum += now.papers.get(i).amount;
            }
        }
        return sum;
    }

    private TreeSet<Integer> faults(int index, int shipped, int amount, int documents, int insured) {
        Credit credit = credit(index);
        arguments(shipped >= 0 && shipped <= 9999 && amount >= 1 && amount <= 1999999);
        arguments(documents >= 0 && documents <= 255 && insured >= 0);
        TreeSet<Integer> faults = new TreeSet<>();
        if (shipped > credit.numbers[4]) {
            faults.add(0);
        }
        if (now.today > extend(credit.numbers[3])
                || now.today > extend(shipped + credit.numbers[5])) {
            faults.add(1);
        }
        if (amount > available(index)) {
            faults.add(2);
        }
        boolean another = now.papers.stream().anyMatch(p -> p.credit == index && p.state != 3);
        if (!credit.partial && (another || amount < credit.minimum())) {
            faults.add(3);
        }
        if (credit.needs.stream().anyMatch(need -> (documents >> need) % 2 == 0)) {
            faults.add(4);
        }
        if (credit.needs.contains(7) && insured < amount + amount / 10) {
            faults.add(5);
        }
        if (shipped > now.today) {
            faults.add(6);
        }
        return faults;
    }

    int check(int credit, int shipped, int amount, int documents, int insured) {
        return bits(faults(credit, shipped, amount, documents, insured));
    }

    int lastDay(int credit, int shipped) {
        Credit asked = credit(credit);
        arguments(shipped >= 0 && shipped <= 9999);
        int day = extend(asked.numbers[3]);
        return Math.min(day, extend(shipped + asked.numbers[5]));
    }

    int bestFit(int credit) {
        int room = available(credit);
        List<Integer> candidates = new ArrayList<>();
        for (int i = 0; i < now.papers.size() && candidates.size() < 12; i++) {
            if (creditOf(i) == credit && state(i) == 3) {
                candidates.add(i);
            }
        }
        int best = 0;
        long bestSum = 0;
        for (int choice = 0; choice < 1 << candidates.size(); choice++) {
            int set = 0;
            long sum = 0;
            for (int k = 0; k < candidates.size(); k++) {
                if ((choice >> k & 1) == 1) {
                    set |= 1 << candidates.get(k);
                    sum += now.papers.get(candidates.get(k)).amount;
                }
            }
            if (sum <= room && (sum > bestSum || sum == bestSum && set < best)) {
                best = set;
                bestSum = sum;
            }
        }
        return best;
    }

    int present(int credit, int shipped, int amount, int documents, int insured) {
        Paper paper = new Paper();
        paper.faults = faults(credit, shipped, amount, documents, insured);
        states(now.papers.size() < 24);
        paper.credit = credit;
        paper.made = now.today;
        paper.amount = amount;
        change();
        now.papers.add(paper);
        return now.papers.size() - 1;
    }

    private void honour(Paper paper) {
        paper.state = 2;
        paper.honoured = now.today;
    }

    int examine(int presentation) {
        Paper paper = paper(presentation);
        states(paper.state == 0);
        change();
        boolean precluded = now.today > deadline(presentation) && !paper.faults.contains(2);
        if (paper.faults.isEmpty() || precluded) {
            honour(paper);
        } else {
            paper.state = 1;
        }
        return paper.state;
    }

    int waive(int presentation) {
        Paper paper = paper(presentation);
        states(paper.state == 1 && !paper.faults.contains(2));
        change();
        honour(paper);
        return dueDay(presentation);
    }

    int refuse(int presentation) {
        Paper paper = paper(presentation);
        states(paper.state == 1);
        change();
        paper.state = 3;
        return available(paper.credit);
    }

    int transfer(int credit, int amount, int expiry) {
        Credit source = credit(credit);
        arguments(amount >= 1 && amount <= 999999 && expiry >= 0 && expiry <= 999);
        arguments(expiry <= source.numbers[3]);
        states(source.transferable && amount <= available(credit));
        states(source.partial || transferred(credit) == 0);
        states(now.credits.size() < 12);
        change();
        Credit part = new Credit();
        part.numbers = new int[] {amount, 0, 0, expiry, Math.min(source.numbers[4], expiry),
            source.numbers[5], source.numbers[6]};
        part.partial = source.partial;
        part.needs = source.needs;
        part.parent = credit;
        now.credits.add(part);
        return now.credits.size() - 1;
    }

    int pass(int days) {
        arguments(days >= 1 && days <= 365);
        states(now.today + days <= 9000);
        change();
        now.today += days;
        return now.today;
    }

    int undo() {
        if (past.isEmpty()) {
            return -1;
        }
        now = past.pop();
        return past.size();
    }

    long checksum() {
        List<Integer> numbers = new ArrayList<>(List.of(now.today));
        for (int i = 0; i < now.credits.size(); i++) {
            numbers.addAll(List.of(parent(i), drawn(i), available(i)));
        }
        for (int i = 0; i < now.papers.size(); i++) {
            numbers.addAll(List.of(creditOf(i), state(i), discrepancies(i), dueDay(i)));
        }
        BigInteger sum = BigInteger.ZERO;
        for (int number : numbers) {
            sum = sum.multiply(BigInteger.valueOf(31)).add(BigInteger.valueOf(number));
        }
        return sum.longValue();
    }

    // The setup text

    /** Tells the reader that the rest of the text cannot be understood. */
    private static final class Lost extends RuntimeException {
        private static final long serialVersionUID = 1;
    }

    /** Goes on after the errors that it can pass over, and keeps the first kind at each offset. */
    private static final class Reader {
        private static final int SYNTAX = -2;
        private static final int RANGE = -3;
        private static final int MANY = -4;
        private static final int DEEP = -5;
        private static final int[][] RANGES = {
            {1, 999999}, {0, 10}, {0, 10}, {0, 999}, {0, 999}, {1, 60}, {0, 180}};

        final TreeMap<Integer, Integer> errors = new TreeMap<>();
        final Data data = new Data();
        private final List<String> tokens = new ArrayList<>();
        private final List<Integer> offsets = new ArrayList<>();
        private int next;
        private int fees;

        Reader(String text) {
            java.util.regex.Matcher matcher = java.util.regex.Pattern
                    .compile("[0-9]+|[a-z]+|[^ ]", java.util.regex.Pattern.DOTALL).matcher(text);
            while (matcher.find()) {
                tokens.add(matcher.group());
                offsets.add(matcher.start());
            }
            tokens.add("");
            offsets.add(text.length());
        }

        void read() {
            try {
                while (!token().isEmpty()) {
                    statement();
                    want(";");
                }
            } catch (Lost lost) {
                // What was found before is in errors.
            }
        }

        private String token() {
            return tokens.get(next);
        }

        private void error(int kind) {
            errors.merge(offsets.get(next), kind, Math::max);
        }

        private Lost lost() {
            error(SYNTAX);
            return new Lost();
        }

        private boolean take(String wanted) {
            boolean same = token().equals(wanted);
            next += same ? 1 : 0;
            return same;
        }

        private void want(String wanted) {
            if (!take(wanted)) {
                throw lost();
            }
        }

        private boolean atNumber() {
            return token().matches("[0-9]+");
        }

        private int number(int least, int most) {
            if (!atNumber()) {
                throw lost();
            }
            BigInteger value = new BigInteger(token());
            if (value.compareTo(BigInteger.valueOf(least)) < 0
                    || value.compareTo(BigInteger.valueOf(most)) > 0) {
                error(RANGE);
                next++;
                return least;
            }
            next++;
            return value.intValueExact();
        }

        private void statement() {
            switch (token()) {
                case "holiday" -> holidays();
                case "credit" -> credit();
                case "fee" -> fee();
                default -> throw lost();
            }
        }

        private void holidays() {
            next++;
            do {
                int at = next;
                int day = number(0, 999);
                int after = next;
                next = at;
                if (data.holidays.size() == 16) {
                    error(MANY);
                }
                if (!data.holidays.add(day)) {
                    error(RANGE);
                }
                next = after;
            } while (atNumber());
        }

        private void credit() {
            if (data.credits.size() == 12) {
                error(MANY);
            }
            next++;
            Credit credit = new Credit();
            for (int i = 0; i < 7; i++) {
                credit.numbers[i] = number(RANGES[i][0], RANGES[i][1]);
            }
            credit.partial = take("partial");
            credit.transferable = take("transferable");
            if (take("needs")) {
                do {
                    int at = next;
                    boolean isNew = credit.needs.add(number(0, 7));
                    int after = next;
                    next = at;
                    if (!isNew) {
                        error(RANGE);
                    }
                    next = after;
                } while (atNumber());
            }
            data.credits.add(credit);
        }

        private void fee() {
            fees++;
            if (fees == 2) {
                error(SYNTAX);
            }
            next++;
            data.fee = sum(0);
        }

        private static BigInteger limited(BigInteger value) {
            return value.min(LIMIT).max(LIMIT.negate());
        }

        private Value sum(int depth) {
            Value left = term(depth);
            while (token().equals("+") || token().equals("-")) {
                boolean plus = take("+");
                if (!plus) {
                    want("-");
                }
                Value first = left;
                Value second = term(depth);
                left = (amount, days, errors) -> {
                    BigInteger a = first.of(amount, days, errors);
                    BigInteger b = second.of(amount, days, errors);
                    return limited(plus ? a.add(b) : a.subtract(b));
                };
            }
            return left;
        }

        private Value term(int depth) {
            Value left = factor(depth);
            while (token().equals("*") || token().equals("/")) {
                boolean times = take("*");
                if (!times) {
                    want("/");
                }
                Value first = left;
                Value second = factor(depth);
                left = (amount, days, errors) -> {
                    BigInteger a = first.of(amount, days, errors);
                    BigInteger b = second.of(amount, days, errors);
                    if (times) {
                        return limited(a.multiply(b));
                    }
                    return b.signum() == 0 ? b : limited(a.divide(b));
                };
            }
            return left;
        }

        private Value factor(int depth) {
            if (atNumber()) {
                BigInteger value = BigInteger.valueOf(number(0, 9999));
                return (amount, days, errors) -> value;
            }
            if (take("amount")) {
                return (amount, days, errors) -> BigInteger.valueOf(amount);
            }
            if (take("days")) {
                return (amount, days, errors) -> BigInteger.valueOf(days);
            }
            if (take("errors")) {
                return (amount, days, errors) -> BigInteger.valueOf(errors);
            }
            if (!token().equals("(")) {
                throw lost();
            }
            if (depth == 4) {
                error(DEEP);
            }
            next++;
            Value inside = sum(depth + 1);
            want(")");
            return inside;
        }
    }
}
