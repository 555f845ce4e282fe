import java.util.ArrayList;
import java.util.List;
import java.util.Random;
import java.util.function.LongSupplier;

/**
 * All promises: long runs of calls drawn from a fixed seed, ordinary and wrong ones mixed, each
 * answered by the desk as ReferenceDesk answers it.
 */
public final class RandomRunsTest {
    private static final int RUNS = 1500;
    private static final int TEXTS = 20000;
    private static final int CALLS = 512;

    private final Checks checks;
    private final Random random;
    private final DocumentaryCreditDesk desk = new DocumentaryCreditDesk();
    private final ReferenceDesk model = new ReferenceDesk();
    private final List<String> told = new ArrayList<>();
    private int calls;

    private RandomRunsTest(Checks checks, long seed) {
        this.checks = checks;
        this.random = new Random(seed);
    }

    public static void main(String[] args) {
        Checks checks = new Checks("RandomRunsTest");
        for (int seed = 0; seed < RUNS; seed++) {
            new RandomRunsTest(checks, seed).run();
        }
        for (int seed = 0; seed < TEXTS; seed++) {
            new RandomRunsTest(checks, 1000000 + seed).loadOneText();
        }
        checks.end();
    }

    /** An answer as a text, so that a throw can be compared like any other. */
    private static String answer(LongSupplier call) {
        try {
            return Long.toString(call.getAsLong());
        } catch (RuntimeException thrown) {
            return "throws." + thrown.getClass().getSimpleName();
        }
    }

    private void same(String what, LongSupplier real, LongSupplier wanted) {
        calls++;
        String got = answer(real);
        String want = answer(wanted);
        told.add(what + " = " + got);
        if (!got.equals(want)) {
            System.out.println(String.join("\n", told));
            System.out.println(what + " answered " + got + ", due is " + want);
        }
        checks.due("a random call", got.equals(want), true);
    }

    private void run() {
        loadText(setup());
        while (calls < CALLS) {
            int kind = random.nextInt(100);
            if (kind < 1) {
                loadText(random.nextInt(3) == 0 ? damaged(setup()) : setup());
            } else if (kind < 30) {
                change();
            } else if (kind < 36) {
                same("undo()", desk::undo, model::undo);
            } else if (kind < 50) {
                askCalendar();
            } else if (kind < 70) {
                askCredit();
            } else if (kind < 90) {
                askPresentation();
            } else {
                same("checksum()", desk::checksum, model::checksum);
            }
        }
    }

    private void loadOneText() {
        String text = setup();
        int damages = random.nextInt(4);
        for (int i = 0; i < damages; i++) {
            text = damaged(text);
        }
        loadText(text);
        same("checksum()", desk::checksum, model::checksum);
        same("businessDays(0, 1000)", () -> desk.businessDays(0, 1000),
                () -> model.businessDays(0, 1000));
        for (int i = 0; i < desk.creditCount(); i++) {
            int credit = i;
            same("check " + i, () -> desk.check(credit, 1, 20, 5, 22),
                    () -> model.check(credit, 1, 20, 5, 22));
            same("present " + i, () -> desk.present(credit, 0, 1234, 0, 0),
                    () -> model.present(credit, 0, 1234, 0, 0));
            same("fee " + i, () -> desk.fee(credit), () -> model.fee(credit));
        }
    }

    private void loadText(String text) {
        for (int i = 0; i < text.length(); i += 20) {
            int[] w = new int[5];
            for (int k = 0; k < 5; k++) {
                w[k] = Checks.word(text, i + 4 * k);
            }
            same("append", () -> desk.append(w[0], w[1], w[2], w[3], w[4]), () -> model.append(w));
        }
        int length = random.nextInt(20) == 0 ? number(0, text.length() + 25) : text.length();
        same("load(" + length + ") of '" + text + "'", () -> desk.load(length),
                () -> model.load(length));
        same("errorOffset()", desk::errorOffset, model::errorOffset);
        same("creditCount()", desk::creditCount, model::creditCount);
        same("presentationCount()", desk::presentationCount, model::presentationCount);
    }

    private int number(int least, int most) {
        switch (random.nextInt(25)) {
            case 0:
                return least;
            case 1:
                return most;
            case 2:
                return least - 1;
            case 3:
                return most + 1;
            default:
                return least + random.nextInt(most - least + 1);
        }
    }

    private int index(int count) {
        return random.nextInt(40) == 0 ? number(-1, count) : random.nextInt(Math.max(count, 1));
    }

    private int anyCredit() {
        return index(desk.creditCount());
    }

    private int anyPresentation() {
        return index(desk.presentationCount());
    }

    private int nearDay() {
        return Math.max(-1, desk.today() + random.nextInt(40) - 30);
    }

    private int anyDay() {
        return random.nextInt(3) == 0 ? number(0, 9999) : nearDay();
    }

    private int anyAmount(int credit) {
        if (credit < 0 || credit >= desk.creditCount() || random.nextInt(8) == 0) {
            return number(1, 1999999);
        }
        int room = random.nextBoolean() ? desk.available(credit) : desk.bound(credit, false);
        switch (random.nextInt(4)) {
            case 0:
                return room;
            case 1:
                return room + 1;
            default:
                return number(1, Math.max(1, room / (1 + random.nextInt(4))));
        }
    }

    private void change() {
        switch (random.nextInt(12)) {
            case 0:
                int days = random.nextInt(5) == 0 ? number(1, 365) : number(1, 4);
                same("pass(" + days + ")", () -> desk.pass(days), () -> model.pass(days));
                break;
            case 1:
                int credit = anyCredit();
                int amount = anyAmount(credit);
                int expiry = random.nextBoolean() ? number(0, 999) : number(0, 30);
                same("transfer(" + credit + ", " + amount + ", " + expiry + ")",
                        () -> desk.transfer(credit, amount, expiry),
                        () -> model.transfer(credit, amount, expiry));
                break;
            case 2:
            case 3:
            case 4:
                present(true);
                break;
            case 5:
            case 6:
                int waived = anyPresentation();
                same("waive(" + waived + ")", () -> desk.waive(waived), () -> model.waive(waived));
                break;
            case 7:
            case 8:
            case 9:
                int refused = anyPresentation();
                same("refuse(" + refused + ")", () -> desk.refuse(refused),
                        () -> model.refuse(refused));
                break;
            default:
                int examined = anyPresentation();
                same("examine(" + examined + ")", () -> desk.examine(examined),
                        () -> model.examine(examined));
                break;
        }
    }

    private void present(boolean really) {
        int credit = anyCredit();
        int shipped = anyDay();
        int amount = anyAmount(credit);
        int documents = random.nextInt(3) == 0 ? 255 : number(0, 255);
        int needed = amount + amount / 10;
        int insured = random.nextInt(6) == 0 ? number(0, 1000000) : needed - random.nextInt(2);
        String arguments = "(" + credit + ", " + shipped + ", " + amount + ", " + documents + ", "
                + insured + ")";
        if (really) {
            same("present" + arguments,
                    () -> desk.present(credit, shipped, amount, documents, insured),
                    () -> model.present(credit, shipped, amount, documents, insured));
        } else {
            same("check" + arguments,
                    () -> desk.check(credit, shipped, amount, documents, insured),
                    () -> model.check(credit, shipped, amount, documents, insured));
        }
    }

    private void askCalendar() {
        int day = anyDay();
        int other = random.nextInt(20) == 0 ? number(0, 9999) : nearDay();
        int count = random.nextInt(3) == 0 ? number(0, 100) : random.nextInt(12);
        same("isBusinessDay(" + day + ")", () -> desk.isBusinessDay(day) ? 1 : 0,
                () -> model.isBusinessDay(day) ? 1 : 0);
        same("extended(" + day + ")", () -> desk.extended(day), () -> model.extended(day));
        same("addBusinessDays(" + day + ", " + count + ")", () -> desk.addBusinessDays(day, count),
                () -> model.addBusinessDays(day, count));
        same("businessDays(" + day + ", " + other + ")", () -> desk.businessDays(day, other),
                () -> model.businessDays(day, other));
        same("dueBetween(" + other + ", " + day + ")", () -> desk.dueBetween(other, day),
                () -> model.dueBetween(other, day));
        same("today()", desk::today, model::today);
    }

    private void askCredit() {
        int credit = anyCredit();
        int shipped = anyDay();
        boolean upper = random.nextBoolean();
        same("parent(" + credit + ")", () -> desk.parent(credit), () -> model.parent(credit));
        same("bound(" + credit + ", " + upper + ")", () -> desk.bound(credit, upper),
                () -> model.bound(credit, upper));
        same("expiry(" + credit + ")", () -> desk.expiry(credit), () -> model.expiry(credit));
        same("drawn(" + credit + ")", () -> desk.drawn(credit), () -> model.drawn(credit));
        same("transferred(" + credit + ")", () -> desk.transferred(credit),
                () -> model.transferred(credit));
        same("available(" + credit + ")", () -> desk.available(credit),
                () -> model.available(credit));
        same("lastDay(" + credit + ", " + shipped + ")", () -> desk.lastDay(credit, shipped),
                () -> model.lastDay(credit, shipped));
        same("bestFit(" + credit + ")", () -> desk.bestFit(credit), () -> model.bestFit(credit));
        present(false);
    }

    private void askPresentation() {
        int index = anyPresentation();
        same("creditOf(" + index + ")", () -> desk.creditOf(index), () -> model.creditOf(index));
        same("state(" + index + ")", () -> desk.state(index), () -> model.state(index));
        same("discrepancies(" + index + ")", () -> desk.discrepancies(index),
                () -> model.discrepancies(index));
        same("deadline(" + index + ")", () -> desk.deadline(index), () -> model.deadline(index));
        same("dueDay(" + index + ")", () -> desk.dueDay(index), () -> model.dueDay(index));
        same("fee(" + index + ")", () -> desk.fee(index), () -> model.fee(index));
    }

    // Setup texts

    private String setup() {
        StringBuilder text = new StringBuilder();
        int statements = random.nextInt(20) == 0 ? 18 : 1 + random.nextInt(6);
        for (int i = 0; i < statements && text.length() < 780; i++) {
            int kind = random.nextInt(10);
            if (kind < 2) {
                holidays(text);
            } else if (kind < 3) {
                text.append(space()).append("fee").append(space()).append(sum(0));
            } else {
                credit(text);
            }
            text.append(space()).append(';');
        }
        return text.append(space()).toString();
    }

    private String space() {
        return " ".repeat(random.nextInt(3) == 0 ? random.nextInt(3) : 0);
    }

    private void holidays(StringBuilder text) {
        text.append(space()).append("holiday");
        int count = random.nextInt(15) == 0 ? 17 : 1 + random.nextInt(5);
        for (int i = 0; i < count; i++) {
            int day = random.nextInt(5) == 0 ? random.nextInt(1000) : random.nextInt(200);
            text.append(i == 0 ? space() : " ").append(day);
        }
    }

    private void credit(StringBuilder text) {
        int amount = random.nextBoolean() ? 1 + random.nextInt(999999) : 1 + random.nextInt(300);
        text.append(space()).append("credit ").append(amount);
        text.append(' ').append(random.nextInt(11)).append(' ').append(random.nextInt(11));
        int expiry = random.nextInt(3) == 0 ? random.nextInt(1000) : random.nextInt(120);
        text.append(' ').append(expiry).append(' ').append(random.nextInt(expiry + 10) % 1000);
        text.append(' ').append(1 + random.nextInt(60)).append(' ').append(random.nextInt(181));
        text.append(random.nextInt(3) > 0 ? " partial" : "");
        text.append(random.nextInt(2) > 0 ? " transferable" : "");
        if (random.nextInt(3) == 0) {
            text.append(" needs");
            int first = random.nextInt(8);
            for (int document = first; document < 8; document += 1 + random.nextInt(3)) {
                text.append(' ').append(document);
            }
        }
    }

    private String sum(int depth) {
        StringBuilder text = new StringBuilder(term(depth));
        for (int n = random.nextInt(3); n > 0; n--) {
            text.append(space()).append("+-".charAt(random.nextInt(2))).append(term(depth));
        }
        return text.toString();
    }

    private String term(int depth) {
        StringBuilder text = new StringBuilder(factor(depth));
        for (int n = random.nextInt(3); n > 0; n--) {
            text.append("*/".charAt(random.nextInt(2))).append(space()).append(factor(depth));
        }
        return text.toString();
    }

    private String factor(int depth) {
        switch (random.nextInt(7)) {
            case 0:
                return "amount";
            case 1:
                return "days";
            case 2:
                return "errors";
            case 3:
                int most = random.nextInt(60) == 0 ? 5 : 4;
                return depth < most && random.nextBoolean() ? "(" + sum(depth + 1) + ")" : "0";
            case 4:
                return Integer.toString(random.nextInt(10000));
            default:
                return Integer.toString(random.nextInt(12));
        }
    }

    private String damaged(String text) {
        if (text.isEmpty()) {
            return ";";
        }
        String[] pieces = {"0", "1", "7", " ", ";", "(", ")", "+", "*", "x", "fee 1;", "holiday 5;",
            " partial", " needs 1", "\u0000", "\u00ff", "999999", " 8", "\n", "credit"};
        int at = random.nextInt(text.length() + 1);
        int to = Math.min(text.length(), at + random.nextInt(3));
        switch (random.nextInt(4)) {
            case 0:
                return text.substring(0, at) + text.substring(to);
            case 1:
                return text.substring(0, at);
            case 2:
                return text.substring(0, at) + pieces[random.nextInt(pieces.length)]
                        + text.substring(to);
            default:
                return text.substring(0, at) + pieces[random.nextInt(pieces.length)]
                        + text.substring(at);
        }
    }
}
