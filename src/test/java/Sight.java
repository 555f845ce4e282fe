/**
 * What can be seen of a desk from outside, as texts that are compared with those of a twin. The
 * whole of it takes some 400 calls; undoing and loading change the desk, so each text wants a desk of
 * its own.
 */
final class Sight {
    private Sight() {
    }

    /** The data that load replaces and undo brings back; the desk stays as it is. */
    static String ofData(DocumentaryCreditDesk desk) {
        StringBuilder seen = new StringBuilder();
        note(seen, "today", desk.today(), desk.checksum(), desk.businessDays(0, 1001),
                desk.dueBetween(Integer.MIN_VALUE, Integer.MAX_VALUE));
        for (int day = 0; day < 40; day++) {
            seen.append(desk.isBusinessDay(day) ? '+' : '-');
        }
        for (int credit = 0; credit < desk.creditCount(); credit++) {
            note(seen, "credit", desk.parent(credit), desk.bound(credit, true),
                    desk.bound(credit, false), desk.expiry(credit), desk.drawn(credit),
                    desk.transferred(credit), desk.available(credit), desk.lastDay(credit, 0),
                    desk.check(credit, 9999, 1, 0, 0), desk.bestFit(credit));
        }
        for (int paper = 0; paper < desk.presentationCount(); paper++) {
            note(seen, "presentation", desk.creditOf(paper), desk.state(paper),
                    desk.discrepancies(paper), desk.deadline(paper), desk.dueDay(paper),
                    desk.fee(paper));
        }
        return seen.toString();
    }

    /** The moments that undo goes back to, one after the other. */
    static String ofHistory(DocumentaryCreditDesk desk) {
        StringBuilder seen = new StringBuilder();
        int left;
        do {
            left = desk.undo();
            note(seen, "undo", left, desk.today(), desk.checksum(), desk.businessDays(0, 1001),
                    desk.creditCount(), desk.presentationCount());
        } while (left >= 0);
        return seen.toString();
    }

    /** The error offset, and then the buffer: how long it is, and what loading it answers. */
    static String ofText(DocumentaryCreditDesk desk) {
        StringBuilder seen = new StringBuilder();
        int offset = desk.errorOffset();
        int longer = desk.append(0x20202020, 0x20202020, 0x20202020, 0x20202020, 0x20202020);
        int length = longer < 0 ? 900 : longer;
        note(seen, "text", offset, longer, desk.load(length), desk.errorOffset());
        return seen + ofData(desk);
    }

    private static void note(StringBuilder seen, String what, long... numbers) {
        seen.append('\n').append(what);
        for (long number : numbers) {
            seen.append(' ').append(number);
        }
    }
}
