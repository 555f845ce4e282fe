import com.sun.management.ThreadMXBean;
import java.io.IOException;
import java.lang.management.ManagementFactory;
import java.nio.file.Files;
import java.nio.file.Path;
import java.util.Set;
import java.util.regex.Matcher;
import java.util.regex.Pattern;

/**
 * What can be told of LANGUAGE.md from the program's text alone, and the room that runs take. The
 * program's path is given by the property "program". FaceTest looks at the members.
 */
public final class LanguageTest {
    private static final Checks checks = new Checks("LanguageTest");

    private static final Set<String> IMPORTS = Set.of("java.util.Arrays", "java.util.ArrayList",
            "java.util.List", "java.util.Iterator", "java.util.NoSuchElementException");

    // A rule's number, and what must not stand in the text, its comments and texts taken out.
    private static final String[][] FORBIDDEN = {
        {"1", "^package "}, {"1", "\\bprotected\\b"}, {"2", "->"}, {"2", "::"},
        {"3", "\\[\\]\\[\\]\\["}, {"3", "\\bvar\\b"}, {"3", "\\b(Long|Map|Set|Object)\\b(?!\\.)"},
        {"4", "Exact\\("}, {"4", "\\bSystem\\.(?!arraycopy)"}, {"4", "\\bString\\."},
        {"4", "\\.(stream|format|valueOf|parseInt|sort)\\("}, {"5", "static \\{"},
        {"5", "static (?!final |class |int |boolean |void |Book )"}, {"6", "\\btry\\b"},
        {"6", "\\bcatch\\b"}, {"6", "\\bfinally\\b"}, {"6", "\\bsynchronized\\b"},
        {"6", "\\bassert\\b"}, {"6", "getMessage"}, {"6", "\\.(equals|hashCode|toString)\\("},
        {"6", "extends \\w*Exception"}, {"9", "while \\(true\\)"}, {"9", "for \\(;;\\)"},
        {"9", "\\bdo \\{"}, {"10", "\"\" \\+|\\+ \"\""}, {"13", "Random|Thread|nanoTime|Scanner|Path"}};

    // Rule 4 names functions alone: a field of these classes, Integer.MAX_VALUE too, is not listed.
    private static final Pattern LIBRARY = Pattern.compile(
            "\\b(Integer|Long|Math|Arrays|System|List|Character|Byte|Short)\\.\\w+\\(?");
    private static final Set<String> FUNCTIONS = Set.of("Integer.bitCount(", "Math.min(", "Math.max(",
            "Arrays.copyOf(", "Arrays.copyOfRange(", "Arrays.fill(", "System.arraycopy(");

    private static final Pattern THROW = Pattern.compile("\\bthrow\\b[^;]*;");
    private static final Pattern ALLOWED_THROW = Pattern.compile(
            "throw new (IllegalStateException|IllegalArgumentException|IndexOutOfBoundsException)"
            + "\\((\"\")?\\);");

    public static void main(String[] args) throws IOException {
        String text = Files.readString(Path.of(
                System.getProperty("program", "src/main/java/DocumentaryCreditDesk.java")));
        String code = withoutCommentsAndTexts(text);
        checks.due("signs above 126", text.chars().filter(sign -> sign > 126).count(), 0);
        forbidden(code);
        imports(code);
        library(code);
        exceptions(code);
        lengthOfMethods(code);
        roomOfRuns();
        checks.end();
    }

    private static String withoutCommentsAndTexts(String text) {
        return text.replaceAll("(?s)/\\*.*?\\*/", "").replaceAll("//[^\n]*", "")
                .replaceAll("\"[^\"\n]*\"", "\"\"");
    }

    private static void forbidden(String code) {
        for (String[] row : FORBIDDEN) {
            Matcher found = Pattern.compile(row[1], Pattern.MULTILINE).matcher(code);
            checks.due("rule " + row[0] + ", " + row[1], found.find() ? found.group() : "", "");
        }
    }

    private static void imports(String code) {
        Matcher line = Pattern.compile("(?m)^import ([^;]*);").matcher(code);
        while (line.find()) {
            checks.due("rule 4, import " + line.group(1), IMPORTS.contains(line.group(1)), true);
        }
    }

    private static void library(String code) {
        String used = code.replaceAll("(?m)^import .*$", "");
        Matcher found = LIBRARY.matcher(used);
        int uses = 0;
        while (found.find()) {
            uses++;
            checks.due("rule 4, " + found.group() + " is listed",
                    FUNCTIONS.contains(found.group()), true);
        }
        checks.due("uses of the library found", uses > 5, true);
    }

    private static void exceptions(String code) {
        Matcher found = THROW.matcher(code);
        while (found.find()) {
            checks.due("rule 6, " + found.group(),
                    ALLOWED_THROW.matcher(found.group()).matches(), true);
        }
    }

    /** Counts the lines between a method's first and its last brace, which stand by themselves. */
    private static void lengthOfMethods(String code) {
        Pattern method = Pattern.compile(
                "(?ms)^( +)(?!(?:else|for|while|if|switch|return)\\b)[\\w\\[\\] ]+\\([^;{}]*?\\)"
                + "[\\w, \\n]*?\\{\\n(.*?)^\\1\\}");
        Matcher found = method.matcher(code);
        int methods = 0;
        while (found.find()) {
            methods++;
            long lines = found.group(2).chars().filter(sign -> sign == '\n').count();
            checks.due("rule 11, lines of " + found.group().lines().findFirst().orElse(""),
                    lines <= 60, true);
        }
        checks.due("methods found", methods > 90, true);
    }

    // The room: 600,000 objects and arrays, 7.3 million fields and elements. An object takes 16 bytes
    // at least, a field one at least; a run stays far below both.

    private static final long MOST_BYTES = 4_000_000;

    private static void roomOfRuns() {
        room("load of a long fee", 11, LanguageTest::loadLongFee);
        room("load of many statements", 11, LanguageTest::loadManyStatements);
        room("load of nothing", 512, desk -> desk.load(0));
        room("pass and undo", 256, desk -> {
            desk.pass(1);
            desk.undo();
        });
        room("present, with 24 presentations", 256, LanguageTest::presentAndUndo);
        room("bestFit and fee", 256, desk -> {
            if (desk.creditCount() == 0) {
                Checks.load(desk, "fee 1" + "+1".repeat(300) + ";" + Desks.PARTIAL);
                Desks.refuseAll(desk, 0, 1, 2, 3, 4, 5, 6, 7, 8, 9, 10, 11, 12);
            }
            desk.bestFit(0);
            desk.fee(0);
        });
        room("new objects", 512, desk -> new DocumentaryCreditDesk());
    }

    private static void loadLongFee(DocumentaryCreditDesk desk) {
        Checks.load(desk, "fee 1" + "+1".repeat(447) + ";");
    }

    private static void loadManyStatements(DocumentaryCreditDesk desk) {
        Checks.load(desk, "holiday 1 2 3 4 5 6 7 8 9 10 11 12 13 14 15 16;fee 1"
                + "+1".repeat(240) + ";" + Desks.CREDIT.repeat(12));
    }

    private static void presentAndUndo(DocumentaryCreditDesk desk) {
        if (desk.creditCount() == 0) {
            Checks.load(desk, Desks.PARTIAL);
        }
        desk.present(0, 0, 1, 0, 0);
        if (desk.presentationCount() == 24) {
            desk.undo();
        }
    }

    private interface Calls {
        void on(DocumentaryCreditDesk desk);
    }

    private static void room(String what, int times, Calls calls) {
        ThreadMXBean thread = (ThreadMXBean) ManagementFactory.getThreadMXBean();
        long self = Thread.currentThread().getId();
        long before = thread.getThreadAllocatedBytes(self);
        DocumentaryCreditDesk desk = new DocumentaryCreditDesk();
        for (int i = 0; i < times; i++) {
            calls.on(desk);
        }
        long taken = thread.getThreadAllocatedBytes(self) - before;
        checks.due("rule 12, room for " + what + ", " + taken + " bytes", taken <= MOST_BYTES, true);
    }
}
