import java.io.IOException;
import java.nio.charset.StandardCharsets;
import java.nio.file.Files;
import java.nio.file.Path;

/** Counts the answers that are not the ones that are due, and ends the test with exit code 1 if there was one. */
final class Check {
    private static final Path DOCUMENT = Path.of("../shared/DOC.md");
    private static final int MOST_PRINTED = 40;
    private int wrong = 0;
    private int asked = 0;
    private String about = "";
    private String document = null;

    void promise(int number, String name) {
        about = "promise " + number + " (" + name + ")";
    }

    void rule(int number, String name) {
        about = "LANGUAGE.md, rule " + number + " (" + name + ")";
    }

    /** Tells which words of the document the next answers belong to; a test of words that do not stand there is stale. */
    void sentence(String words) {
        about = "\"" + words + "\"";
        if (document == null) {
            document = readDocument();
        }
        holds("these words stand in the document", document.contains(words));
    }

    private static String readDocument() {
        try {
            return Files.readString(DOCUMENT, StandardCharsets.UTF_8);
        } catch (IOException e) {
            System.out.println("no document: " + e);
            return "";
        }
    }

    void due(String call, long got, long want) {
        asked++;
        if (got != want) {
            report(call, String.valueOf(got), String.valueOf(want));
        }
    }

    void dueFloat(String call, float got, float want) {
        asked++;
        if (Float.floatToIntBits(got) != Float.floatToIntBits(want)) {
            report(call, String.valueOf(got), String.valueOf(want));
        }
    }

    void dueText(String call, String got, String want) {
        asked++;
        if (!got.equals(want)) {
            report(call, got, want);
        }
    }

    void holds(String what, boolean truth) {
        asked++;
        if (!truth) {
            report(what, "false", "true");
        }
    }

    boolean anyWrong() {
        return wrong > 0;
    }

    private void report(String call, String got, String want) {
        wrong++;
        if (wrong <= MOST_PRINTED) {
            System.out.println(about + ": " + call + " answered " + got + ", due is " + want);
        }
    }

    void end() {
        if (asked == 0) {
            System.out.println("nothing was asked");
            System.exit(1);
        }
        System.out.println(asked + " answers asked, " + wrong + " are not as due");
        if (wrong != 0) {
            System.exit(1);
        }
    }
}
