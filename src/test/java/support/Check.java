/** Counts the answers that are not the ones that are due, and ends the test with exit code 1 if there was one. */
final class Check {
    private static final int MOST_PRINTED = 40;
    private int wrong = 0;
    private int asked = 0;
    private String promise = "";

    void promise(int number, String name) {
        promise = "promise " + number + " (" + name + ")";
    }

    void due(String call, long got, long want) {
        asked++;
        if (got != want) {
            report(call, String.valueOf(got), String.valueOf(want));
        }
    }

    void dueFloat(String call, float got, float want) {
        asked++;
        if (Float.floatToIntBits(got) != Float.floatToIntBits(want)) {
            report(call, String.valueOf(got), String.valueOf(want));
        }
    }

    void holds(String what, boolean truth) {
        asked++;
        if (!truth) {
            report(what, "false", "true");
        }
    }

    boolean anyWrong() {
        return wrong > 0;
    }

    private void report(String call, String got, String want) {
        wrong++;
        if (wrong <= MOST_PRINTED) {
            System.out.println(promise + ": " + call + " answered " + got + ", due is " + want);
        }
    }

    void end() {
        if (asked == 0) {
            System.out.println("nothing was asked");
            System.exit(1);
        }
        System.out.println(asked + " answers asked, " + wrong + " are not as due");
        if (wrong != 0) {
            System.exit(1);
        }
    }
}
