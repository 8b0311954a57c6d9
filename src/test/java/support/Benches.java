/** Benches at the edges of what they can hold. */
final class Benches {
    /** Eight items of fifteen signs: as long as a text can be, and without a fault. */
    static final String LONGEST_TEXT = "0037x0060b2000;".repeat(8);

    private Benches() {
    }

    static void write(FibreBench x, String text) {
        for (int i = 0; i < text.length(); i++) {
            x.write(text.charAt(i));
        }
    }

    /** A fibre of sections with these lengths, the attenuation 1 and the scatter 0. */
    static FibreBench ofLengths(int... lengths) {
        FibreBench x = new FibreBench();
        x.begin(lengths[0], 1, 0);
        for (int i = 1; i < lengths.length; i++) {
            x.addSection(lengths[i], 1, 0);
        }
        return x;
    }

    /** The same, with the slope 1, so that only what is no plain fibre deviates. */
    static FibreBench flat(int... lengths) {
        FibreBench x = ofLengths(lengths);
        x.set(0, 1);
        return x;
    }

    /** As long and as steep as a fibre can be. */
    static FibreBench steepest() {
        FibreBench x = new FibreBench();
        x.begin(100, 60, 0);
        x.addSection(100, 60, 0);
        x.addSection(100, 60, 0);
        return x;
    }

    /**
     * From side 0, with the width 1, the level is 5202 less this loss at 200, and falls by 1 with each unit from there
     * on; before that it falls by 60, and by 13098 more at 150.
     */
    static FibreBench downToTheFloor(int lossAt200) {
        FibreBench x = new FibreBench();
        x.begin(100, 60, 0);
        x.addSection(100, 60, 0);
        x.addSection(100, 1, 0);
        for (int i = 0; i < 4; i++) {
            x.addBend(150, 3000);
        }
        x.addBend(150, 1098);
        x.setJoint(2, lossAt200, 0);
        return x;
    }

    static FibreBench shortest() {
        return ofLengths(1);
    }

    static FibreBench longest() {
        return ofLengths(100, 100, 100);
    }

    static FibreBench eightSections() {
        return ofLengths(1, 1, 1, 1, 1, 1, 1, 1);
    }

    /** Some of all that there is, with room for more; seven changes can be undone, and a fault is remembered. */
    static FibreBench busy() {
        FibreBench x = new FibreBench();
        x.begin(50, 10, 100);
        x.addSection(30, 20, 200);
        x.setJoint(1, 300, 4000);
        x.addBend(20, 500);
        x.setBreak(70, 6000);
        x.addPoint(30, 4);
        x.addPoint(900, 7);
        write(x, "20x");
        x.load();
        write(x, "2b2;30x3b3;");
        return x;
    }

    /** All that a bench can hold; each change was one of the last eight or is behind them. */
    static FibreBench full() {
        FibreBench x = ofLengths(100, 90, 80, 10, 10, 5, 4, 1);
        write(x, LONGEST_TEXT);
        for (int point = 0; point < 10; point++) {
            x.addPoint(1111 * point, 99 - point);
        }
        for (int bend = 0; bend < 6; bend++) {
            x.addBend(299 - bend, 3000 - bend);
        }
        for (int joint = 0; joint <= 8; joint++) {
            x.setJoint(joint, 10 + joint, 9000 - joint);
        }
        x.setBreak(295, 9000);
        return x;
    }
}
