/** The edges that the document names for traces: "Seen from a side" under "Terms", and promises 15 to 19. */
public final class TraceEdgeTest {
    private static final int BAD_VALUE = FibreBench.BAD_VALUE;
    private static final int NONE = FibreBench.NONE;
    private static final int FLOOR = 5000;
    private static final int LOW = Integer.MIN_VALUE;
    private static final int HIGH = Integer.MAX_VALUE;
    private static final int[] WRONG_SIDES = {-1, 2, LOW, HIGH};
    private static final int[] WRONG_WIDTHS = {0, 10, LOW, HIGH};
    private static final int[] WRONG_DISTANCES = {-1, 401, LOW, HIGH};
    private static final Check CHECK = new Check();

    public static void main(String[] args) {
        distancesAndEnds();
        units();
        widths();
        scatteredLevels();
        floor();
        heightsOfJoints();
        jointsBeforeTheEnd();
        reflectorAtTheEnd();
        levelBefore();
        pulses();
        tails();
        greatestReflections();
        heightsOfGhosts();
        lossesOfGhosts();
        eachTwoReflectors();
        pulsesOfGhosts();
        lastDistance();
        greatestOfAll();
        samples();
        meanLoss();
        wrongMeanLoss();
        visible();
        visibleUpToAGap();
        visibleToTheLastDistance();
        stitchedMargin();
        stitchedWidths();
        stitchedCount();
        CHECK.end();
    }

    private static void dueFrom(FibreBench x, int side, int width, int first, int... levels) {
        for (int i = 0; i < levels.length; i++) {
            int d = first + i;
            CHECK.due("sample(" + side + ", " + width + ", " + d + ")", x.sample(side, width, d), levels[i]);
        }
    }

    // ---- Terms

    private static void distancesAndEnds() {
        CHECK.sentence("From a side, the end E is the distance of the break, or L if there is none.");
        FibreBench x = Benches.ofLengths(10);
        dueFrom(x, 0, 1, 8, 30292, 30291, FLOOR);
        dueFrom(x, 1, 1, 8, 30292, 30291, FLOOR);
        CHECK.sentence("The distance of a place from side 0 is the place itself, from side 1 it is L minus the place.");
        x.setBreak(1, 0);
        dueFrom(x, 0, 1, 0, 30300, FLOOR, FLOOR);
        dueFrom(x, 1, 1, 7, 30293, 30292, FLOOR, FLOOR);
        x.setBreak(9, 0);
        dueFrom(x, 0, 1, 7, 30293, 30292, FLOOR, FLOOR);
        dueFrom(x, 1, 1, 0, 30300, FLOOR, FLOOR);
        x.setBreak(0, 0);
        dueFrom(x, 0, 1, 8, 30292, 30291, FLOOR);
        FibreBench shortest = Benches.shortest();
        dueFrom(shortest, 0, 1, 0, 30300, FLOOR);
        dueFrom(shortest, 1, 1, 0, 30300, FLOOR);
        dueFrom(Benches.longest(), 0, 1, 298, 30002, 30001, FLOOR, FLOOR);
        dueFrom(Benches.longest(), 1, 1, 298, 30002, 30001, FLOOR, FLOOR);
    }

    private static void units() {
        CHECK.sentence("Unit u, from 0 on, is the one between the distances u and u + 1.");
        FibreBench x = new FibreBench();
        x.begin(2, 1, 100);
        x.addSection(3, 1, 900);
        dueFrom(x, 0, 1, 0, 30400, 30399, 31198, 31197, 31196, FLOOR);
        dueFrom(x, 1, 1, 0, 31200, 31199, 31198, 30397, 30396, FLOOR);
    }

    private static void widths() {
        CHECK.sentence("A pulse has a width w from 1 to 9.");
        FibreBench x = new FibreBench();
        for (int width = 1; width <= 9; width++) {
            CHECK.due("sample(0, " + width + ", 0)", x.sample(0, width, 0), 31000 + 300 * width);
            CHECK.due("sample(1, " + width + ", 99)", x.sample(1, width, 99), 31000 + 300 * width - 99 * 20);
        }
        for (int width : WRONG_WIDTHS) {
            CHECK.due("sample(0, " + width + ", 0)", x.sample(0, width, 0), BAD_VALUE);
        }
    }

    private static void scatteredLevels() {
        CHECK.sentence("The scattered level at a distance d, from 0 to L - 1, is 30000 + 300 * w + the scatter of the section "
                + "of unit d - the loss up to d.");
        FibreBench highest = new FibreBench();
        highest.begin(1, 1, 2000);
        CHECK.due("the highest", highest.sample(0, 9, 0), 34700);
        FibreBench lowest = Benches.ofLengths(2);
        lowest.setJoint(0, 3000, 0);
        // From side 0 the loss of joint 0 counts at once, from side 1 it lies at the end, behind all units.
        dueFrom(lowest, 0, 1, 0, 27300, 27299, FLOOR);
        dueFrom(lowest, 1, 1, 0, 30300, 30299, FLOOR);
        FibreBench x = Benches.ofLengths(2, 2);
        x.setJoint(1, 1000, 0);
        x.addBend(3, 500);
        dueFrom(x, 0, 1, 0, 30300, 30299, 29298, 28797, FLOOR);
        dueFrom(x, 1, 1, 0, 30300, 29799, 28798, 28797, FLOOR);
    }

    /** From side 0 the level is 4702 + 300 * w at 200 and falls by 1 with each unit from there on. */
    private static FibreBench downToTheFloor() {
        return Benches.downToTheFloor(200);
    }

    private static void floor() {
        CHECK.sentence("The floor is 5000.");
        dueFrom(downToTheFloor(), 0, 1, 199, 30300 - 199 * 60 - 13098, 5002, 5001, 5000, 5000, 5000);
        dueFrom(downToTheFloor(), 0, 2, 298, 5204, 5203, 5000, 5000);
        dueFrom(downToTheFloor(), 0, 1, 400, 5000);
    }

    private static void heightsOfJoints() {
        CHECK.sentence("Reflectors are the joints with a height above 0 whose distance is less than E");
        FibreBench x = Benches.ofLengths(10, 10);
        x.setJoint(1, 0, 0);
        dueFrom(x, 0, 1, 9, 30291, 30290, 30289);
        dueFrom(x, 1, 1, 9, 30291, 30290, 30289);
        x.setJoint(1, 0, 1);
        dueFrom(x, 0, 1, 9, 30291, 30292, 30289);
        dueFrom(x, 1, 1, 9, 30291, 30292, 30289);
        x.setJoint(0, 0, 1);
        dueFrom(x, 0, 1, 0, 30301, 30299);
        x.setJoint(2, 0, 1);
        dueFrom(x, 1, 1, 0, 30301, 30299);
    }

    private static void jointsBeforeTheEnd() {
        CHECK.sentence("Reflectors are the joints with a height above 0 whose distance is less than E");
        FibreBench x = Benches.ofLengths(10, 10);
        x.setJoint(1, 0, 900);
        x.setBreak(11, 0);
        dueFrom(x, 0, 1, 9, 30291, 31191, FLOOR);
        dueFrom(x, 1, 1, 8, 30292, FLOOR, FLOOR);
        x.setBreak(10, 0);
        dueFrom(x, 0, 1, 9, 30291, FLOOR, FLOOR);
        dueFrom(x, 1, 1, 9, 30291, FLOOR, FLOOR);
        x.setBreak(9, 0);
        dueFrom(x, 0, 1, 8, 30292, FLOOR, FLOOR);
        dueFrom(x, 1, 1, 9, 30291, 31191, FLOOR);
    }

    private static void reflectorAtTheEnd() {
        CHECK.sentence("and at the distance E, if it has a height above 0, the break, or without a break the joint whose "
                + "distance is L.");
        FibreBench x = Benches.ofLengths(20);
        x.setBreak(5, 1);
        dueFrom(x, 0, 1, 4, 30296, 30297, FLOOR);
        dueFrom(x, 1, 1, 14, 30286, 30287, FLOOR);
        x.setBreak(5, 0);
        dueFrom(x, 0, 1, 4, 30296, FLOOR, FLOOR);
        dueFrom(x, 1, 1, 14, 30286, FLOOR, FLOOR);
        x.setJoint(0, 0, 1);
        x.setJoint(1, 0, 1);
        // With a break the joints at the distance L are not seen.
        dueFrom(x, 0, 1, 19, FLOOR, FLOOR);
        dueFrom(x, 1, 1, 19, FLOOR, FLOOR);
        x.setBreak(0, 0);
        dueFrom(x, 0, 1, 19, 30281, 30282, FLOOR);
        dueFrom(x, 1, 1, 19, 30281, 30282, FLOOR);
        x.setJoint(0, 0, 0);
        x.setJoint(1, 0, 0);
        dueFrom(x, 0, 1, 19, 30281, FLOOR);
        dueFrom(x, 1, 1, 19, 30281, FLOOR);
        // A break at the place of a joint is seen in its stead.
        FibreBench y = Benches.ofLengths(10, 10);
        y.setJoint(1, 0, 900);
        y.setBreak(10, 50);
        dueFrom(y, 0, 1, 9, 30291, 30341, FLOOR);
        dueFrom(y, 1, 1, 9, 30291, 30341, FLOOR);
    }

    private static void levelBefore() {
        CHECK.sentence("The level before a distance x from 1 on is the scattered level at x - 1; before 0 it is the scattered "
                + "level at 0.");
        FibreBench x = Benches.ofLengths(10);
        x.setJoint(0, 100, 500);
        dueFrom(x, 0, 1, 0, 30700, 30199);
        x.setBreak(1, 700);
        dueFrom(x, 0, 1, 0, 30700, 30900, FLOOR);
        FibreBench y = new FibreBench();
        y.begin(1, 1, 0);
        y.addSection(9, 1, 2000);
        y.setJoint(1, 50, 2500);
        // Before 1 neither the scatter of the second section nor the loss of the joint counts.
        dueFrom(y, 0, 1, 0, 30300, 32800, 32248);
        dueFrom(y, 1, 1, 8, 32292, 34792, 33792, 32792, FLOOR);
    }

    private static FibreBench reflectingEnd(int height) {
        FibreBench x = Benches.ofLengths(10);
        x.setJoint(1, 0, height);
        return x;
    }

    private static void pulses() {
        CHECK.sentence("(level before x) + r - 300 * k at the distance x + k, for k from 0 to w - 1");
        for (int width = 1; width <= 9; width++) {
            int before = 30000 + 300 * width - 9;
            int last = 10 + width - 1;
            FibreBench x = reflectingEnd(300 * (width - 1) + 1);
            for (int k = 0; k < width; k++) {
                dueFrom(x, 0, width, 10 + k, before + 300 * (width - 1 - k) + 1);
            }
            dueFrom(x, 0, width, last + 1, FLOOR);
        }
        CHECK.sentence("all this as long as what is added to the level before x is above 0.");
        for (int width = 2; width <= 9; width++) {
            // The last part of the pulse would add 0.
            FibreBench x = reflectingEnd(300 * (width - 1));
            int before = 30000 + 300 * width - 9;
            dueFrom(x, 0, width, 10 + width - 2, before + 300, FLOOR, FLOOR);
        }
        // A pulse that is over long before its width is.
        dueFrom(reflectingEnd(1), 0, 9, 10, 32700 - 9 + 1, FLOOR, FLOOR);
    }

    private static void tails() {
        CHECK.sentence("(level before x) + r - 300 * (w - 1) - 1000 * k at the distance x + w - 1 + k, for k = 1, 2, 3, "
                + "and so on");
        for (int width = 1; width <= 9; width++) {
            int before = 30000 + 300 * width - 9;
            int last = 10 + width - 1;
            int within = 300 * (width - 1);
            dueFrom(reflectingEnd(within + 1000), 0, width, last, before + 1000, FLOOR, FLOOR);
            dueFrom(reflectingEnd(within + 1001), 0, width, last, before + 1001, before + 1, FLOOR);
            dueFrom(reflectingEnd(within + 2000), 0, width, last, before + 2000, before + 1000, FLOOR);
            dueFrom(reflectingEnd(within + 2001), 0, width, last, before + 2001, before + 1001, before + 1, FLOOR);
            dueFrom(reflectingEnd(within + 3001), 0, width, last + 3, before + 1, FLOOR);
        }
    }

    private static void greatestReflections() {
        CHECK.sentence("A joint has a loss from 0 to 3000 and a height from 0 to 9000 (of a reflection; 0 is none)");
        FibreBench x = reflectingEnd(9000);
        int before = 30291;
        dueFrom(x, 0, 1, 10, before + 9000, before + 8000, before + 7000, before + 6000, before + 5000, before + 4000,
                before + 3000, before + 2000, before + 1000, FLOOR);
        // With the width 9 it falls to 6600 within the pulse, and to 600 at the sixth distance behind it.
        dueFrom(x, 0, 9, 18, 32691 + 6600, 32691 + 5600, 32691 + 4600, 32691 + 3600, 32691 + 2600, 32691 + 1600,
                32691 + 600, FLOOR);
    }

    private static FibreBench echoing(int length, int first, int second) {
        FibreBench x = Benches.ofLengths(length);
        x.setJoint(0, 0, first);
        x.setJoint(1, 0, second);
        return x;
    }

    private static void heightsOfGhosts() {
        CHECK.sentence("make a ghost with the height g = r + 2 * s - 12000 - 2 * ((loss up to q) - (loss up to p)), "
                + "if this is above 0");
        // 12000 - 12000 - 2 * 40 and the height of joint 0.
        dueFrom(echoing(40, 80, 6000), 0, 1, 79, FLOOR, FLOOR, FLOOR);
        dueFrom(echoing(40, 81, 6000), 0, 1, 79, FLOOR, 30261 + 1, FLOOR);
        // 9000 - 12000 - 2 * 40 and twice the height of joint 1.
        dueFrom(echoing(40, 9000, 1540), 0, 1, 79, FLOOR, FLOOR, FLOOR);
        dueFrom(echoing(40, 9000, 1541), 0, 1, 79, FLOOR, 30261 + 2, FLOOR);
        // From side 1 the heights change places.
        dueFrom(echoing(40, 6000, 80), 1, 1, 79, FLOOR, FLOOR, FLOOR);
        dueFrom(echoing(40, 6000, 81), 1, 1, 79, FLOOR, 30261 + 1, FLOOR);
        // The highest: on the way from 0 to 1 and back only 1 is lost.
        FibreBench highest = echoing(1, 9000, 9000);
        dueFrom(highest, 0, 1, 1, 39300, 30300 + 15000 - 2);
        // Two reflectors, one of which has no height, make none.
        dueFrom(echoing(40, 0, 9000), 0, 1, 79, FLOOR, FLOOR, FLOOR);
        dueFrom(echoing(40, 9000, 0), 0, 1, 79, FLOOR, FLOOR, FLOOR);
    }

    private static void lossesOfGhosts() {
        CHECK.sentence("2 * ((loss up to q) - (loss up to p))");
        FibreBench x = echoing(40, 9000, 6000);
        dueFrom(x, 0, 1, 80, 30261 + 9000 - 80);
        // The loss of joint 0 lies before p, and lowers the level before q alone.
        x.setJoint(0, 100, 9000);
        dueFrom(x, 0, 1, 80, 30161 + 9000 - 80);
        // The loss of joint 1 lies at q: it counts twice, but not in the level before q.
        x.setJoint(0, 0, 9000);
        x.setJoint(1, 100, 6000);
        dueFrom(x, 0, 1, 80, 30261 + 9000 - 280);
        // A loss between them counts twice, and in the level.
        x.setJoint(1, 0, 6000);
        x.addBend(20, 100);
        dueFrom(x, 0, 1, 80, 30161 + 9000 - 280);
        // So much is lost that nothing is left of it.
        x.removeBend(0);
        x.addBend(20, 3000);
        x.addBend(20, 1460);
        dueFrom(x, 0, 1, 80, FLOOR);
        x.removeBend(1);
        x.addBend(20, 1459);
        dueFrom(x, 0, 1, 80, 30261 - 4459 + 2);
    }

    private static void eachTwoReflectors() {
        CHECK.sentence("Each two reflectors with the distances p and q, p less than q, and the heights r and s (of p and q)");
        FibreBench x = Benches.ofLengths(20, 30);
        for (int joint = 0; joint <= 2; joint++) {
            x.setJoint(joint, 0, 9000);
        }
        dueFrom(x, 0, 1, 40, 30281 + 15000 - 40);
        dueFrom(x, 0, 1, 79, FLOOR, 30251 + 15000 - 60, FLOOR);
        dueFrom(x, 0, 1, 99, FLOOR, 30251 + 15000 - 100, FLOOR);
        // One reflector alone makes none.
        x.setJoint(0, 0, 0);
        x.setJoint(1, 0, 0);
        for (int d = 59; d <= 400; d++) {
            dueFrom(x, 0, 1, d, FLOOR);
        }
    }

    private static void pulsesOfGhosts() {
        CHECK.sentence("it adds the level (level before q) + g - 300 * k at the distance 2 * q - p + k, for k from 0 to w - 1, "
                + "as long as what is added to the level before q is above 0.");
        for (int width = 1; width <= 9; width++) {
            int before = 30000 + 300 * width - 39;
            int within = 300 * (width - 1);
            int last = 80 + width - 1;
            // There is no tail behind the pulse, however high the ghost is.
            FibreBench x = echoing(40, 80 + 5000, 6000);
            dueFrom(x, 0, width, 79, FLOOR, before + 5000);
            dueFrom(x, 0, width, last, before + 5000 - within, FLOOR, FLOOR);
            dueFrom(echoing(40, 80 + within + 1, 6000), 0, width, last, before + 1, FLOOR);
            if (width > 1) {
                dueFrom(echoing(40, 80 + within, 6000), 0, width, last - 1, before + 300, FLOOR, FLOOR);
            }
        }
        dueFrom(echoing(40, 80 + 1, 6000), 0, 9, 79, FLOOR, 32661 + 1, FLOOR);
    }

    /** Ghosts of all pairs of reflectors at the first and the last joint but one. */
    private static FibreBench echoingFarOut(int... lengths) {
        FibreBench x = Benches.ofLengths(lengths);
        x.setJoint(1, 0, 9000);
        x.setJoint(lengths.length, 0, 9000);
        return x;
    }

    private static void lastDistance() {
        CHECK.sentence("The trace has a sample at each distance from 0 to 400");
        // 2 * 200 - 1 is 399, 2 * 201 - 2 is 400, 2 * 201 - 1 is 401.
        FibreBench at399 = echoingFarOut(1, 99, 100);
        dueFrom(at399, 0, 1, 398, FLOOR, 30101 + 15000 - 398, FLOOR);
        dueFrom(at399, 0, 2, 398, FLOOR, 30401 + 15000 - 398, 30401 + 14700 - 398);
        dueFrom(at399, 0, 9, 399, 32501 + 15000 - 398, 32501 + 14700 - 398);
        FibreBench at400 = echoingFarOut(2, 99, 100);
        dueFrom(at400, 0, 1, 398, FLOOR, FLOOR, 30100 + 15000 - 398);
        dueFrom(at400, 0, 9, 398, FLOOR, FLOOR, 32500 + 15000 - 398);
        FibreBench at401 = echoingFarOut(1, 100, 100);
        dueFrom(at401, 0, 1, 398, FLOOR, FLOOR, FLOOR);
        dueFrom(at401, 0, 9, 398, FLOOR, FLOOR, FLOOR);
        // The farthest that there is, at 600.
        FibreBench farthest = Benches.longest();
        farthest.setJoint(0, 0, 9000);
        farthest.setJoint(3, 0, 9000);
        dueFrom(farthest, 0, 9, 400, FLOOR);
        for (int d : WRONG_DISTANCES) {
            CHECK.due("sample(0, 9, " + d + ")", farthest.sample(0, 9, d), BAD_VALUE);
        }
    }

    private static void greatestOfAll() {
        CHECK.sentence("the greatest of the floor, the scattered level there (if the distance is less than E), and all levels "
                + "that reflectors and ghosts add there.");
        FibreBench bright = new FibreBench();
        bright.begin(10, 1, 0);
        bright.addSection(10, 1, 2000);
        // The second section scatters 32290 at 10, and 30291 + 1999 is as much.
        bright.setJoint(1, 0, 1998);
        dueFrom(bright, 0, 1, 9, 30291, 32290, 32289);
        bright.setJoint(1, 0, 2000);
        dueFrom(bright, 0, 1, 9, 30291, 32291, 32289);
        FibreBench two = Benches.ofLengths(10, 2, 10);
        two.setJoint(1, 0, 9000);
        two.setJoint(2, 0, 7001);
        // The tail of the first is 30291 + 7000 at 12; the second begins at 30289 there.
        dueFrom(two, 0, 1, 12, 37291, 36291);
        two.setJoint(2, 0, 7003);
        dueFrom(two, 0, 1, 12, 37292, 36292);
        // A ghost within the fibre, below and above the scattered level.
        FibreBench ghost = Benches.ofLengths(10, 30);
        ghost.setJoint(0, 0, 9000);
        ghost.setJoint(1, 0, 1510);
        dueFrom(ghost, 0, 1, 19, 30281, 30280, 30279);
        ghost.setJoint(1, 0, 1511);
        dueFrom(ghost, 0, 1, 19, 30281, 30291 + 2, 30279);
        // Reflections sink below the floor, and are not seen there.
        FibreBench deep = downToTheFloor();
        deep.setJoint(3, 0, 97);
        dueFrom(deep, 0, 1, 299, FLOOR, FLOOR, FLOOR);
        deep.setJoint(3, 0, 98);
        // The level before 300 is 4903, below the floor, and the reflection adds to that one.
        dueFrom(deep, 0, 1, 299, FLOOR, 5001, FLOOR);
    }

    // ---- Promises 15 to 19

    private static void samples() {
        CHECK.sentence("- `d`: the distance, 0 to 400");
        FibreBench x = new FibreBench();
        CHECK.due("sample(0, 1, 0)", x.sample(0, 1, 0), 31300);
        CHECK.due("sample(1, 9, 400)", x.sample(1, 9, 400), FLOOR);
        for (int d : WRONG_DISTANCES) {
            CHECK.due("sample(1, 9, " + d + ")", x.sample(1, 9, d), BAD_VALUE);
        }
        CHECK.sentence("---- Traces (side 0 or 1, width 1 to 9).");
        for (int side : WRONG_SIDES) {
            CHECK.due("sample(" + side + ", 1, 0)", x.sample(side, 1, 0), BAD_VALUE);
        }
    }

    private static void meanLoss() {
        CHECK.sentence("the sample at a minus the sample at b, divided by b minus a, both converted to float.");
        FibreBench x = new FibreBench();
        CHECK.dueFloat("the least a and b", x.meanLoss(0, 1, 0, 1), 20f);
        CHECK.dueFloat("the greatest a and b", x.meanLoss(1, 9, 399, 400), 0f);
        CHECK.dueFloat("all", x.meanLoss(0, 1, 0, 400), 26300f / 400f);
        CHECK.dueFloat("all but one", x.meanLoss(0, 1, 0, 399), 26300f / 399f);
        CHECK.dueFloat("a third", x.meanLoss(0, 1, 98, 101), 24340f / 3f);
        x.setJoint(1, 0, 9000);
        CHECK.dueFloat("a gain", x.meanLoss(0, 1, 97, 100), (29360f - 29320f - 9000f) / 3f);
    }

    private static void wrongMeanLoss() {
        CHECK.sentence("- `b`: a distance, greater than a, up to 400");
        FibreBench x = new FibreBench();
        float bad = BAD_VALUE;
        for (int a : new int[] {0, 1, 200, 400}) {
            CHECK.dueFloat("b is a", x.meanLoss(0, 1, a, a), bad);
            CHECK.dueFloat("b is less", x.meanLoss(0, 1, a, a - 1), bad);
        }
        CHECK.dueFloat("b is 401", x.meanLoss(0, 1, 400, 401), bad);
        CHECK.dueFloat("b is 401", x.meanLoss(0, 1, 0, 401), bad);
        CHECK.dueFloat("b is wild", x.meanLoss(0, 1, 0, HIGH), bad);
        CHECK.sentence("- `a`: a distance, 0 to 400");
        CHECK.dueFloat("a is -1", x.meanLoss(0, 1, -1, 0), bad);
        CHECK.dueFloat("a is wild", x.meanLoss(0, 1, LOW, 400), bad);
        CHECK.dueFloat("a is 401", x.meanLoss(0, 1, 401, 402), bad);
        CHECK.sentence("Returns this mean; BAD_VALUE as a float.");
        CHECK.dueFloat("as a float", x.meanLoss(2, 1, 0, 1), -1000002f);
        CHECK.dueFloat("as a float", x.meanLoss(0, 10, 0, 1), -1000002f);
        CHECK.dueFloat("as a float", x.meanLoss(-1, 1, 0, 1), -1000002f);
        CHECK.dueFloat("as a float", x.meanLoss(0, 0, 0, 1), -1000002f);
    }

    private static void visible() {
        CHECK.sentence("the number of its samples, from distance 0 on, that are above the floor");
        // 5001 at 201 is above the floor, 5000 at 202 is not.
        CHECK.due("to the floor", downToTheFloor().visible(0, 1), 202);
        CHECK.due("to the end", downToTheFloor().visible(0, 2), 300);
        CHECK.due("the shortest fibre", Benches.shortest().visible(0, 1), 1);
        CHECK.due("the longest fibre", Benches.longest().visible(1, 9), 300);
        FibreBench broken = Benches.longest();
        broken.setBreak(1, 0);
        CHECK.due("broken at once", broken.visible(0, 9), 1);
        CHECK.due("broken at once, from the other side", broken.visible(1, 9), 299);
        for (int side : WRONG_SIDES) {
            CHECK.due("visible(" + side + ", 1)", broken.visible(side, 1), BAD_VALUE);
        }
        for (int width : WRONG_WIDTHS) {
            CHECK.due("visible(0, " + width + ")", broken.visible(0, width), BAD_VALUE);
        }
    }

    private static void visibleUpToAGap() {
        CHECK.sentence("up to the first one that is not.");
        // From 40 to 48 the end reflects, at 49 is nothing, and at 80 there is a ghost.
        FibreBench x = echoing(40, 9000, 9000);
        CHECK.due("a sample behind the gap", x.sample(0, 1, 80), 30261 + 14920);
        CHECK.due("visible(0, 1)", x.visible(0, 1), 49);
    }

    private static void visibleToTheLastDistance() {
        CHECK.sentence("Returns this number, 0 to 401; BAD_VALUE.");
        // Ghosts with the width 9 follow each other from the end at 300 to 400; the last one, of 90 and 242, begins at
        // 394 with 9000 + 2 * height - 12000 - 2 * 152, and adds 1800 less than that at 400.
        FibreBench x = Benches.ofLengths(90, 69, 10, 46, 18, 9, 8, 50);
        for (int joint = 0; joint <= 8; joint++) {
            x.setJoint(joint, 0, 9000);
        }
        CHECK.due("all samples", x.visible(0, 9), 401);
        x.setJoint(6, 0, 2553);
        CHECK.due("sample(0, 9, 400)", x.sample(0, 9, 400), 32700 - 241 + 2);
        CHECK.due("all samples", x.visible(0, 9), 401);
        x.setJoint(6, 0, 2552);
        CHECK.due("sample(0, 9, 399)", x.sample(0, 9, 399), 32700 - 241 + 300);
        CHECK.due("sample(0, 9, 400)", x.sample(0, 9, 400), FLOOR);
        CHECK.due("all but one", x.visible(0, 9), 400);
    }

    private static void stitchedMargin() {
        CHECK.sentence("the first one is taken whose sample at this distance is at least the floor plus the margin");
        FibreBench x = downToTheFloor();
        // At 201 the samples are 5001, 5601 and 7401, at 202 they are 5000, 5600 and 7400.
        int[][] due = {{0, 4701, 4700}, {1, 4701, 4700}, {2, 4701, 4700}, {600, 4701, 4700}, {601, 4701, 4700},
            {602, 4701, 4700}, {2400, 4701, 4700}, {2401, 4701, NONE}, {2402, NONE, NONE}, {9000, NONE, NONE}};
        for (int[] row : due) {
            x.set(3, row[0]);
            CHECK.due("stitched(0, 201) with the margin " + row[0], x.stitched(0, 201), row[1]);
            CHECK.due("stitched(0, 202) with the margin " + row[0], x.stitched(0, 202), row[2]);
        }
        x.set(3, 0);
        CHECK.due("the floor itself", x.stitched(0, 400), 4700);
        x.set(3, 1);
        CHECK.due("the floor is too low", x.stitched(0, 400), NONE);
        CHECK.due("the floor is too low", x.stitched(0, 300), NONE);
        for (int side : WRONG_SIDES) {
            CHECK.due("stitched(" + side + ", 0)", x.stitched(side, 0), BAD_VALUE);
        }
        for (int d : WRONG_DISTANCES) {
            CHECK.due("stitched(0, " + d + ")", x.stitched(0, d), BAD_VALUE);
        }
    }

    private static void stitchedWidths() {
        CHECK.sentence("of the widths 1, 3 and 9, in this order");
        // Behind the end at 10 the widths tell different levels: with the least margin it is seen which one was taken.
        FibreBench x = reflectingEnd(2000);
        x.set(3, 1);
        int[] added = {2000, 1000, 1400, 400, 800, 500, 200};
        for (int k = 0; k < added.length; k++) {
            CHECK.due("stitched(0, " + (10 + k) + ")", x.stitched(0, 10 + k), 30000 - 9 + added[k]);
        }
        CHECK.due("stitched(0, 17)", x.stitched(0, 17), NONE);
        CHECK.sentence("the result is this sample minus 300 times the width.");
        FibreBench highest = new FibreBench();
        highest.begin(1, 1, 2000);
        highest.setJoint(0, 0, 9000);
        highest.setJoint(1, 0, 9000);
        CHECK.due("stitched(0, 0)", highest.stitched(0, 0), 41000);
        // The ghost at 2 is seen with the width 1 already.
        CHECK.due("stitched(0, 2)", highest.stitched(0, 2), 32000 + 15000 - 2);
        CHECK.due("stitched(1, 2)", highest.stitched(1, 2), 32000 + 15000 - 2);
    }

    private static void stitchedCount() {
        CHECK.sentence("Returns the number of distances, from 0 to 400, at which the stitched trace has a sample; BAD_VALUE.");
        FibreBench x = downToTheFloor();
        int[][] due = {{0, 401}, {1, 300}, {2302, 300}, {2303, 300}, {2304, 299}, {2400, 203}, {2401, 202}, {2402, 201}};
        for (int[] row : due) {
            x.set(3, row[0]);
            CHECK.due("stitchedCount(0) with the margin " + row[0], x.stitchedCount(0), row[1]);
        }
        FibreBench least = Benches.shortest();
        least.set(3, 9000);
        CHECK.due("the fewest", least.stitchedCount(0), 1);
        FibreBench last = echoingFarOut(2, 99, 100);
        // The 201 units, the end's pulse with the width 9, its tail, and the ghost at 400.
        CHECK.due("with a sample at 400", last.stitchedCount(0), 201 + 9 + 6 + 1);
        for (int side : WRONG_SIDES) {
            CHECK.due("stitchedCount(" + side + ")", last.stitchedCount(side), BAD_VALUE);
        }
    }
}
