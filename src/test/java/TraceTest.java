/** Promises 15 to 19: traces, seen from both sides, and the stitched one. */
public final class TraceTest {
    private static final int BAD_VALUE = FibreBench.BAD_VALUE;
    private static final int NONE = FibreBench.NONE;
    private static final int FLOOR = 5000;
    private static final int[] WRONG_SIDES = {-1, 2, Integer.MIN_VALUE, Integer.MAX_VALUE};
    private static final int[] WRONG_WIDTHS = {0, 10, -1, Integer.MIN_VALUE, Integer.MAX_VALUE};
    private static final int[] WRONG_DISTANCES = {-1, 401, Integer.MIN_VALUE, Integer.MAX_VALUE};
    private static final Check CHECK = new Check();

    public static void main(String[] args) {
        scatteredLevels();
        reflections();
        reflectorsAtTheEnd();
        ghosts();
        ghostsFarOut();
        breaks();
        wrongSamples();
        meanLoss();
        visible();
        stitched();
        stitchedCount();
        tracesAfterChanges();
        CHECK.end();
    }

    private static void dueFrom(FibreBench x, int side, int width, int first, int... levels) {
        for (int i = 0; i < levels.length; i++) {
            int d = first + i;
            CHECK.due("sample(" + side + ", " + width + ", " + d + ")", x.sample(side, width, d), levels[i]);
        }
    }

    private static void scatteredLevels() {
        CHECK.promise(15, "sample: scattered levels");
        FibreBench x = new FibreBench();
        x.begin(3, 10, 500);
        x.addSection(2, 20, 700);
        x.setJoint(0, 1, 0);
        x.setJoint(1, 2, 0);
        x.setJoint(2, 4, 0);
        x.addBend(4, 8);
        dueFrom(x, 0, 1, 0, 30799, 30789, 30779, 30967, 30939, FLOOR, FLOOR);
        dueFrom(x, 1, 1, 0, 30996, 30968, 30746, 30736, 30726, FLOOR, FLOOR);
        dueFrom(x, 0, 9, 0, 33199, 33189, 33179, 33367, 33339, FLOOR);
        dueFrom(x, 0, 1, 400, FLOOR);
        FibreBench deep = new FibreBench();
        deep.begin(100, 60, 0);
        deep.addSection(100, 60, 0);
        deep.addSection(100, 60, 0);
        deep.addBend(1, 3000);
        deep.addBend(1, 3000);
        deep.addBend(1, 1300);
        // 30300 - 7300 - 60 * d is 5000 at 300, and 5060 at 299.
        dueFrom(deep, 0, 1, 298, 5120, 5060, FLOOR);
        deep.addBend(2, 3000);
        dueFrom(deep, 0, 1, 249, 5060, FLOOR, FLOOR);
    }

    private static void reflections() {
        CHECK.promise(15, "sample: reflections");
        FibreBench x = new FibreBench();
        x.begin(10, 10, 500);
        x.setJoint(1, 0, 2000);
        // The level before 10 is 30000 + 300 * w + 500 - 90.
        dueFrom(x, 0, 1, 9, 30710, 32710, 31710, FLOOR, FLOOR);
        dueFrom(x, 0, 3, 9, 31310, 33310, 33010, 32710, 31710, FLOOR);
        dueFrom(x, 0, 9, 9, 33110, 35110, 34810, 34510, 34210, 33910, 33610, 33310, FLOOR);
        x.setJoint(1, 0, 600);
        dueFrom(x, 0, 3, 9, 31310, 31910, 31610, FLOOR, FLOOR);
        x.setJoint(1, 0, 601);
        dueFrom(x, 0, 3, 9, 31310, 31911, 31611, 31311, FLOOR);
        x.setJoint(1, 0, 1600);
        dueFrom(x, 0, 3, 12, 32310, FLOOR);
        x.setJoint(1, 0, 1601);
        dueFrom(x, 0, 3, 12, 32311, 31311, FLOOR);
        x.setJoint(1, 0, 1);
        dueFrom(x, 0, 1, 9, 30710, 30711, FLOOR);
        // At the distance 0 the level before is the scattered one at 0, with the joint's loss.
        x.begin(10, 10, 500);
        x.setJoint(0, 100, 2000);
        dueFrom(x, 0, 1, 0, 32700, 31700, 30680, 30670);
        // From the other side this joint is the end, and its loss lies behind all levels.
        dueFrom(x, 1, 1, 9, 30710, 32710, 31710, FLOOR);
        // A loss and a scatter at the reflector itself count only from there on.
        x.begin(2, 10, 0);
        x.addSection(8, 10, 1000);
        x.setJoint(1, 500, 1500);
        dueFrom(x, 0, 1, 0, 30300, 30290, 31790, 30790, 30760, 30750);
        dueFrom(x, 1, 1, 6, 31240, 31230, 32730, 31730, FLOOR);
    }

    private static void reflectorsAtTheEnd() {
        CHECK.promise(15, "sample: reflectors at the end");
        FibreBench x = new FibreBench();
        x.begin(5, 10, 0);
        x.addSection(5, 10, 0);
        x.setJoint(0, 0, 500);
        x.setJoint(1, 0, 600);
        x.setJoint(2, 0, 700);
        dueFrom(x, 0, 1, 0, 30800, 30290, 30280, 30270, 30260, 30860, 30240, 30230, 30220, 30210, 30910, FLOOR);
        dueFrom(x, 1, 1, 0, 31000, 30290, 30280, 30270, 30260, 30860, 30240, 30230, 30220, 30210, 30710, FLOOR);
        // A break at the place of a joint takes its place, with its own height or none.
        x.setBreak(5, 0);
        dueFrom(x, 0, 1, 4, 30260, FLOOR, FLOOR);
        dueFrom(x, 1, 1, 0, 31000, 30290, 30280, 30270, 30260, FLOOR, FLOOR);
        x.setBreak(5, 250);
        dueFrom(x, 0, 1, 4, 30260, 30510, FLOOR);
        dueFrom(x, 1, 1, 4, 30260, 30510, FLOOR);
        // Joints behind the break are not seen.
        x.setBreak(7, 250);
        dueFrom(x, 0, 1, 4, 30260, 30860, 30240, 30490, FLOOR, FLOOR, FLOOR);
        dueFrom(x, 1, 1, 0, 31000, 30290, 30280, 30530, FLOOR, FLOOR);
    }

    private static void ghosts() {
        CHECK.promise(15, "sample: ghosts");
        FibreBench x = new FibreBench();
        x.begin(10, 1, 0);
        x.setJoint(0, 0, 21);
        x.setJoint(1, 0, 6000);
        // 21 + 12000 - 12000 - 2 * 10 is 1, above the level before 10, which is 30291.
        dueFrom(x, 0, 1, 15, 31291, FLOOR, FLOOR, FLOOR, FLOOR, 30292, FLOOR);
        x.setJoint(0, 0, 20);
        dueFrom(x, 0, 1, 19, FLOOR, FLOOR, FLOOR);
        // The loss of joint 1 counts, the one of joint 0 does not.
        x.setJoint(0, 50, 621);
        x.setJoint(1, 100, 6000);
        dueFrom(x, 0, 1, 19, FLOOR, 30241 + 401, FLOOR);
        // From the other side: 6000 + 2 * 621 is not enough.
        dueFrom(x, 1, 1, 19, FLOOR, FLOOR, FLOOR);
        // With a width of 9 the tail of the reflection hides it; the level before 10 is 32641.
        dueFrom(x, 0, 9, 19, 32641 + 2600, 32641 + 1600, 32641 + 600, FLOOR);
        x.setJoint(0, 0, 9000);
        x.setJoint(1, 0, 9000);
        // 9000 + 18000 - 12000 - 20 is 14980.
        dueFrom(x, 0, 2, 18, 32291, 31291, 45571, 45271, FLOOR);
        x.begin(40, 1, 0);
        x.setJoint(0, 0, 481);
        x.setJoint(1, 0, 6000);
        // 481 - 2 * 40 is 401: it falls by 300 while it is above 0, and has no tail.
        dueFrom(x, 0, 9, 79, FLOOR, 32661 + 401, 32661 + 101, FLOOR, FLOOR);
        dueFrom(x, 0, 1, 79, FLOOR, 30261 + 401, FLOOR, FLOOR);
    }

    private static void ghostsFarOut() {
        CHECK.promise(15, "sample: ghosts far out");
        FibreBench x = new FibreBench();
        x.begin(100, 1, 0);
        x.addSection(100, 1, 0);
        x.addSection(100, 1, 0);
        x.setJoint(0, 0, 9000);
        x.setJoint(2, 0, 9000);
        // The ghost at 2 * 200 - 0: 9000 + 18000 - 12000 - 400 above 30300 - 199.
        dueFrom(x, 0, 1, 399, FLOOR, 44701);
        dueFrom(x, 0, 9, 399, FLOOR, 47101);
        x.setJoint(3, 0, 9000);
        // Of 0 and 300 it would be at 600; of 200 and 300 it is at 400: 15000 - 200 above 30300 - 299.
        dueFrom(x, 0, 1, 399, FLOOR, 44801);
    }

    private static void breaks() {
        CHECK.promise(15, "sample: breaks");
        FibreBench x = new FibreBench();
        x.begin(10, 10, 500);
        x.setJoint(0, 0, 9000);
        x.setJoint(1, 0, 9000);
        x.setBreak(4, 8000);
        // Ghost of 0 and the break at 8: 9000 + 16000 - 12000 - 80 above 30770.
        dueFrom(x, 0, 1, 0, 39800, 38800, 37800, 36800, 38770, 37770, 36770, 35770, 43690, 33770, 32770, 31770, FLOOR);
        x.setBreak(1, 500);
        dueFrom(x, 0, 1, 0, 39800, 38800, 37800);
        dueFrom(x, 1, 1, 8, 31800, 30800 - 80 + 500, FLOOR);
        x.setBreak(9, 8000);
        // From side 1 the break is at 1; the ghost of 0 and 1 at 2: 13000 - 20 above 30800.
        dueFrom(x, 1, 1, 0, 39800, 38800, 43780, 36800, 35800, 34800, 33800, 32800, 31800, FLOOR);
    }

    private static void wrongSamples() {
        CHECK.promise(15, "sample: wrong arguments");
        FibreBench x = new FibreBench();
        for (int side : WRONG_SIDES) {
            CHECK.due("sample(" + side + ", 1, 0)", x.sample(side, 1, 0), BAD_VALUE);
        }
        for (int width : WRONG_WIDTHS) {
            CHECK.due("sample(0, " + width + ", 0)", x.sample(0, width, 0), BAD_VALUE);
        }
        for (int d : WRONG_DISTANCES) {
            CHECK.due("sample(0, 1, " + d + ")", x.sample(0, 1, d), BAD_VALUE);
        }
    }

    private static void meanLoss() {
        CHECK.promise(16, "meanLoss");
        FibreBench x = new FibreBench();
        x.begin(100, 10, 0);
        x.addBend(2, 1);
        CHECK.dueFloat("meanLoss(0, 1, 0, 3)", x.meanLoss(0, 1, 0, 3), 31f / 3f);
        CHECK.dueFloat("meanLoss(0, 9, 0, 3)", x.meanLoss(0, 9, 0, 3), 31f / 3f);
        CHECK.dueFloat("meanLoss(1, 1, 0, 3)", x.meanLoss(1, 1, 0, 3), 10f);
        CHECK.dueFloat("meanLoss(0, 1, 0, 400)", x.meanLoss(0, 1, 0, 400), 25300f / 400f);
        CHECK.dueFloat("meanLoss(0, 1, 399, 400)", x.meanLoss(0, 1, 399, 400), 0f);
        x.setJoint(1, 0, 4000);
        CHECK.dueFloat("a gain", x.meanLoss(0, 1, 93, 100), (float) (29369 - 33309) / 7f);
        float bad = BAD_VALUE;
        CHECK.dueFloat("b is a", x.meanLoss(0, 1, 3, 3), bad);
        CHECK.dueFloat("b is less than a", x.meanLoss(0, 1, 3, 2), bad);
        for (int side : WRONG_SIDES) {
            CHECK.dueFloat("meanLoss(" + side + ", 1, 0, 1)", x.meanLoss(side, 1, 0, 1), bad);
        }
        for (int width : WRONG_WIDTHS) {
            CHECK.dueFloat("meanLoss(0, " + width + ", 0, 1)", x.meanLoss(0, width, 0, 1), bad);
        }
        for (int d : WRONG_DISTANCES) {
            CHECK.dueFloat("meanLoss(0, 1, " + d + ", 400)", x.meanLoss(0, 1, d, 400), bad);
            CHECK.dueFloat("meanLoss(0, 1, 0, " + d + ")", x.meanLoss(0, 1, 0, d), bad);
        }
        CHECK.dueFloat("meanLoss(0, 1, 400, 401)", x.meanLoss(0, 1, 400, 401), bad);
    }

    private static void visible() {
        CHECK.promise(17, "visible");
        FibreBench x = Benches.steepest();
        CHECK.due("to the end", x.visible(0, 1), 300);
        x.addBend(1, 3000);
        x.addBend(1, 3000);
        x.addBend(1, 3000);
        x.addBend(1, 400);
        // 30300 - 9400 - 60 * d is 5000 at 265, which is not above the floor.
        CHECK.due("to the floor itself", x.visible(0, 1), 265);
        CHECK.due("with more light", x.visible(0, 3), 275);
        CHECK.due("from the other side", x.visible(1, 1), 299);
        x.begin(10, 1, 0);
        x.setJoint(0, 0, 9000);
        x.setJoint(1, 0, 2500);
        CHECK.due("with the end's reflection", x.visible(0, 1), 13);
        CHECK.due("with a wide pulse", x.visible(0, 9), 19);
        // From side 1 the end has the height 9000, and no ghost is strong enough, but for 2500 + 18000 - 12020.
        CHECK.due("from side 1", x.visible(1, 1), 19);
        CHECK.due("the ghost lies behind a gap", x.sample(1, 1, 20), 30291 + 8480);
        CHECK.due("with the ghost in the tail", x.visible(1, 4), 24);
        for (int side : WRONG_SIDES) {
            CHECK.due("visible(" + side + ", 1)", x.visible(side, 1), BAD_VALUE);
        }
        for (int width : WRONG_WIDTHS) {
            CHECK.due("visible(0, " + width + ")", x.visible(0, width), BAD_VALUE);
        }
    }

    /** 30000 - 8700 - 60 * d, plus 300 for each unit of width, from side 0 at the distance 1 and on. */
    private static FibreBench steep() {
        FibreBench x = Benches.steepest();
        x.addBend(1, 3000);
        x.addBend(1, 3000);
        x.addBend(1, 2700);
        return x;
    }

    private static void stitched() {
        CHECK.promise(18, "stitched");
        FibreBench x = steep();
        // The level is 6000 at 260 with the width 1, at 270 with 3, and at 300 with 9.
        CHECK.due("stitched(0, 0)", x.stitched(0, 0), 30000);
        CHECK.due("stitched(0, 260)", x.stitched(0, 260), 5700);
        CHECK.due("stitched(0, 261)", x.stitched(0, 261), 5640);
        CHECK.due("stitched(0, 270)", x.stitched(0, 270), 5100);
        CHECK.due("stitched(0, 271)", x.stitched(0, 271), 5040);
        CHECK.due("stitched(0, 299)", x.stitched(0, 299), 3360);
        CHECK.due("stitched(0, 300)", x.stitched(0, 300), NONE);
        CHECK.due("stitched(0, 400)", x.stitched(0, 400), NONE);
        CHECK.due("stitched(1, 299)", x.stitched(1, 299), 30000 + 2700 - 8700 - 299 * 60 - 2700);
        x.setJoint(3, 0, 2000);
        // The reflection at 300 is told as the first width tells it that is bright enough.
        CHECK.due("stitched(0, 300)", x.stitched(0, 300), 30300 - 8700 - 299 * 60 + 2000 - 300);
        CHECK.due("stitched(0, 301)", x.stitched(0, 301), 30900 - 8700 - 299 * 60 + 1700 - 900);
        x.begin(10, 1, 0);
        x.setJoint(1, 0, 2000);
        // At 11 the width 1 is bright, at 12 and 13 the width 3, from 14 on the width 9 alone.
        int[] added = {2000, 1000, 1400, 400, 800, 500, 200};
        for (int k = 0; k < added.length; k++) {
            CHECK.due("stitched(0, " + (10 + k) + ")", x.stitched(0, 10 + k), 30000 - 9 + added[k]);
        }
        CHECK.due("stitched(0, 17)", x.stitched(0, 17), NONE);
        x.undo();
        x.undo();
        x.set(3, 0);
        CHECK.due("with no margin the floor will do", x.stitched(0, 400), 4700);
        x.set(3, 9000);
        CHECK.due("stitched(0, 126)", x.stitched(0, 126), 30000 - 8700 - 60 * 126);
        CHECK.due("stitched(0, 127)", x.stitched(0, 127), 30000 - 8700 - 60 * 127);
        for (int side : WRONG_SIDES) {
            CHECK.due("stitched(" + side + ", 0)", x.stitched(side, 0), BAD_VALUE);
        }
        for (int d : WRONG_DISTANCES) {
            CHECK.due("stitched(0, " + d + ")", x.stitched(0, d), BAD_VALUE);
        }
    }

    private static void stitchedCount() {
        CHECK.promise(19, "stitchedCount");
        FibreBench x = steep();
        CHECK.due("stitchedCount(0)", x.stitchedCount(0), 300);
        x.set(3, 1001);
        // With the width 9 the level is 6060 at 299 and 6000 at 300, but 300 is the end.
        CHECK.due("stitchedCount(0)", x.stitchedCount(0), 300);
        x.set(3, 1061);
        CHECK.due("stitchedCount(0)", x.stitchedCount(0), 299);
        x.set(3, 9000);
        // 24000 - 60 * d is at least 14000 up to 166.
        CHECK.due("stitchedCount(0)", x.stitchedCount(0), 167);
        x.set(3, 0);
        CHECK.due("stitchedCount(0)", x.stitchedCount(0), 401);
        x.begin(1, 1, 0);
        x.set(3, 1);
        CHECK.due("stitchedCount(0)", x.stitchedCount(0), 1);
        x.setJoint(1, 0, 9000);
        CHECK.due("with a wide pulse at the end", x.stitchedCount(0), 1 + 9 + 6);
        CHECK.due("from side 1 the tail of joint 1", x.stitchedCount(1), 9 + 6);
        for (int side : WRONG_SIDES) {
            CHECK.due("stitchedCount(" + side + ")", x.stitchedCount(side), BAD_VALUE);
        }
    }

    private static void tracesAfterChanges() {
        CHECK.promise(15, "sample: behind changes");
        FibreBench x = new FibreBench();
        CHECK.due("sample(0, 4, 10)", x.sample(0, 4, 10), 32000);
        CHECK.due("sample(0, 5, 10)", x.sample(0, 5, 10), 32300);
        CHECK.due("sample(1, 4, 10)", x.sample(1, 4, 10), 32000);
        x.addBend(5, 100);
        CHECK.due("sample(0, 4, 10)", x.sample(0, 4, 10), 31900);
        CHECK.due("sample(1, 4, 10)", x.sample(1, 4, 10), 32000);
        CHECK.due("sample(1, 4, 95)", x.sample(1, 4, 95), 30200);
        x.undo();
        CHECK.due("sample(0, 4, 10)", x.sample(0, 4, 10), 32000);
        CHECK.due("sample(0, 1, 10)", x.sample(0, 1, 10), 31100);
        x.setBreak(10, 0);
        CHECK.due("sample(0, 1, 10)", x.sample(0, 1, 10), FLOOR);
        x.setBreak(0, 0);
        CHECK.due("sample(0, 1, 10)", x.sample(0, 1, 10), 31100);
    }
}
