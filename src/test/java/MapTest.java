/** Promises 26 to 32: the map, and what is placed on it. */
public final class MapTest {
    private static final int BAD_NUMBER = FibreBench.BAD_NUMBER;
    private static final int BAD_VALUE = FibreBench.BAD_VALUE;
    private static final int FULL = FibreBench.FULL;
    private static final int NOT_POSSIBLE = FibreBench.NOT_POSSIBLE;
    private static final int NONE = FibreBench.NONE;
    private static final int LOW = Integer.MIN_VALUE;
    private static final int HIGH = Integer.MAX_VALUE;
    private static final Check CHECK = new Check();

    public static void main(String[] args) {
        addPoint();
        clearMap();
        setExcess();
        point();
        toRoute();
        toRouteOfLongest();
        pointBefore();
        placed();
        placedNowhere();
        placedBeyondTheFibre();
        placedBehindTheLastReflection();
        CHECK.end();
    }

    private static void addPoint() {
        CHECK.promise(26, "addPoint");
        FibreBench x = new FibreBench();
        int[][] wrong = {{-1, 0}, {10000, 0}, {0, -1}, {0, 100}, {LOW, 0}, {HIGH, 0}, {0, LOW}, {0, HIGH}};
        for (int[] w : wrong) {
            CHECK.due("addPoint with a wrong value", x.addPoint(w[0], w[1]), BAD_VALUE);
        }
        CHECK.due("told(5)", x.told(5), 0);
        CHECK.due("addPoint(0, 99)", x.addPoint(0, 99), 0);
        CHECK.due("the same position", x.addPoint(0, 0), NOT_POSSIBLE);
        CHECK.due("BAD_VALUE is named first", x.addPoint(0, 100), BAD_VALUE);
        for (int i = 1; i < 10; i++) {
            CHECK.due("point " + i, x.addPoint(i * 10, i), i);
            CHECK.due("less than " + i, i == 9 ? NOT_POSSIBLE : x.addPoint(i * 10 - 1, 0), NOT_POSSIBLE);
        }
        CHECK.due("an eleventh point", x.addPoint(9999, 0), FULL);
        CHECK.due("FULL is named ahead of NOT_POSSIBLE", x.addPoint(0, 0), FULL);
        CHECK.due("BAD_VALUE is named ahead of FULL", x.addPoint(10000, 0), BAD_VALUE);
        CHECK.due("told(5)", x.told(5), 10);
        CHECK.due("undo()", x.undo(), 7);
        CHECK.due("told(5)", x.told(5), 9);
        CHECK.due("addPoint(9999, 99)", x.addPoint(9999, 99), 9);
        CHECK.due("point(9, 0)", x.point(9, 0), 9999);
    }

    private static void clearMap() {
        CHECK.promise(27, "clearMap");
        FibreBench x = new FibreBench();
        CHECK.due("clearMap() of nothing", x.clearMap(), 0);
        CHECK.due("is a change", x.undo(), 0);
        x.addPoint(5, 1);
        x.addPoint(9, 2);
        x.setExcess(50);
        CHECK.due("clearMap()", x.clearMap(), 2);
        CHECK.due("told(5)", x.told(5), 0);
        CHECK.due("the excess stays", x.told(6), 50);
        CHECK.due("point(0, 0)", x.point(0, 0), BAD_NUMBER);
        CHECK.due("a point at an earlier position", x.addPoint(1, 0), 0);
        x.undo();
        CHECK.due("undo()", x.undo(), 3);
        CHECK.due("told(5)", x.told(5), 2);
        CHECK.due("point(0, 0)", x.point(0, 0), 5);
        CHECK.due("point(0, 1)", x.point(0, 1), 1);
        CHECK.due("point(1, 1)", x.point(1, 1), 2);
        CHECK.due("point(1, 0)", x.point(1, 0), 9);
    }

    private static void setExcess() {
        CHECK.promise(28, "setExcess");
        FibreBench x = new FibreBench();
        CHECK.due("setExcess(0)", x.setExcess(0), 30);
        CHECK.due("setExcess(100)", x.setExcess(100), 0);
        for (int excess : new int[] {-1, 101, LOW, HIGH}) {
            CHECK.due("setExcess(" + excess + ")", x.setExcess(excess), BAD_VALUE);
        }
        CHECK.due("told(6)", x.told(6), 100);
        CHECK.due("undo()", x.undo(), 1);
        CHECK.due("told(6)", x.told(6), 0);
    }

    /** Points at 100, 110 and 1009, with the slacks 5, 0 and 7; the excess is 30. */
    private static FibreBench mapped() {
        FibreBench x = new FibreBench();
        x.addPoint(100, 5);
        x.addPoint(110, 0);
        x.addPoint(1009, 7);
        return x;
    }

    private static void point() {
        CHECK.promise(29, "point");
        FibreBench x = mapped();
        // 10 * 1030 / 1000 is 10, 899 * 1030 / 1000 is 925.
        int[][] due = {{100, 5, 0}, {110, 0, 15}, {1009, 7, 940}};
        for (int point = 0; point < 3; point++) {
            for (int what = 0; what < 3; what++) {
                CHECK.due("point(" + point + ", " + what + ")", x.point(point, what), due[point][what]);
            }
            CHECK.due("point(" + point + ", -1)", x.point(point, -1), BAD_VALUE);
            CHECK.due("point(" + point + ", 3)", x.point(point, 3), BAD_VALUE);
        }
        for (int point : new int[] {-1, 3, LOW, HIGH}) {
            CHECK.due("point(" + point + ", 0)", x.point(point, 0), BAD_NUMBER);
            CHECK.due("BAD_NUMBER is named first", x.point(point, 3), BAD_NUMBER);
        }
        x.setExcess(100);
        CHECK.due("point(1, 2)", x.point(1, 2), 16);
        CHECK.due("point(2, 2)", x.point(2, 2), 16 + 988);
        x.setExcess(0);
        CHECK.due("point(2, 2)", x.point(2, 2), 15 + 899);
    }

    private static void toRoute() {
        CHECK.promise(30, "toRoute");
        FibreBench x = mapped();
        int[][] due = {{0, 100}, {5, 100}, {6, 100}, {7, 101}, {14, 108}, {15, 110}, {16, 110}, {17, 111}, {18, 112},
            {939, 110 + 897}, {940, 1009}, {947, 1009}};
        for (int[] pair : due) {
            CHECK.due("toRoute(" + pair[0] + ")", x.toRoute(pair[0]), pair[1]);
        }
        for (int units : new int[] {948, 100000, HIGH}) {
            CHECK.due("toRoute(" + units + ")", x.toRoute(units), NONE);
        }
        for (int units : new int[] {-1, LOW}) {
            CHECK.due("toRoute(" + units + ")", x.toRoute(units), BAD_VALUE);
        }
        x.clearMap();
        CHECK.due("without points", x.toRoute(0), NONE);
        CHECK.due("BAD_VALUE is named ahead of NONE", x.toRoute(-1), BAD_VALUE);
        x.addPoint(77, 0);
        CHECK.due("one point alone", x.toRoute(0), 77);
        CHECK.due("behind it", x.toRoute(1), NONE);
    }

    private static void toRouteOfLongest() {
        CHECK.promise(30, "toRoute: the longest route");
        FibreBench x = new FibreBench();
        x.setExcess(100);
        x.addPoint(0, 99);
        x.addPoint(9999, 99);
        // 9999 * 1100 / 1000 is 10998.
        CHECK.due("point(1, 2)", x.point(1, 2), 11097);
        CHECK.due("toRoute(11096)", x.toRoute(11096), 10997 * 1000 / 1100);
        CHECK.due("toRoute(11097)", x.toRoute(11097), 9999);
        CHECK.due("toRoute(11196)", x.toRoute(11196), 9999);
        CHECK.due("toRoute(11197)", x.toRoute(11197), NONE);
    }

    private static void pointBefore() {
        CHECK.promise(31, "pointBefore");
        FibreBench x = mapped();
        int[][] due = {{0, 0}, {14, 0}, {15, 1}, {939, 1}, {940, 2}, {100000, 2}, {HIGH, 2}};
        for (int[] pair : due) {
            CHECK.due("pointBefore(" + pair[0] + ")", x.pointBefore(pair[0]), pair[1]);
        }
        for (int units : new int[] {-1, LOW}) {
            CHECK.due("pointBefore(" + units + ")", x.pointBefore(units), BAD_VALUE);
        }
        x.clearMap();
        CHECK.due("without points", x.pointBefore(0), NONE);
        CHECK.due("BAD_VALUE is named ahead of NONE", x.pointBefore(-1), BAD_VALUE);
    }

    private static void placed() {
        CHECK.promise(32, "placed");
        FibreBench x = new FibreBench();
        x.setExcess(0);
        x.addPoint(50, 0);
        x.addPoint(550, 0);
        CHECK.due("the end of the fibre", x.placed(1, 0), 150);
        CHECK.due("its other end", x.placed(1, 1), 50);
        CHECK.due("the difference", x.placed(1, 2), -100);
        x.setBreak(40, 0);
        for (int width = 1; width <= 9; width++) {
            CHECK.due("placed(" + width + ", 0)", x.placed(width, 0), 90);
            CHECK.due("placed(" + width + ", 1)", x.placed(width, 1), 90);
            CHECK.due("placed(" + width + ", 2)", x.placed(width, 2), 0);
        }
        // A bend just before the break, from side 0, lets the end start earlier there.
        x.addBend(39, 500);
        CHECK.due("placed(1, 0)", x.placed(1, 0), 89);
        CHECK.due("placed(1, 1)", x.placed(1, 1), 90);
        CHECK.due("placed(1, 2)", x.placed(1, 2), 1);
        for (int width : new int[] {0, 10, LOW, HIGH}) {
            CHECK.due("placed(" + width + ", 0)", x.placed(width, 0), BAD_VALUE);
        }
        for (int what : new int[] {-1, 3, LOW, HIGH}) {
            CHECK.due("placed(1, " + what + ")", x.placed(1, what), BAD_VALUE);
        }
    }

    private static void placedNowhere() {
        CHECK.promise(32, "placed: NONE");
        FibreBench x = new FibreBench();
        CHECK.due("without points", x.placed(1, 0), NONE);
        CHECK.due("BAD_VALUE is named ahead of NONE", x.placed(1, 3), BAD_VALUE);
        x.setExcess(0);
        x.addPoint(0, 0);
        x.addPoint(60, 0);
        CHECK.due("100 lies behind the map", x.placed(1, 0), NONE);
        CHECK.due("0 does not", x.placed(1, 1), 0);
        CHECK.due("the difference needs both", x.placed(1, 2), NONE);
        // No end is seen from side 0: the light is lost slowly, with a slope as steep as the fibre's.
        FibreBench y = steepFromSide0();
        y.setExcess(0);
        y.addPoint(0, 0);
        y.addPoint(900, 0);
        CHECK.due("endSeen(0, 1)", y.endSeen(0, 1), NONE);
        CHECK.due("endSeen(1, 1)", y.endSeen(1, 1), 299);
        CHECK.due("placed(1, 0)", y.placed(1, 0), NONE);
        CHECK.due("placed(1, 1)", y.placed(1, 1), 1);
        CHECK.due("placed(1, 2)", y.placed(1, 2), NONE);
    }

    /** From side 0, 9000 are lost at once; from side 1 at the end. */
    private static FibreBench steepFromSide0() {
        FibreBench x = Benches.steepest();
        x.set(0, 60);
        x.setJoint(0, 3000, 0);
        for (int i = 0; i < 3; i++) {
            x.addBend(1, 2000);
        }
        return x;
    }

    private static void placedBeyondTheFibre() {
        CHECK.promise(32, "placed: an end that is seen beyond the fibre");
        for (int side = 0; side < 2; side++) {
            FibreBench x = echoBeyondTheEnd(side);
            CHECK.due("endSeen of side " + side, x.endSeen(side, 1), 350);
            CHECK.due("beyond L", x.told(0), 300);
            x.setExcess(0);
            x.addPoint(0, 0);
            x.addPoint(900, 0);
            // Only side 1's end is taken from L, so side 0's has its place on a route that is long enough.
            CHECK.due("placed(1, " + side + ")", x.placed(1, side), side == 0 ? 350 : NONE);
            CHECK.due("placed(1, 2)", x.placed(1, 2), side == 0 ? x.placed(1, 1) - 350 : NONE);
        }
    }

    /** With a high threshold the slow fall of the last reflection is no event, so the end is seen 15 behind L. */
    private static void placedBehindTheLastReflection() {
        CHECK.promise(32, "placed: an end that is seen behind the last reflection");
        for (int side = 0; side < 2; side++) {
            FibreBench x = new FibreBench();
            x.setJoint(1 - side, 0, 9000);
            x.set(1, 3000);
            x.setExcess(0);
            x.addPoint(0, 0);
            x.addPoint(900, 0);
            CHECK.due("the last sample above the floor", x.sample(side, 9, 114), 32320);
            CHECK.due("endSeen of side " + side, x.endSeen(side, 9), 115);
            CHECK.due("endSeen of the other side", x.endSeen(1 - side, 9), 100);
            CHECK.due("placed(9, 0)", x.placed(9, 0), side == 0 ? 115 : 100);
            CHECK.due("placed(9, 1)", x.placed(9, 1), side == 0 ? 0 : NONE);
            CHECK.due("placed(9, 2)", x.placed(9, 2), side == 0 ? -115 : NONE);
        }
    }

    /**
     * Seen from this side, much is lost at 5, little between strong joints at 50 and 200, and the rest slowly, so that
     * the first fall to the floor is the one of the echo at 2 * 200 - 50.
     */
    private static FibreBench echoBeyondTheEnd(int side) {
        int[][] sections = {{50, 60}, {75, 1}, {75, 1}, {100, 60}};
        FibreBench x = new FibreBench();
        for (int i = 0; i < 4; i++) {
            int[] section = sections[side == 0 ? i : 3 - i];
            if (i == 0) {
                x.begin(section[0], section[1], 0);
            } else {
                x.addSection(section[0], section[1], 0);
            }
        }
        x.set(0, 0);
        x.setJoint(side == 0 ? 1 : 3, 0, 9000);
        x.setJoint(side == 0 ? 3 : 1, 0, 9000);
        for (int i = 0; i < 6; i++) {
            x.addBend(side == 0 ? 5 : 295, 3000);
        }
        return x;
    }
}
