/** The edges that the document names for the map: "The map" under "Terms", and promises 26 to 32. */
public final class MapEdgeTest {
    private static final int BAD_NUMBER = FibreBench.BAD_NUMBER;
    private static final int BAD_VALUE = FibreBench.BAD_VALUE;
    private static final int FULL = FibreBench.FULL;
    private static final int NOT_POSSIBLE = FibreBench.NOT_POSSIBLE;
    private static final int NONE = FibreBench.NONE;
    private static final int LOW = Integer.MIN_VALUE;
    private static final int HIGH = Integer.MAX_VALUE;
    private static final Check CHECK = new Check();

    public static void main(String[] args) {
        numberOfPoints();
        rangesOfPoints();
        growingPositions();
        clearedMap();
        excess();
        roundedRuns();
        reaches();
        longestMap();
        withinTheSlack();
        betweenTwoPoints();
        beyondTheLastPoint();
        noPoints();
        lastPointBefore();
        placedEnds();
        placedAtZero();
        placedBelowZero();
        placedWhereOneIsNeeded();
        placedOnTheLastSlack();
        placedWithoutAnEnd();
        wrongPlaces();
        CHECK.end();
    }

    private static FibreBench mapped(int excess, int... positionsAndSlacks) {
        FibreBench x = new FibreBench();
        x.setExcess(excess);
        addPoints(x, positionsAndSlacks);
        return x;
    }

    private static void addPoints(FibreBench x, int... positionsAndSlacks) {
        for (int i = 0; i < positionsAndSlacks.length; i += 2) {
            x.addPoint(positionsAndSlacks[i], positionsAndSlacks[i + 1]);
        }
    }

    private static void numberOfPoints() {
        CHECK.sentence("A map has 0 to 10 points, numbered from 0");
        FibreBench x = new FibreBench();
        CHECK.due("no points", x.told(5), 0);
        CHECK.due("point(0, 0)", x.point(0, 0), BAD_NUMBER);
        for (int number = 0; number < 10; number++) {
            CHECK.due("point " + number, x.addPoint(number, 9 * number), number);
            CHECK.due("its position", x.point(number, 0), number);
            CHECK.due("its slack", x.point(number, 1), 9 * number);
            CHECK.due("the next one", x.point(number + 1, 0), BAD_NUMBER);
        }
        CHECK.due("ten points", x.told(5), 10);
        CHECK.due("an eleventh", x.addPoint(9999, 0), FULL);
        CHECK.due("FULL is named ahead of NOT_POSSIBLE", x.addPoint(9, 0), FULL);
        CHECK.due("BAD_VALUE is named ahead of FULL", x.addPoint(10000, 0), BAD_VALUE);
        CHECK.due("ten points", x.told(5), 10);
        CHECK.due("point(-1, 0)", x.point(-1, 0), BAD_NUMBER);
        CHECK.sentence("0 its position, 1 its slack, 2 its reach");
        CHECK.due("point(9, 2)", x.point(9, 2), 9 + 9 * 36);
        CHECK.due("point(9, 3)", x.point(9, 3), BAD_VALUE);
        CHECK.due("point(9, -1)", x.point(9, -1), BAD_VALUE);
        CHECK.due("point(10, 3)", x.point(10, 3), BAD_NUMBER);
    }

    private static void rangesOfPoints() {
        CHECK.sentence("each with a position on the route from 0 to 9999, greater than that of the point before, and a slack "
                + "from 0 to 99");
        for (int[] point : new int[][] {{0, 0}, {9999, 99}, {0, 99}, {9999, 0}}) {
            FibreBench x = new FibreBench();
            CHECK.due("addPoint(" + point[0] + ", " + point[1] + ")", x.addPoint(point[0], point[1]), 0);
            CHECK.due("its position", x.point(0, 0), point[0]);
            CHECK.due("its slack", x.point(0, 1), point[1]);
        }
        CHECK.sentence("- `position`: its position, 0 to 9999");
        for (int position : new int[] {-1, 10000, LOW, HIGH}) {
            CHECK.due("addPoint(" + position + ", 0)", new FibreBench().addPoint(position, 0), BAD_VALUE);
        }
        CHECK.sentence("- `slack`: its slack, 0 to 99");
        for (int slack : new int[] {-1, 100, LOW, HIGH}) {
            CHECK.due("addPoint(0, " + slack + ")", new FibreBench().addPoint(0, slack), BAD_VALUE);
        }
    }

    private static void growingPositions() {
        CHECK.sentence("NOT_POSSIBLE if the position is not greater than that of the point before.");
        FibreBench x = mapped(30, 500, 1);
        CHECK.due("less", x.addPoint(499, 0), NOT_POSSIBLE);
        CHECK.due("as great", x.addPoint(500, 0), NOT_POSSIBLE);
        CHECK.due("greater", x.addPoint(501, 0), 1);
        CHECK.due("greater than the first alone", x.addPoint(501, 0), NOT_POSSIBLE);
        CHECK.due("the last position", x.addPoint(9999, 0), 2);
        CHECK.due("nothing lies behind it", x.addPoint(9999, 0), NOT_POSSIBLE);
        CHECK.due("the first position", new FibreBench().addPoint(0, 0), 0);
        x.clearMap();
        CHECK.due("without a point before", x.addPoint(0, 0), 0);
        CHECK.due("the least beside it", x.addPoint(1, 0), 1);
    }

    private static void clearedMap() {
        CHECK.sentence("Returns how many there were.");
        FibreBench x = Benches.full();
        x.setExcess(77);
        CHECK.due("all", x.clearMap(), 10);
        CHECK.due("none is left", x.told(5), 0);
        CHECK.due("none is left", x.point(0, 0), BAD_NUMBER);
        CHECK.due("the excess stays", x.told(6), 77);
        CHECK.due("none", x.clearMap(), 0);
        x.addPoint(9999, 99);
        CHECK.due("one", x.clearMap(), 1);
    }

    private static void excess() {
        CHECK.sentence("It has an excess from 0 to 100 (30 at first).");
        FibreBench x = new FibreBench();
        CHECK.due("at first", x.told(6), 30);
        CHECK.due("the least", x.setExcess(0), 30);
        CHECK.due("the greatest", x.setExcess(100), 0);
        CHECK.due("as great again", x.setExcess(100), 100);
        CHECK.sentence("- `excess`: the new excess, 0 to 100");
        for (int wrong : new int[] {-1, 101, LOW, HIGH}) {
            CHECK.due("setExcess(" + wrong + ")", x.setExcess(wrong), BAD_VALUE);
            CHECK.due("still", x.told(6), 100);
        }
    }

    private static void roundedRuns() {
        CHECK.sentence("it runs r * (1000 + excess) / 1000 units (rounded down)");
        int[][] due = {{0, 1, 1}, {0, 9999, 9999}, {30, 1, 1}, {30, 33, 33}, {30, 34, 35}, {30, 100, 103}, {100, 9, 9},
            {100, 10, 11}, {100, 19, 20}, {100, 9999, 10998}, {1, 999, 999}, {1, 1000, 1001}};
        for (int[] row : due) {
            FibreBench x = mapped(row[0], 0, 0, row[1], 0);
            CHECK.due("the excess " + row[0] + " over " + row[1], x.point(1, 2), row[2]);
        }
        // Each run is rounded by itself: three times 33.99, and not 101.97.
        CHECK.due("three runs", mapped(30, 0, 0, 33, 0, 66, 0, 99, 0).point(3, 2), 99);
    }

    private static void reaches() {
        CHECK.sentence("The reach of a point is the number of units up to it, without its own slack.");
        FibreBench x = mapped(0, 100, 99, 110, 5, 120, 7);
        CHECK.due("point 0, whatever its position and its slack", x.point(0, 2), 0);
        CHECK.due("point 1", x.point(1, 2), 99 + 10);
        CHECK.due("point 2", x.point(2, 2), 99 + 10 + 5 + 10);
        CHECK.due("a point without slack", mapped(0, 0, 0, 1, 0).point(1, 2), 1);
    }

    private static void longestMap() {
        CHECK.sentence("The fibre begins at point 0, with its slack; from a point to the next one, which is r further on the "
                + "route, it runs r * (1000 + excess) / 1000 units (rounded down), and then comes the slack of the next one.");
        FibreBench x = new FibreBench();
        x.setExcess(100);
        for (int point = 0; point < 10; point++) {
            x.addPoint(1111 * point, 99);
        }
        // 1111 * 1100 / 1000 is 1222, so the last point has the reach 9 * 1321.
        CHECK.due("the farthest reach", x.point(9, 2), 11889);
        CHECK.due("its slack", x.toRoute(11889), 9999);
        CHECK.due("the end of its slack", x.toRoute(11988), 9999);
        CHECK.due("beyond it", x.toRoute(11989), NONE);
        CHECK.due("before it", x.toRoute(11888), 8888 + 1221 * 1000 / 1100);
    }

    private static void withinTheSlack() {
        CHECK.sentence("within the slack of a point (from its reach to its reach plus its slack, both included) it is the "
                + "position of this point");
        FibreBench x = mapped(0, 100, 4, 110, 6);
        int[][] due = {{0, 100}, {3, 100}, {4, 100}, {5, 101}, {13, 109}, {14, 110}, {19, 110}, {20, 110}, {21, NONE}};
        for (int[] row : due) {
            CHECK.due("toRoute(" + row[0] + ")", x.toRoute(row[0]), row[1]);
        }
        CHECK.sentence("(of several such points the first one)");
        // A run is at least one unit long, so no number of units lies in the slack of two points; these are the closest.
        FibreBench bare = mapped(0, 100, 0, 101, 0, 102, 0);
        for (int units = 0; units <= 2; units++) {
            CHECK.due("without slack", bare.toRoute(units), 100 + units);
        }
        FibreBench coiled = mapped(100, 100, 99, 101, 99);
        CHECK.due("the end of the first slack", coiled.toRoute(99), 100);
        CHECK.due("the beginning of the second one", coiled.toRoute(100), 101);
        CHECK.due("the most slack", mapped(30, 7, 99).toRoute(99), 7);
        CHECK.due("beyond the most slack", mapped(30, 7, 99).toRoute(100), NONE);
    }

    private static void betweenTwoPoints() {
        CHECK.sentence("between two points it is the position of the first of them, plus u * 1000 / (1000 + excess) "
                + "(rounded down), where u is the number of units behind the slack of this point.");
        FibreBench x = mapped(30, 200, 5, 1200, 0);
        // The run is 1030 long, behind 5 units of slack.
        int[][] due = {{5, 200}, {6, 200}, {7, 201}, {5 + 34, 233}, {5 + 35, 233}, {5 + 36, 234}, {5 + 103, 300},
            {5 + 1028, 1198}, {5 + 1029, 1199}, {5 + 1030, 1200}};
        for (int[] row : due) {
            CHECK.due("toRoute(" + row[0] + ")", x.toRoute(row[0]), row[1]);
        }
        // Without excess each unit is one of the route, with 100 each eleven are ten.
        CHECK.due("toRoute(1)", mapped(0, 0, 0, 9999, 0).toRoute(1), 1);
        CHECK.due("toRoute(9998)", mapped(0, 0, 0, 9999, 0).toRoute(9998), 9998);
        CHECK.due("toRoute(1)", mapped(100, 0, 0, 9999, 0).toRoute(1), 0);
        CHECK.due("toRoute(10)", mapped(100, 0, 0, 9999, 0).toRoute(10), 9);
        CHECK.due("toRoute(11)", mapped(100, 0, 0, 9999, 0).toRoute(11), 10);
        CHECK.due("toRoute(10997)", mapped(100, 0, 0, 9999, 0).toRoute(10997), 9997);
        CHECK.due("toRoute(10998)", mapped(100, 0, 0, 9999, 0).toRoute(10998), 9999);
    }

    private static void beyondTheLastPoint() {
        CHECK.sentence("NONE if the map has no points, or the units go beyond the slack of the last point.");
        FibreBench x = mapped(0, 0, 0, 10, 3);
        CHECK.due("the last one", x.toRoute(13), 10);
        CHECK.due("the first beyond", x.toRoute(14), NONE);
        CHECK.due("far beyond", x.toRoute(HIGH), NONE);
        CHECK.due("one point without slack", mapped(0, 5, 0).toRoute(0), 5);
        CHECK.due("beyond it", mapped(0, 5, 0).toRoute(1), NONE);
        CHECK.sentence("- `units`: the number of units, 0 or more");
        for (int units : new int[] {-1, LOW}) {
            CHECK.due("toRoute(" + units + ")", x.toRoute(units), BAD_VALUE);
            CHECK.due("pointBefore(" + units + ")", x.pointBefore(units), BAD_VALUE);
        }
    }

    private static void noPoints() {
        CHECK.sentence("NONE if the map has no points");
        FibreBench x = new FibreBench();
        for (int units : new int[] {0, 1, HIGH}) {
            CHECK.due("toRoute(" + units + ")", x.toRoute(units), NONE);
            CHECK.due("pointBefore(" + units + ")", x.pointBefore(units), NONE);
        }
        x.addPoint(0, 99);
        x.clearMap();
        CHECK.due("toRoute(0) of a cleared map", x.toRoute(0), NONE);
        CHECK.due("pointBefore(0) of a cleared map", x.pointBefore(0), NONE);
        CHECK.due("toRoute(-1)", x.toRoute(-1), BAD_VALUE);
        CHECK.due("pointBefore(-1)", x.pointBefore(-1), BAD_VALUE);
    }

    private static void lastPointBefore() {
        CHECK.sentence("Returns the last point whose reach is at most this; BAD_VALUE; NONE if the map has no points.");
        FibreBench x = mapped(0, 100, 4, 110, 6, 111, 99);
        int[][] due = {{0, 0}, {4, 0}, {13, 0}, {14, 1}, {20, 1}, {21, 2}, {120, 2}, {121, 2}, {HIGH, 2}};
        for (int[] row : due) {
            CHECK.due("pointBefore(" + row[0] + ")", x.pointBefore(row[0]), row[1]);
        }
        CHECK.due("the last of ten", Benches.full().pointBefore(HIGH), 9);
        CHECK.due("one point", mapped(30, 9999, 0).pointBefore(0), 0);
    }

    // ---- placed

    /** A plain fibre of 20 units on a map that is long enough, one unit of the route for each of the fibre. */
    private static FibreBench laid() {
        FibreBench x = Benches.flat(20);
        x.setExcess(0);
        addPoints(x, 1000, 0, 2000, 0);
        return x;
    }

    private static void placedEnds() {
        CHECK.sentence("the positions, as by toRoute(), of endSeen() of side 0, and of L minus endSeen() of side 1.");
        FibreBench x = laid();
        x.setBreak(1, 0);
        for (int what = 0; what < 2; what++) {
            CHECK.due("the break at 1", x.placed(1, what), 1001);
        }
        x.setBreak(19, 0);
        for (int what = 0; what < 2; what++) {
            CHECK.due("the break at 19", x.placed(9, what), 1019);
        }
        CHECK.sentence("2 the difference (second minus first)");
        CHECK.due("no difference", x.placed(1, 2), 0);
        x.addBend(18, 500);
        CHECK.due("side 0 sees it earlier", x.placed(1, 2), 1);
        x.setBreak(0, 0);
        CHECK.due("the ends of the fibre", x.placed(1, 2), -20);
    }

    private static void placedAtZero() {
        CHECK.sentence("and of L minus endSeen() of side 1.");
        FibreBench x = laid();
        CHECK.due("endSeen(1, 1) is L", x.endSeen(1, 1), 20);
        CHECK.due("placed(1, 1)", x.placed(1, 1), 1000);
        CHECK.due("placed(1, 0)", x.placed(1, 0), 1020);
    }

    private static void placedBelowZero() {
        CHECK.sentence("if L minus it is negative");
        FibreBench x = laid();
        // The end's reflection is too low to be marked, and so the fall behind it is what is seen of the end.
        x.setJoint(0, 0, 50);
        CHECK.due("endSeen(1, 1)", x.endSeen(1, 1), 21);
        CHECK.due("placed(1, 1)", x.placed(1, 1), NONE);
        CHECK.due("placed(1, 2)", x.placed(1, 2), NONE);
        CHECK.due("placed(1, 0) does not need it", x.placed(1, 0), 1020);
        // Only side 1's end is taken from L; the end that side 0 sees one unit beyond L has a place of its own.
        x.setJoint(0, 0, 0);
        x.setJoint(1, 0, 50);
        CHECK.due("endSeen(0, 1)", x.endSeen(0, 1), 21);
        CHECK.due("placed(1, 0)", x.placed(1, 0), 1021);
        CHECK.due("placed(1, 2)", x.placed(1, 2), -21);
    }

    private static void placedWhereOneIsNeeded() {
        CHECK.sentence("NONE if an end that is needed is not seen");
        for (int side = 0; side < 2; side++) {
            FibreBench x = endNotSeenFrom(side);
            x.setExcess(0);
            addPoints(x, 1000, 0, 2000, 0);
            CHECK.due("endSeen of side " + side, x.endSeen(side, 1), NONE);
            CHECK.due("endSeen of the other side", x.endSeen(1 - side, 1), 299);
            CHECK.due("placed(1, " + side + ")", x.placed(1, side), NONE);
            CHECK.due("placed(1, " + (1 - side) + ")", x.placed(1, 1 - side), side == 0 ? 1001 : 1299);
            CHECK.due("placed(1, 2)", x.placed(1, 2), NONE);
        }
    }

    /** Much is lost close to this side: so it sees the floor come slowly, and the other side sees an end. */
    private static FibreBench endNotSeenFrom(int side) {
        FibreBench x = Benches.steepest();
        x.set(0, 60);
        x.setJoint(side == 0 ? 0 : 3, 3000, 0);
        for (int i = 0; i < 3; i++) {
            x.addBend(side == 0 ? 1 : 299, 2000);
        }
        return x;
    }

    private static void placedOnTheLastSlack() {
        CHECK.sentence("or if it cannot be placed.");
        FibreBench x = Benches.flat(20);
        x.setExcess(0);
        addPoints(x, 0, 5, 10, 4);
        // The map has 19 units, the fibre 20.
        CHECK.due("placed(1, 0)", x.placed(1, 0), NONE);
        CHECK.due("placed(1, 1)", x.placed(1, 1), 0);
        CHECK.due("placed(1, 2)", x.placed(1, 2), NONE);
        x.setBreak(19, 0);
        CHECK.due("placed(1, 0)", x.placed(1, 0), 10);
        CHECK.due("placed(1, 1)", x.placed(1, 1), 10);
        CHECK.due("placed(1, 2)", x.placed(1, 2), 0);
        x.clearMap();
        x.addPoint(3, 18);
        CHECK.due("placed(1, 0)", x.placed(1, 0), NONE);
        x.setBreak(18, 0);
        CHECK.due("placed(1, 0)", x.placed(1, 0), 3);
        x.clearMap();
        for (int what = 0; what < 3; what++) {
            CHECK.due("without points", x.placed(1, what), NONE);
        }
    }

    private static void placedWithoutAnEnd() {
        CHECK.sentence("NONE if an end that is needed is not seen");
        // Neither side sees an end: nothing deviates by 5000 on the way down.
        FibreBench x = endNotSeenFrom(0);
        for (int i = 0; i < 3; i++) {
            x.addBend(299, 3000);
        }
        x.set(1, 5000);
        addPoints(x, 0, 99, 9999, 99);
        CHECK.due("endSeen(0, 1)", x.endSeen(0, 1), NONE);
        CHECK.due("endSeen(1, 1)", x.endSeen(1, 1), NONE);
        for (int what = 0; what < 3; what++) {
            CHECK.due("placed(1, " + what + ")", x.placed(1, what), NONE);
        }
    }

    private static void wrongPlaces() {
        CHECK.sentence("0 the first of these positions, 1 the second one, 2 the difference (second minus first)");
        FibreBench x = laid();
        for (int width : new int[] {0, 10, LOW, HIGH}) {
            for (int what = 0; what < 3; what++) {
                CHECK.due("placed(" + width + ", " + what + ")", x.placed(width, what), BAD_VALUE);
                CHECK.due("without points", new FibreBench().placed(width, what), BAD_VALUE);
            }
        }
        for (int what : new int[] {-1, 3, LOW, HIGH}) {
            CHECK.due("placed(9, " + what + ")", x.placed(9, what), BAD_VALUE);
            CHECK.due("without points", new FibreBench().placed(9, what), BAD_VALUE);
        }
    }
}
