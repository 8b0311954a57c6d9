/** The edges that the document names for events: "Events" and "Both sides" under "Terms", and promises 20 to 25. */
public final class EventEdgeTest {
    private static final int BAD_NUMBER = FibreBench.BAD_NUMBER;
    private static final int BAD_VALUE = FibreBench.BAD_VALUE;
    private static final int NONE = FibreBench.NONE;
    private static final int FLOOR = 5000;
    private static final int LOW = Integer.MIN_VALUE;
    private static final int HIGH = Integer.MAX_VALUE;
    private static final int[] WRONG_SIDES = {-1, 2, LOW, HIGH};
    private static final int[] WRONG_WIDTHS = {0, 10, LOW, HIGH};
    private static final Check CHECK = new Check();

    public static void main(String[] args) {
        deviation();
        falls();
        rises();
        leastThreshold();
        greatestThreshold();
        onTheFloor();
        outOfTheFloor();
        lastStepToTheFloor();
        firstDistance();
        lastDistance();
        rows();
        numbers();
        endOnTheFloor();
        kindByTheFirstDeviation();
        endBeforeReflective();
        losses();
        risesOfEvents();
        ghostOfZero();
        ghostOfAnEvent();
        ghostOfOneThatDoesNotBounce();
        ghostThatDoesNotBounce();
        ghostOfAnEnd();
        ghostWithTheLeastDistance();
        ghostsBehindAChange();
        firstThirtyEvents();
        noGhosts();
        firstEnd();
        noEnd();
        toleranceBelow();
        toleranceAbove();
        joinedInOrder();
        joinedOnlyOnce();
        endsAreNotJoined();
        joinedBehindAnEnd();
        joinedProperties();
        nothingJoined();
        CHECK.end();
    }

    private static void dueEvent(FibreBench x, int side, int width, int event, int... values) {
        for (int what = 0; what < values.length; what++) {
            CHECK.due("event(" + side + ", " + width + ", " + event + ", " + what + ")",
                    x.event(side, width, event, what), values[what]);
        }
    }

    /** Plain fibre with a bend of this loss at 5; its end is an event too. */
    private static FibreBench bent(int loss) {
        FibreBench x = Benches.flat(20);
        x.addBend(5, loss);
        return x;
    }

    /** Reflectors with the height 1000, too low for ghosts, at the joints within the fibre. */
    private static FibreBench reflecting(int... lengths) {
        FibreBench x = Benches.flat(lengths);
        for (int joint = 1; joint < lengths.length; joint++) {
            x.setJoint(joint, 0, 1000);
        }
        return x;
    }

    // ---- Marked distances

    private static void deviation() {
        CHECK.sentence("The deviation of a trace at a distance d from 1 on is (sample at d) - (sample at d - 1) + slope.");
        // The fibre falls by 1 with each unit: with the slope 0 all deviates by -1, with 2 by 1, with 1 by nothing.
        int[][] due = {{0, 1}, {1, 20}, {2, 1}};
        for (int[] row : due) {
            FibreBench x = Benches.ofLengths(20);
            x.set(1, 1);
            x.set(0, row[0]);
            CHECK.due("start with the slope " + row[0], x.event(0, 1, 0, 0), row[1]);
        }
        FibreBench steepest = new FibreBench();
        steepest.begin(20, 60, 0);
        steepest.set(1, 1);
        steepest.set(0, 60);
        CHECK.due("start with the greatest slope", steepest.event(0, 1, 0, 0), 20);
        steepest.set(0, 59);
        CHECK.due("start with one less", steepest.event(0, 1, 0, 0), 1);
    }

    private static void falls() {
        CHECK.sentence("is marked if the deviation there is at least the threshold or at most minus the threshold");
        CHECK.due("a deviation of -99", bent(99).events(0, 1), 1);
        CHECK.due("a deviation of -100", bent(100).events(0, 1), 2);
        CHECK.due("a deviation of -101", bent(101).events(0, 1), 2);
        FibreBench x = bent(100);
        x.set(1, 101);
        CHECK.due("with a greater threshold", x.events(0, 1), 1);
    }

    private static FibreBench gaining(int scatter) {
        FibreBench x = Benches.flat(20);
        x.addSection(20, 1, scatter);
        return x;
    }

    private static void rises() {
        CHECK.sentence("is marked if the deviation there is at least the threshold or at most minus the threshold");
        CHECK.due("a deviation of 99", gaining(99).events(0, 1), 1);
        CHECK.due("a deviation of 100", gaining(100).events(0, 1), 2);
        CHECK.due("a deviation of 101", gaining(101).events(0, 1), 2);
        FibreBench x = gaining(100);
        x.set(1, 101);
        CHECK.due("with a greater threshold", x.events(0, 1), 1);
    }

    private static void leastThreshold() {
        CHECK.sentence("1 the threshold, 1 to 5000 (100 at first)");
        FibreBench fall = bent(1);
        FibreBench rise = gaining(1);
        CHECK.due("a fall of 1 at first", fall.events(0, 1), 1);
        CHECK.due("a rise of 1 at first", rise.events(0, 1), 1);
        fall.set(1, 1);
        rise.set(1, 1);
        CHECK.due("a fall of 1", fall.events(0, 1), 2);
        CHECK.due("a rise of 1", rise.events(0, 1), 2);
        FibreBench plain = Benches.flat(20);
        plain.set(1, 1);
        CHECK.due("no deviation", plain.events(0, 1), 1);
    }

    private static void greatestThreshold() {
        CHECK.sentence("1 the threshold, 1 to 5000 (100 at first)");
        FibreBench x = bent(3000);
        x.set(1, 5000);
        x.addBend(5, 1999);
        CHECK.due("a fall of 4999", x.events(0, 1), 1);
        x.removeBend(1);
        x.addBend(5, 2000);
        CHECK.due("a fall of 5000", x.events(0, 1), 2);
        FibreBench y = Benches.flat(20, 20);
        y.set(1, 5000);
        // The level before the joint stands at the distance before it, so the rise is the height and the slope.
        y.setJoint(1, 0, 4998);
        CHECK.due("a rise of 4999", y.events(0, 1), 1);
        y.setJoint(1, 0, 4999);
        CHECK.due("a rise of 5000", y.events(0, 1), 2);
    }

    private static void onTheFloor() {
        CHECK.sentence("and the sample at d or the one at d - 1 is above the floor.");
        FibreBench x = new FibreBench();
        x.begin(10, 60, 0);
        x.set(0, 60);
        x.set(1, 60);
        // On the floor each distance deviates by the slope, but only the fall to it is marked.
        CHECK.due("events(0, 1)", x.events(0, 1), 1);
        dueEvent(x, 0, 1, 0, 10, 10, 2);
        CHECK.due("events(1, 9)", x.events(1, 9), 1);
        dueEvent(x, 1, 9, 0, 10, 10, 2);
    }

    private static FibreBench echo() {
        FibreBench x = Benches.flat(40);
        x.setJoint(0, 0, 9000);
        x.setJoint(1, 0, 6000);
        return x;
    }

    private static void outOfTheFloor() {
        CHECK.sentence("and the sample at d or the one at d - 1 is above the floor.");
        // The ghost at 80 rises out of the floor, where only the sample at d is above it, and falls back to it.
        FibreBench x = echo();
        int rise = 30261 + 9000 - 80 - FLOOR;
        CHECK.due("events(0, 1)", x.events(0, 1), 3);
        dueEvent(x, 0, 1, 2, 80, 81, 2, -2, rise, 40, 0);
    }

    private static void lastStepToTheFloor() {
        CHECK.sentence("and the sample at d or the one at d - 1 is above the floor.");
        FibreBench x = Benches.downToTheFloor(200);
        x.set(1, 1);
        x.set(0, 0);
        // 5001 at 201 and the floor at 202; from there on nothing deviates.
        CHECK.due("events(0, 1)", x.events(0, 1), 1);
        dueEvent(x, 0, 1, 0, 1, 202, 2);
        x.set(0, 1);
        // The slope is met from 200 to 202; on the floor all deviates by 1, but is not marked.
        CHECK.due("events(0, 1)", x.events(0, 1), 1);
        dueEvent(x, 0, 1, 0, 1, 200, 0);
        x.set(0, 2);
        CHECK.due("events(0, 1)", x.events(0, 1), 1);
        dueEvent(x, 0, 1, 0, 1, 202, 2);
    }

    private static void firstDistance() {
        CHECK.sentence("A distance from 1 to 400 is marked");
        FibreBench x = Benches.flat(20);
        x.addBend(1, 500);
        dueEvent(x, 0, 1, 0, 1, 1, 0, 500, -501);
        FibreBench y = Benches.flat(20);
        y.setJoint(0, 0, 1);
        y.set(1, 1);
        // A reflection at 0 is no event itself, but the fall behind it is.
        dueEvent(y, 0, 1, 0, 1, 1, 0, 1, -2);
        FibreBench shortest = Benches.flat(1);
        CHECK.due("the shortest fibre", shortest.events(0, 1), 1);
        dueEvent(shortest, 0, 1, 0, 1, 1, 2, 25300 - 1, -25300, NONE, NONE);
    }

    private static FibreBench echoFarOut(int... lengths) {
        FibreBench x = Benches.flat(lengths);
        x.setJoint(1, 0, 9000);
        x.setJoint(lengths.length, 0, 9000);
        return x;
    }

    private static void lastDistance() {
        CHECK.sentence("A distance from 1 to 400 is marked");
        // A ghost at 399 rises there and falls at 400; one at 400 does not fall any more; one at 401 is not seen.
        FibreBench at399 = echoFarOut(1, 99, 100);
        int last = at399.events(0, 1) - 1;
        dueEvent(at399, 0, 1, last, 399, 400, 2, -2, 30101 + 15000 - 398 - FLOOR, 200, 1);
        FibreBench at400 = echoFarOut(2, 99, 100);
        last = at400.events(0, 1) - 1;
        int high = 30100 + 15000 - 398 - FLOOR;
        dueEvent(at400, 0, 1, last, 400, 400, 1, -high - 1, high, 201, 2);
        FibreBench at401 = echoFarOut(1, 100, 100);
        last = at401.events(0, 1) - 1;
        dueEvent(at401, 0, 1, last, 201, 210, 2);
        // With a wider pulse the ghost at 399 ends above the floor.
        dueEvent(at399, 0, 2, at399.events(0, 2) - 1, 399, 400, 1);
    }

    // ---- Rows, numbers and kinds

    private static void rows() {
        CHECK.sentence("The events of a trace are the longest rows of marked distances one behind the other; "
                + "they are numbered from 0.");
        FibreBench x = Benches.flat(30);
        x.addBend(5, 200);
        x.addBend(6, 300);
        x.addBend(7, 400);
        CHECK.due("events(0, 1)", x.events(0, 1), 2);
        dueEvent(x, 0, 1, 0, 5, 7, 0, 900, -201);
        x.removeBend(1);
        CHECK.due("events(0, 1)", x.events(0, 1), 3);
        dueEvent(x, 0, 1, 0, 5, 5, 0, 200, -201);
        dueEvent(x, 0, 1, 1, 7, 7, 0, 400, -401);
        // A fall and a rise one behind the other are one row as well.
        FibreBench y = Benches.flat(10);
        y.addSection(10, 1, 500);
        y.addBend(9, 300);
        CHECK.due("events(0, 1)", y.events(0, 1), 2);
        dueEvent(y, 0, 1, 0, 9, 10, 0, -200, 198);
    }

    private static void numbers() {
        CHECK.sentence("- `event`: the event, 0 or more");
        FibreBench x = bent(500);
        CHECK.due("events(0, 1)", x.events(0, 1), 2);
        dueEvent(x, 0, 1, 0, 5);
        dueEvent(x, 0, 1, 1, 20);
        for (int event : new int[] {-1, 2, LOW, HIGH}) {
            CHECK.due("event(0, 1, " + event + ", 0)", x.event(0, 1, event, 0), BAD_NUMBER);
        }
        CHECK.sentence("- `what`: 0 its start, 1 its stop, 2 its kind, 3 its loss, 4 its rise, 5 the distance q and 6 the "
                + "distance p of the ghost that it is named (NONE if it is not named a ghost)");
        dueEvent(x, 0, 1, 0, 5, 5, 0, 500, -501, NONE, NONE);
        for (int what : new int[] {-1, 7, LOW, HIGH}) {
            CHECK.due("event(0, 1, 1, " + what + ")", x.event(0, 1, 1, what), BAD_VALUE);
            CHECK.due("event(0, 1, 2, " + what + ")", x.event(0, 1, 2, what), BAD_VALUE);
        }
        for (int side : WRONG_SIDES) {
            CHECK.due("event(" + side + ", 1, 2, 0)", x.event(side, 1, 2, 0), BAD_VALUE);
            CHECK.due("events(" + side + ", 1)", x.events(side, 1), BAD_VALUE);
        }
        for (int width : WRONG_WIDTHS) {
            CHECK.due("event(0, " + width + ", 2, 0)", x.event(0, width, 2, 0), BAD_VALUE);
            CHECK.due("events(0, " + width + ")", x.events(0, width), BAD_VALUE);
        }
    }

    private static void endOnTheFloor() {
        CHECK.sentence("2 (an end) if the sample at its stop is the floor");
        // With the slope 1, only the bends at 150 and the loss at 200 are marked: 5002, 5001, 5000 and less are left.
        int[][] due = {{200, 0, 5002}, {201, 0, 5001}, {202, 2, 5000}, {203, 2, 5000}};
        for (int[] row : due) {
            FibreBench x = Benches.downToTheFloor(row[0]);
            x.set(0, 1);
            CHECK.due("sample(0, 1, 200)", x.sample(0, 1, 200), row[2]);
            CHECK.due("events(0, 1)", x.events(0, 1), 2);
            dueEvent(x, 0, 1, 1, 200, 200, row[1]);
        }
    }

    private static void kindByTheFirstDeviation() {
        CHECK.sentence("otherwise 1 (reflective) if the deviation at its start is above 0; otherwise 0 (a step).");
        FibreBench x = gaining(1);
        x.set(1, 1);
        dueEvent(x, 0, 1, 0, 20, 20, 1, -1, 0);
        dueEvent(x, 1, 1, 0, 20, 20, 0, 1, -2);
        // The deviation counts, with its slope, not the rise: the fibre falls by 1 here, where 60 would be due.
        FibreBench y = Benches.ofLengths(20);
        y.addSection(20, 60, 0);
        y.set(0, 60);
        y.set(1, 59);
        dueEvent(y, 0, 1, 0, 1, 20, 1, 20 - 60 * 20, -1);
        y.set(1, 60);
        CHECK.due("start of the end", y.event(0, 1, 0, 0), 40);
    }

    private static void endBeforeReflective() {
        CHECK.sentence("2 (an end) if the sample at its stop is the floor; otherwise 1 (reflective)");
        FibreBench x = Benches.flat(20);
        x.setJoint(1, 0, 1);
        x.set(1, 2);
        // The end rises by 1 and deviates by 2, and falls to the floor then.
        dueEvent(x, 0, 1, 0, 20, 21, 2, 25281 - 2, 1, NONE, NONE);
    }

    private static void losses() {
        CHECK.sentence("Its loss is (sample at start - 1) - (sample at stop) - slope * (stop - start + 1).");
        FibreBench x = bent(500);
        x.addBend(6, 300);
        // 30296 at 4, 29795 at 5, 29494 at 6.
        int[][] due = {{0, 802}, {1, 800}, {2, 798}, {60, 802 - 2 * 60}};
        for (int[] row : due) {
            x.set(0, row[0]);
            dueEvent(x, 0, 1, 0, 5, 6, 0, row[1]);
        }
        FibreBench y = bent(500);
        y.set(0, 60);
        dueEvent(y, 0, 1, 0, 5, 5, 0, 501 - 60);
        // A gain is a loss below 0.
        dueEvent(gaining(2000), 0, 1, 0, 20, 20, 1, -2000, 1999);
    }

    private static void risesOfEvents() {
        CHECK.sentence("Its rise is the greatest of its samples minus the sample at start - 1.");
        // The greatest at its start, in its middle and at its stop, and a step, which has only samples below.
        FibreBench first = reflecting(20, 20);
        dueEvent(first, 0, 1, 0, 20, 21, 1, 0, 1000);
        FibreBench middle = reflecting(20, 1, 20);
        middle.setJoint(1, 0, 900);
        middle.setJoint(2, 0, 1900);
        // 30281, 31181, then 30280 + 1900, then its tail of 900, and 30277.
        dueEvent(middle, 0, 1, 0, 20, 23, 1, 0, 30280 + 1900 - 30281);
        FibreBench last = Benches.flat(20);
        last.addSection(1, 1, 500);
        last.addSection(20, 1, 900);
        dueEvent(last, 0, 1, 0, 20, 21, 1, -900, 900 - 2);
        dueEvent(bent(500), 0, 1, 0, 5, 5, 0, 500, -501);
    }

    // ---- Ghosts

    private static void ghostOfZero() {
        CHECK.sentence("and a distance p less than q that is 0 or the start of an event that bounces, such that the start of k "
                + "is 2 * q - p.");
        dueEvent(reflecting(15, 15, 20), 0, 1, 1, 30, 31, 1, 0, 1000, 15, 0);
        CHECK.due("one less than 2 * 15", reflecting(15, 14, 20).event(0, 1, 1, 5), NONE);
        CHECK.due("one less than 2 * 15", reflecting(15, 14, 20).event(0, 1, 1, 6), NONE);
        CHECK.due("one more than 2 * 15", reflecting(15, 16, 20).event(0, 1, 1, 5), NONE);
        CHECK.due("one more than 2 * 15", reflecting(15, 16, 20).event(0, 1, 1, 6), NONE);
        CHECK.due("the first event is none", reflecting(15, 15, 20).event(0, 1, 0, 5), NONE);
        CHECK.due("the first event is none", reflecting(15, 15, 20).event(0, 1, 0, 6), NONE);
    }

    private static void ghostOfAnEvent() {
        CHECK.sentence("and a distance p less than q that is 0 or the start of an event that bounces, such that the start of k "
                + "is 2 * q - p.");
        // 12, 20 and 2 * 20 - 12.
        dueEvent(reflecting(12, 8, 8, 20), 0, 1, 2, 28, 29, 1, 0, 1000, 20, 12);
        CHECK.due("one less", reflecting(12, 8, 7, 20).event(0, 1, 2, 5), NONE);
        CHECK.due("one more", reflecting(12, 8, 9, 20).event(0, 1, 2, 5), NONE);
        // An event that is named a ghost itself is as good as another: 10, 20 and 30.
        FibreBench x = reflecting(10, 10, 10, 20);
        dueEvent(x, 0, 1, 1, 20, 21, 1, 0, 1000, 10, 0);
        dueEvent(x, 0, 1, 2, 30, 31, 1, 0, 1000, 20, 10);
    }

    private static void ghostOfOneThatDoesNotBounce() {
        CHECK.sentence("a distance q that is the start of an event before k that bounces");
        FibreBench q = reflecting(15, 15, 20);
        q.setJoint(1, 1000, 0);
        CHECK.due("a step at q", q.event(0, 1, 0, 2), 0);
        CHECK.due("a step at q", q.event(0, 1, 1, 5), NONE);
        FibreBench p = reflecting(12, 8, 8, 20);
        p.setJoint(1, 1000, 0);
        CHECK.due("a step at p", p.event(0, 1, 0, 0), 12);
        CHECK.due("a step at p", p.event(0, 1, 2, 5), NONE);
        CHECK.due("a step at p", p.event(0, 1, 2, 6), NONE);
    }

    private static void ghostThatDoesNotBounce() {
        CHECK.sentence("An event k that bounces is named a ghost");
        FibreBench x = reflecting(15, 15, 20);
        x.setJoint(2, 1000, 0);
        CHECK.due("a step at 30", x.event(0, 1, 1, 0), 30);
        CHECK.due("a step at 30", x.event(0, 1, 1, 5), NONE);
        CHECK.due("ghosts(0, 1)", x.ghosts(0, 1), 0);
        CHECK.sentence("An event bounces if the deviation at its start is above 0.");
        // A gain of 1 bounces too.
        FibreBench y = Benches.flat(15);
        y.addSection(15, 1, 1);
        y.addSection(15, 1, 2);
        y.set(1, 1);
        dueEvent(y, 0, 1, 1, 30, 30, 1, -1, 0, 15, 0);
    }

    private static void ghostOfAnEnd() {
        CHECK.sentence("a distance q that is the start of an event before k that bounces");
        // The end at 40 bounces, and so does its echo at 80; both are of kind 2.
        dueEvent(echo(), 0, 1, 1, 40, 46, 2);
        CHECK.due("q", echo().event(0, 1, 2, 5), 40);
        CHECK.due("p", echo().event(0, 1, 2, 6), 0);
        CHECK.due("ghosts(0, 1)", echo().ghosts(0, 1), 4);
    }

    private static void ghostWithTheLeastDistance() {
        CHECK.sentence("Of several pairs, the one with the least q is told.");
        // 40 is 2 * 20 - 0 and 2 * 30 - 20.
        dueEvent(reflecting(20, 10, 10, 20), 0, 1, 2, 40, 41, 1, 0, 1000, 20, 0);
        // 48 is 2 * 28 - 8 and 2 * 38 - 28.
        dueEvent(reflecting(8, 20, 10, 10, 20), 0, 1, 3, 48, 49, 1, 0, 1000, 28, 8);
        FibreBench x = reflecting(8, 20, 10, 10, 20);
        x.setJoint(1, 0, 0);
        dueEvent(x, 0, 1, 2, 48, 49, 1, 0, 1000, 38, 28);
    }

    private static void ghostsBehindAChange() {
        CHECK.sentence("An event k that bounces is named a ghost");
        FibreBench x = reflecting(12, 8, 8, 20);
        CHECK.due("named", x.event(0, 1, 2, 6), 12);
        x.setJoint(1, 0, 0);
        CHECK.due("p is no event any more", x.event(0, 1, 1, 6), NONE);
        x.setJoint(1, 1000, 0);
        CHECK.due("p is one that does not bounce", x.event(0, 1, 2, 6), NONE);
        x.undo();
        x.undo();
        CHECK.due("named again", x.event(0, 1, 2, 6), 12);
    }

    private static void firstThirtyEvents() {
        CHECK.sentence("Returns the set of the events that are named ghosts, among the first 30 events, in which bit k stands "
                + "for event k; BAD_VALUE.");
        FibreBench x = Benches.flat(4, 3, 25, 32, 19, 32, 32, 27);
        for (int joint = 0; joint <= 8; joint++) {
            x.setJoint(joint, 0, 9000);
        }
        x.set(1, 2000);
        int set = 0;
        for (int event = 0; event < 30; event++) {
            set |= x.event(0, 1, event, 5) == NONE ? 0 : 1 << event;
        }
        CHECK.due("event 29 is a ghost of 147", x.event(0, 1, 29, 5), 147);
        CHECK.due("event 30 is a ghost of 174", x.event(0, 1, 30, 5), 174);
        CHECK.due("event 31 is a ghost of 174", x.event(0, 1, 31, 5), 174);
        CHECK.due("the set of 30", x.ghosts(0, 1), set);
        CHECK.due("bit 29", x.ghosts(0, 1) >> 29 & 1, 1);
        CHECK.due("bit 30", x.ghosts(0, 1) >> 30 & 1, 0);
        CHECK.due("bit 31", x.ghosts(0, 1) >> 31 & 1, 0);
    }

    private static void noGhosts() {
        CHECK.sentence("Returns the set of the events that are named ghosts");
        FibreBench x = new FibreBench();
        CHECK.due("the empty set", x.ghosts(0, 1), 0);
        CHECK.due("the empty set", x.ghosts(1, 9), 0);
        for (int side : WRONG_SIDES) {
            CHECK.due("ghosts(" + side + ", 1)", x.ghosts(side, 1), BAD_VALUE);
        }
        for (int width : WRONG_WIDTHS) {
            CHECK.due("ghosts(0, " + width + ")", x.ghosts(0, width), BAD_VALUE);
        }
        // The second of three events alone.
        CHECK.due("bit 1", reflecting(15, 15, 20).ghosts(0, 1), 2);
    }

    // ---- Ends

    private static void firstEnd() {
        CHECK.sentence("Returns the start of the first event of kind 2; BAD_VALUE; NONE if there is none.");
        CHECK.due("the end at 40, not its echo at 80", echo().endSeen(0, 1), 40);
        CHECK.due("the shortest fibre", Benches.flat(1).endSeen(0, 9), 1);
        CHECK.due("the longest fibre", Benches.flat(100, 100, 100).endSeen(1, 1), 300);
        FibreBench broken = Benches.flat(100);
        broken.setBreak(1, 0);
        CHECK.due("the break at 1", broken.endSeen(0, 1), 1);
        CHECK.due("from the other side", broken.endSeen(1, 1), 99);
        FibreBench x = bent(500);
        CHECK.due("behind a step", x.endSeen(0, 1), 20);
        x.addBend(19, 500);
        CHECK.due("its start, not its stop", x.endSeen(0, 1), 19);
        for (int side : WRONG_SIDES) {
            CHECK.due("endSeen(" + side + ", 1)", x.endSeen(side, 1), BAD_VALUE);
        }
        for (int width : WRONG_WIDTHS) {
            CHECK.due("endSeen(0, " + width + ")", x.endSeen(0, width), BAD_VALUE);
        }
    }

    private static void noEnd() {
        CHECK.sentence("BAD_VALUE; NONE if there is none.");
        // The floor is met slowly from side 0, so that no row stops on it.
        FibreBench x = Benches.downToTheFloor(200);
        x.set(0, 1);
        CHECK.due("events(0, 1)", x.events(0, 1), 2);
        CHECK.due("endSeen(0, 1)", x.endSeen(0, 1), NONE);
        FibreBench y = Benches.downToTheFloor(202);
        y.set(0, 1);
        CHECK.due("with a little more loss", y.endSeen(0, 1), 200);
        // With a greater threshold only the bends are left, and nothing of the end that was seen before.
        y.set(1, 300);
        CHECK.due("events(0, 1)", y.events(0, 1), 1);
        CHECK.due("no end any more", y.endSeen(0, 1), NONE);
        CHECK.due("nor an event", y.event(0, 1, 1, 0), BAD_NUMBER);
    }

    // ---- Both sides

    private static void toleranceBelow() {
        CHECK.sentence("for which the sum of both starts differs from L by at most the tolerance.");
        // From side 1 the bend is hidden behind the joint at 30; so 30 - apart and 30 are the starts.
        for (int apart = 2; apart <= 8; apart++) {
            FibreBench x = Benches.flat(30, 30);
            x.setJoint(1, 0, 9000);
            x.addBend(30 - apart, 200);
            CHECK.due("events(0, 1)", x.events(0, 1), 3);
            CHECK.due("events(1, 1)", x.events(1, 1), 2);
            x.set(2, apart);
            CHECK.due("joined with the tolerance " + apart, x.joined(1, 0, 0), 0);
            x.set(2, apart - 1);
            CHECK.due("joined with less", x.joined(1, 0, 0), 1);
            CHECK.due("joinedCount(1)", x.joinedCount(1), 1);
        }
    }

    private static void toleranceAbove() {
        CHECK.sentence("for which the sum of both starts differs from L by at most the tolerance.");
        // With the threshold 500 the pulse itself falls unmarked; its tail is an event of its own, w behind the joint.
        for (int width = 2; width <= 9; width++) {
            FibreBench x = Benches.flat(30, 30);
            x.setJoint(1, 0, 9000);
            x.set(1, 500);
            for (int side = 0; side < 2; side++) {
                CHECK.due("start of the rise", x.event(side, width, 0, 0), 30);
                CHECK.due("start of the tail", x.event(side, width, 1, 0), 30 + width);
            }
            x.set(2, 2 * width);
            CHECK.due("joinedCount(" + width + ")", x.joinedCount(width), 2);
            CHECK.due("joined(" + width + ", 1, 1)", x.joined(width, 1, 1), 1);
            x.set(2, 2 * width - 1);
            CHECK.due("joinedCount(" + width + ") with less", x.joinedCount(width), 1);
            x.set(2, 0);
            CHECK.due("joinedCount(" + width + ") with none", x.joinedCount(width), 1);
        }
        CHECK.sentence("2 the tolerance, 0 to 20 (2 at first)");
        FibreBench x = Benches.flat(30, 30);
        x.addBend(28, 200);
        x.addBend(50, 300);
        // From side 1 they are at 10 and 32; 28 and 10 make 38, which differs by 22 from 60, so 28 takes 32.
        x.set(2, 20);
        CHECK.due("joined(1, 0, 1)", x.joined(1, 0, 1), 1);
        x.removeBend(0);
        x.addBend(30, 200);
        // 30 and 10 make 40, which differs by 20 from 60.
        CHECK.due("joined(1, 0, 1)", x.joined(1, 0, 1), 0);
        CHECK.due("joined(1, 1, 1)", x.joined(1, 1, 1), 1);
        x.set(2, 19);
        CHECK.due("joined(1, 0, 1)", x.joined(1, 0, 1), 1);
        CHECK.due("joined(1, 1, 1)", x.joined(1, 1, 1), 0);
    }

    private static void joinedInOrder() {
        CHECK.sentence("the ones of side 0 are gone through in their order; each is joined with the first one of side 1, in the "
                + "order of that trace, that is not joined yet");
        FibreBench x = Benches.flat(60);
        x.addBend(20, 200);
        x.addBend(22, 300);
        x.addBend(24, 400);
        // From side 1 they are at 36, 38 and 40, in the other order.
        x.set(2, 4);
        int[][] due = {{0, 0, 600, -200}, {1, 1, 600, 0}, {2, 2, 600, 200}};
        for (int k = 0; k < 3; k++) {
            for (int what = 0; what < 4; what++) {
                CHECK.due("joined(1, " + k + ", " + what + ")", x.joined(1, k, what), due[k][what]);
            }
        }
        x.set(2, 3);
        // 20 and 36 differ too much from 60 now, so 20 takes 38; 22 takes 36; 24 and 40 differ too much as well.
        CHECK.due("joined(1, 0, 1)", x.joined(1, 0, 1), 1);
        CHECK.due("joined(1, 1, 1)", x.joined(1, 1, 1), 0);
        CHECK.due("joinedCount(1)", x.joinedCount(1), 2);
    }

    private static void joinedOnlyOnce() {
        CHECK.sentence("that is not joined yet");
        FibreBench x = Benches.flat(30, 30);
        x.setJoint(1, 0, 9000);
        x.addBend(28, 200);
        x.set(2, 20);
        // Side 1 has one event alone beside its end: the first of side 0 takes it, and the second finds none.
        CHECK.due("events(1, 1)", x.events(1, 1), 2);
        CHECK.due("joinedCount(1)", x.joinedCount(1), 1);
        CHECK.due("joined(1, 0, 0)", x.joined(1, 0, 0), 0);
        CHECK.due("joined(1, 1, 0)", x.joined(1, 1, 0), NONE);
    }

    private static void endsAreNotJoined() {
        CHECK.sentence("The events of both sides with the kinds 0 and 1 are joined like this");
        for (int height : new int[] {0, 5000}) {
            FibreBench x = Benches.flat(60);
            x.setBreak(30, height);
            x.set(2, 20);
            CHECK.due("starts that fit", x.event(0, 1, 0, 0) + x.event(1, 1, 0, 0), 60);
            CHECK.due("joinedCount(1)", x.joinedCount(1), 0);
        }
        FibreBench x = Benches.flat(20);
        x.addSection(20, 1, 200);
        // From side 0 it is reflective, from side 1 it is a step.
        CHECK.due("kind from side 0", x.event(0, 1, 0, 2), 1);
        CHECK.due("kind from side 1", x.event(1, 1, 0, 2), 0);
        CHECK.due("joinedCount(1)", x.joinedCount(1), 1);
    }

    private static void joinedBehindAnEnd() {
        CHECK.sentence("0 the event of side 0, 1 the event of side 1");
        // From side 0 the bends at 197 end at the floor, and the scatter at 200 lifts the level out of it again.
        FibreBench x = new FibreBench();
        x.begin(100, 60, 0);
        x.addSection(100, 60, 0);
        x.addSection(100, 1, 2000);
        x.set(0, 1);
        for (int i = 0; i < 4; i++) {
            x.addBend(197, 3000);
        }
        x.addBend(197, 2000);
        dueEvent(x, 0, 1, 0, 197, 197, 2);
        dueEvent(x, 0, 1, 1, 200, 200, 1, -1301, 1300);
        dueEvent(x, 1, 1, 0, 100, 100, 0, 2000, -2001);
        dueEvent(x, 1, 1, 1, 103, 103, 0);
        CHECK.due("joinedCount(1)", x.joinedCount(1), 1);
        int[] due = {1, 0, 699, -3301};
        for (int what = 0; what < 4; what++) {
            CHECK.due("joined(1, 0, " + what + ")", x.joined(1, 0, what), due[what]);
        }
    }

    private static void joinedProperties() {
        CHECK.sentence("2 the sum of their losses, 3 the difference of their losses (side 0 minus side 1)");
        FibreBench x = Benches.flat(20);
        x.addSection(20, 1, 300);
        x.setJoint(1, 100, 0);
        CHECK.due("joined(1, 0, 2)", x.joined(1, 0, 2), -200 + 400);
        CHECK.due("joined(1, 0, 3)", x.joined(1, 0, 3), -200 - 400);
        CHECK.sentence("Returns this; BAD_VALUE, also if k is negative; NONE if there are not so many.");
        CHECK.sentence("- `k`: the index, from 0, in the order of side 0");
        for (int what = 0; what < 4; what++) {
            CHECK.due("joined(1, 1, " + what + ")", x.joined(1, 1, what), NONE);
            CHECK.due("joined(1, -1, " + what + ")", x.joined(1, -1, what), BAD_VALUE);
        }
        CHECK.due("joined(1, HIGH, 0)", x.joined(1, HIGH, 0), NONE);
        CHECK.due("joined(1, LOW, 0)", x.joined(1, LOW, 0), BAD_VALUE);
        for (int what : new int[] {-1, 4, LOW, HIGH}) {
            CHECK.due("joined(1, 0, " + what + ")", x.joined(1, 0, what), BAD_VALUE);
            CHECK.due("joined(1, 1, " + what + ")", x.joined(1, 1, what), BAD_VALUE);
        }
    }

    private static void nothingJoined() {
        CHECK.sentence("Returns the number of events of side 0 that are joined with one of side 1; BAD_VALUE.");
        FibreBench x = new FibreBench();
        CHECK.due("none", x.joinedCount(1), 0);
        CHECK.due("joined(9, 0, 0)", x.joined(9, 0, 0), NONE);
        for (int width : WRONG_WIDTHS) {
            CHECK.due("joinedCount(" + width + ")", x.joinedCount(width), BAD_VALUE);
            CHECK.due("joined(" + width + ", 0, 0)", x.joined(width, 0, 0), BAD_VALUE);
        }
    }
}
