/** Promises 20 to 25: events, ghosts, ends, and what is joined from both sides. */
public final class EventTest {
    private static final int BAD_NUMBER = FibreBench.BAD_NUMBER;
    private static final int BAD_VALUE = FibreBench.BAD_VALUE;
    private static final int NONE = FibreBench.NONE;
    private static final int LOW = Integer.MIN_VALUE;
    private static final int HIGH = Integer.MAX_VALUE;
    private static final int[] WRONG_SIDES = {-1, 2, LOW, HIGH};
    private static final int[] WRONG_WIDTHS = {0, 10, -1, LOW, HIGH};
    private static final Check CHECK = new Check();

    public static void main(String[] args) {
        thresholds();
        rowsAndFloor();
        properties();
        smallestDeviations();
        greatestSampleLater();
        atTheLastDistance();
        endByTheFloor();
        namedGhosts();
        ghostOfAnotherStart();
        leastMirror();
        manyEvents();
        wrongEvents();
        endSeen();
        joined();
        tolerance();
        joinedOnce();
        wrongJoined();
        widthsInTurn();
        CHECK.end();
    }

    private static void dueEvent(FibreBench x, int side, int width, int event, int... values) {
        for (int what = 0; what < values.length; what++) {
            CHECK.due("event(" + side + ", " + width + ", " + event + ", " + what + ")",
                    x.event(side, width, event, what), values[what]);
        }
    }

    private static FibreBench plain(int length, int attenuation) {
        FibreBench x = new FibreBench();
        x.begin(length, attenuation, 0);
        x.set(0, attenuation);
        return x;
    }

    private static void thresholds() {
        CHECK.promise(20, "events: thresholds");
        FibreBench x = plain(20, 10);
        CHECK.due("the end alone", x.events(0, 1), 1);
        x.addBend(5, 99);
        CHECK.due("a bend below the threshold", x.events(0, 1), 1);
        x.addBend(5, 1);
        CHECK.due("a bend at the threshold", x.events(0, 1), 2);
        x.set(1, 101);
        CHECK.due("a higher threshold", x.events(0, 1), 1);
        x.set(1, 5000);
        CHECK.due("the end is deep enough", x.events(0, 1), 1);
        // A rise: 10 less of attenuation is not seen, 99 more of scatter neither, 100 is.
        FibreBench y = plain(20, 10);
        y.addSection(20, 10, 99);
        CHECK.due("a gain below the threshold", y.events(0, 1), 1);
        y.undo();
        y.addSection(20, 10, 100);
        CHECK.due("a gain at the threshold", y.events(0, 1), 2);
        CHECK.due("it is reflective", y.event(0, 1, 0, 2), 1);
        CHECK.due("from the other side it is a step", y.event(1, 1, 0, 2), 0);
        CHECK.due("its place there", y.event(1, 1, 0, 0), 20);
    }

    private static void rowsAndFloor() {
        CHECK.promise(20, "events: rows and the floor");
        FibreBench x = plain(20, 10);
        x.set(0, 60);
        x.set(1, 50);
        // Each unit deviates by 50, up to the end; on the floor the deviation of 60 is not marked.
        CHECK.due("one row", x.events(0, 1), 1);
        dueEvent(x, 0, 1, 0, 1, 20, 2, 30300 - 5000 - 60 * 20, 30290 - 30300);
        x.set(1, 51);
        CHECK.due("the end alone", x.events(0, 1), 1);
        dueEvent(x, 0, 1, 0, 20, 20, 2);
        // Two bends one behind the other are one event, with a unit between them two.
        FibreBench y = plain(20, 10);
        y.addBend(5, 200);
        y.addBend(6, 300);
        CHECK.due("one event", y.events(0, 1), 2);
        dueEvent(y, 0, 1, 0, 5, 6, 0, 500, -210);
        y.removeBend(1);
        y.addBend(7, 300);
        CHECK.due("two events", y.events(0, 1), 3);
        dueEvent(y, 0, 1, 0, 5, 5, 0, 200, -210);
        dueEvent(y, 0, 1, 1, 7, 7, 0, 300, -310);
        // A fall at the very first unit starts at 1; the reflection at 0 itself is no event.
        FibreBench z = plain(20, 10);
        z.setJoint(0, 0, 1500);
        CHECK.due("the tail and the end", z.events(0, 1), 2);
        dueEvent(z, 0, 1, 0, 1, 2, 0, 1500, 30800 - 31800, NONE, NONE);
    }

    private static void properties() {
        CHECK.promise(21, "event");
        FibreBench x = plain(20, 10);
        x.addSection(20, 10, 0);
        x.setJoint(1, 50, 2000);
        // Level before 20: 30110; samples from 19 on: 30110, 32110, 31110, 30030 (loss 50), 30020.
        CHECK.due("events(0, 1)", x.events(0, 1), 2);
        dueEvent(x, 0, 1, 0, 20, 22, 1, 50, 2000, NONE, NONE);
        dueEvent(x, 0, 1, 1, 40, 40, 2, 29860 - 5000 - 10, 5000 - 29860, NONE, NONE);
        // From side 1: 30110, 32110, 31110, 30030 as well.
        dueEvent(x, 1, 1, 0, 20, 22, 1, 50, 2000, NONE, NONE);
        x.set(0, 0);
        CHECK.due("a loss with another slope", x.event(0, 1, 0, 3), 80);
        x.set(0, 10);
        // An end that rises before it falls is of the kind 2 all the same, and bounces.
        x.setJoint(2, 0, 1500);
        dueEvent(x, 0, 1, 1, 40, 42, 2, 29860 - 5000 - 30, 1500, 20, 0);
        // The width 3: 20: 2000, 21: 1700, 22: 1400, 23: 400, 24: the scattered level.
        dueEvent(x, 0, 3, 0, 20, 24, 1, 50, 2000, NONE, NONE);
    }

    private static void smallestDeviations() {
        CHECK.promise(21, "event: deviations of 1");
        FibreBench x = plain(20, 10);
        x.addSection(20, 11, 0);
        x.set(1, 1);
        x.set(0, 11);
        CHECK.due("a deviation of 1 is marked", x.events(0, 1), 2);
        dueEvent(x, 0, 1, 0, 1, 20, 1, -20, -10, NONE, NONE);
        x.set(0, 10);
        // The second section deviates by -1 now, from 21 to the end.
        dueEvent(x, 0, 1, 0, 21, 40, 2);
        x.set(0, 9);
        dueEvent(x, 0, 1, 0, 1, 40, 2);
        FibreBench y = plain(20, 10);
        y.begin(20, 11, 0);
        y.addSection(20, 10, 0);
        y.set(1, 1);
        CHECK.due("a deviation of -1 is marked", y.events(0, 1), 2);
        dueEvent(y, 0, 1, 0, 1, 20, 0, 20, -11, NONE, NONE);
    }

    private static void greatestSampleLater() {
        CHECK.promise(21, "event: the greatest sample");
        FibreBench x = plain(10, 10);
        x.addSection(2, 10, 0);
        x.addSection(20, 10, 0);
        x.setJoint(1, 0, 3000);
        x.setJoint(2, 0, 5000);
        // 30210 before 10; 33210 there, 32210 at 11, then 30190 + 5000 at 12, and the scattered level again at 17.
        dueEvent(x, 0, 1, 0, 10, 17, 1, 0, 35190 - 30210, NONE, NONE);
        // At its stop the sample is the greatest of this row: a gain behind a gain, with nothing behind it.
        FibreBench y = plain(10, 10);
        y.addSection(1, 10, 500);
        y.addSection(10, 10, 900);
        dueEvent(y, 0, 1, 0, 10, 11, 1, -900, 880, NONE, NONE);
    }

    private static void atTheLastDistance() {
        CHECK.promise(20, "events: the distance 400");
        FibreBench x = plain(100, 1);
        x.addSection(100, 1, 0);
        x.addSection(100, 1, 0);
        x.setJoint(2, 0, 9000);
        x.setJoint(3, 0, 9000);
        // The echo of 200 and 300 rises at 400, and nothing is seen of its fall.
        CHECK.due("events(0, 1)", x.events(0, 1), 3);
        dueEvent(x, 0, 1, 2, 400, 400, 1, 5000 - 44801 - 1, 44801 - 5000, 200, 0);
        CHECK.due("endSeen(0, 1)", x.endSeen(0, 1), 300);
    }

    private static void endByTheFloor() {
        CHECK.promise(21, "event: a fall to the floor within the fibre");
        FibreBench x = Benches.steepest();
        x.set(0, 60);
        for (int i = 0; i < 5; i++) {
            x.addBend(200, 3000);
        }
        // 30300 - 60 * 200 is 18300 before 15000 are lost, so the floor comes with the bends.
        CHECK.due("events(0, 1)", x.events(0, 1), 1);
        dueEvent(x, 0, 1, 0, 200, 200, 2, 30300 - 60 * 199 - 5000 - 60, 5000 - (30300 - 60 * 199));
        CHECK.due("endSeen(0, 1)", x.endSeen(0, 1), 200);
        x.removeBend(0);
        // 6300 remains: the floor comes slowly, and no end is seen.
        CHECK.due("events(0, 1)", x.events(0, 1), 1);
        CHECK.due("event(0, 1, 0, 2)", x.event(0, 1, 0, 2), 0);
        CHECK.promise(23, "endSeen");
        CHECK.due("no end", x.endSeen(0, 1), NONE);
        CHECK.due("an end with more light", x.endSeen(0, 9), NONE);
        x.set(0, 0);
        x.set(1, 60);
        // All units are marked now, but for the last one, from 5040 to the floor.
        CHECK.due("the row ends above the floor", x.endSeen(0, 1), NONE);
        CHECK.due("event(0, 1, 0, 1)", x.event(0, 1, 0, 1), 221);
        x.set(1, 40);
        CHECK.due("an end that starts early", x.endSeen(0, 1), 1);
        CHECK.due("event(0, 1, 0, 1)", x.event(0, 1, 0, 1), 222);
    }

    private static void namedGhosts() {
        CHECK.promise(22, "ghosts");
        FibreBench x = plain(15, 1);
        x.addSection(30, 1, 0);
        x.setJoint(0, 0, 9000);
        x.setJoint(1, 0, 9000);
        CHECK.due("events(0, 1)", x.events(0, 1), 4);
        dueEvent(x, 0, 1, 0, 1, 9, 0, 9000, -1000, NONE, NONE);
        dueEvent(x, 0, 1, 1, 15, 24, 1, 0, 9000, NONE, NONE);
        dueEvent(x, 0, 1, 2, 30, 31, 1, 0, 45256 - 30271, 15, 0);
        dueEvent(x, 0, 1, 3, 45, 45, 2, 30256 - 5000 - 1, 5000 - 30256, NONE, NONE);
        CHECK.due("ghosts(0, 1)", x.ghosts(0, 1), 4);
        // Named by its place alone: the end that bounces at 30 is no echo, but looks like one.
        FibreBench y = plain(15, 1);
        y.addSection(15, 1, 0);
        y.setJoint(1, 0, 1000);
        y.setJoint(2, 0, 1000);
        dueEvent(y, 0, 1, 1, 30, 31, 2, 25269, 1000, 15, 0);
        CHECK.due("ghosts(0, 1)", y.ghosts(0, 1), 2);
        y.setJoint(2, 0, 0);
        CHECK.due("an end that does not bounce is none", y.ghosts(0, 1), 0);
        y.setJoint(2, 0, 1000);
        y.setJoint(1, 1000, 0);
        CHECK.due("a step is no mirror", y.ghosts(0, 1), 0);
        for (int side : WRONG_SIDES) {
            CHECK.due("ghosts(" + side + ", 1)", x.ghosts(side, 1), BAD_VALUE);
        }
        for (int width : WRONG_WIDTHS) {
            CHECK.due("ghosts(0, " + width + ")", x.ghosts(0, width), BAD_VALUE);
        }
    }

    private static void ghostOfAnotherStart() {
        CHECK.promise(22, "ghosts: p is the start of an event");
        FibreBench x = plain(20, 1);
        x.addSection(15, 1, 0);
        x.addSection(40, 1, 0);
        x.setJoint(1, 0, 9000);
        x.setJoint(2, 0, 9000);
        // Of 20 and 35 at 50: 15000 - 30 above the level before 35.
        CHECK.due("events(0, 1)", x.events(0, 1), 4);
        dueEvent(x, 0, 1, 2, 50, 51, 1, 0, 30266 + 14970 - 30251, 35, 20);
        CHECK.due("ghosts(0, 1)", x.ghosts(0, 1), 4);
    }

    private static void leastMirror() {
        CHECK.promise(22, "ghosts: the least q");
        FibreBench x = plain(20, 1);
        x.addSection(10, 1, 0);
        x.addSection(30, 1, 0);
        x.setJoint(1, 0, 4000);
        x.setJoint(2, 0, 6000);
        // The echo at 40 is of 20 and 30, but 20 and 0 fit as well, and 20 is less than 30.
        CHECK.due("an echo is there", x.sample(0, 1, 40), 30271 + 4000 - 20);
        dueEvent(x, 0, 1, 2, 40, 41, 1, 0, 30271 + 3980 - 30261, 20, 0);
        CHECK.due("ghosts(0, 1)", x.ghosts(0, 1), 4);
    }

    private static void manyEvents() {
        CHECK.promise(22, "ghosts: the first 30 events");
        FibreBench x = plain(5, 1);
        int[] lengths = {6, 7, 9, 12, 16, 21, 27};
        for (int length : lengths) {
            x.addSection(length, 1, 0);
        }
        for (int joint = 0; joint <= 8; joint++) {
            x.setJoint(joint, 0, 9000);
        }
        x.set(1, 2000);
        int events = x.events(0, 2);
        CHECK.holds("more than 30 events", events > 30);
        int set = 0;
        int beyond = 0;
        for (int k = 0; k < events; k++) {
            int q = x.event(0, 2, k, 5);
            int p = x.event(0, 2, k, 6);
            CHECK.holds("q and p come together", (q == NONE) == (p == NONE));
            if (q != NONE) {
                CHECK.due("2 * q - p", 2 * q - p, x.event(0, 2, k, 0));
                set |= k < 30 ? 1 << k : 0;
                beyond += k < 30 ? 0 : 1;
            }
        }
        CHECK.holds("a ghost beyond the first 30", beyond > 0);
        CHECK.due("ghosts(0, 2)", x.ghosts(0, 2), set);
        CHECK.due("no bit of event 30 or later", x.ghosts(0, 2) >>> 30, 0);
    }

    private static void wrongEvents() {
        CHECK.promise(20, "events: wrong arguments");
        FibreBench x = new FibreBench();
        for (int side : WRONG_SIDES) {
            CHECK.due("events(" + side + ", 1)", x.events(side, 1), BAD_VALUE);
            CHECK.due("event(" + side + ", 1, 0, 0)", x.event(side, 1, 0, 0), BAD_VALUE);
            CHECK.due("endSeen(" + side + ", 1)", x.endSeen(side, 1), BAD_VALUE);
        }
        for (int width : WRONG_WIDTHS) {
            CHECK.due("events(0, " + width + ")", x.events(0, width), BAD_VALUE);
            CHECK.due("event(0, " + width + ", 0, 0)", x.event(0, width, 0, 0), BAD_VALUE);
            CHECK.due("endSeen(0, " + width + ")", x.endSeen(0, width), BAD_VALUE);
        }
        CHECK.promise(21, "event: wrong arguments");
        for (int event : new int[] {-1, 1, 200, 400, LOW, HIGH}) {
            CHECK.due("event(0, 1, " + event + ", 0)", x.event(0, 1, event, 0), BAD_NUMBER);
            CHECK.due("event(0, 1, " + event + ", 6)", x.event(0, 1, event, 6), BAD_NUMBER);
            CHECK.due("BAD_VALUE is named first", x.event(0, 1, event, 7), BAD_VALUE);
        }
        for (int what : new int[] {-1, 7, LOW, HIGH}) {
            CHECK.due("event(0, 1, 0, " + what + ")", x.event(0, 1, 0, what), BAD_VALUE);
        }
    }

    private static void endSeen() {
        CHECK.promise(23, "endSeen");
        FibreBench x = plain(60, 10);
        CHECK.due("the end of the fibre", x.endSeen(0, 1), 60);
        x.setBreak(20, 0);
        CHECK.due("the break", x.endSeen(0, 1), 20);
        CHECK.due("the break from side 1", x.endSeen(1, 9), 40);
        x.setJoint(0, 0, 9000);
        x.setBreak(20, 9000);
        // The echo at 40 falls to the floor too, but the first end is told.
        CHECK.due("event(0, 1, 2, 2)", x.event(0, 1, 2, 2), 2);
        CHECK.due("event(0, 1, 2, 0)", x.event(0, 1, 2, 0), 40);
        CHECK.due("the first end", x.endSeen(0, 1), 20);
    }

    private static void joined() {
        CHECK.promise(24, "joinedCount");
        FibreBench x = plain(60, 10);
        x.addBend(15, 200);
        x.addBend(45, 500);
        CHECK.due("joinedCount(1)", x.joinedCount(1), 2);
        CHECK.promise(25, "joined");
        int[][] due = {{0, 1, 400, 0}, {1, 0, 1000, 0}};
        for (int k = 0; k < 2; k++) {
            for (int what = 0; what < 4; what++) {
                CHECK.due("joined(1, " + k + ", " + what + ")", x.joined(1, k, what), due[k][what]);
            }
        }
        CHECK.due("joined(1, 2, 0)", x.joined(1, 2, 0), NONE);
        CHECK.due("joined(1, HIGH, 3)", x.joined(1, HIGH, 3), NONE);
        // A change of scatter is a gain from one side and a loss from the other.
        FibreBench y = plain(30, 10);
        y.addSection(40, 10, 300);
        y.setJoint(1, 100, 0);
        CHECK.due("joinedCount(1)", y.joinedCount(1), 1);
        CHECK.due("joined(1, 0, 2)", y.joined(1, 0, 2), 200);
        CHECK.due("joined(1, 0, 3)", y.joined(1, 0, 3), -600);
        // Ends are not joined, although their starts would fit at a break.
        FibreBench z = plain(60, 10);
        z.setBreak(30, 0);
        CHECK.due("joinedCount(1) of ends", z.joinedCount(1), 0);
    }

    /** The joint at 30 is seen at 30 from both sides; with a bend close by one side's event starts earlier. */
    private static FibreBench shifted(int bend) {
        FibreBench x = plain(30, 10);
        x.addSection(30, 10, 0);
        x.setJoint(1, 0, 9000);
        x.addBend(bend, 200);
        return x;
    }

    private static void tolerance() {
        CHECK.promise(24, "joinedCount: tolerance");
        for (int apart = 1; apart <= 4; apart++) {
            FibreBench x = shifted(30 - apart);
            // From side 1 the bend lies in the joint's tail, so it is seen from side 0 alone.
            int alone = apart == 1 ? 1 : 2;
            CHECK.due("events(0, 1)", x.events(0, 1), alone + 1);
            CHECK.due("events(1, 1)", x.events(1, 1), 2);
            // Side 0 sees the bend first; within the tolerance it takes the joint's event of side 1.
            boolean bendTaken = apart <= 2;
            CHECK.due("joinedCount(1)", x.joinedCount(1), 1);
            CHECK.due("joined(1, 0, 0)", x.joined(1, 0, 0), bendTaken ? 0 : 1);
            CHECK.due("joined(1, 0, 1)", x.joined(1, 0, 1), 0);
            x.set(2, apart);
            CHECK.due("joined(1, 0, 0) with enough tolerance", x.joined(1, 0, 0), 0);
            x.set(2, apart - 1);
            int first = apart == 1 ? NONE : 1;
            CHECK.due("joined(1, 0, 0) with too little tolerance", x.joined(1, 0, 0), first);
        }
        // The other way round: side 1 sees the bend first, and its sum lies above L or below it.
        FibreBench y = shifted(32);
        CHECK.due("events(1, 1)", y.events(1, 1), 3);
        CHECK.due("joined(1, 0, 0)", y.joined(1, 0, 0), 0);
        CHECK.due("joined(1, 0, 1)", y.joined(1, 0, 1), 0);
        y.set(2, 1);
        CHECK.due("joined(1, 0, 1)", y.joined(1, 0, 1), 1);
    }

    private static void joinedOnce() {
        CHECK.promise(24, "joinedCount: each event once");
        FibreBench x = plain(60, 10);
        x.addBend(20, 200);
        x.addBend(22, 300);
        x.addBend(24, 400);
        x.set(2, 20);
        // From side 1 they are at 36, 38 and 40; each takes the first one that is free.
        CHECK.due("joinedCount(1)", x.joinedCount(1), 3);
        int[] sums = {600, 600, 600};
        int[] differences = {-200, 0, 200};
        for (int k = 0; k < 3; k++) {
            CHECK.due("joined(1, " + k + ", 0)", x.joined(1, k, 0), k);
            CHECK.due("joined(1, " + k + ", 1)", x.joined(1, k, 1), k);
            CHECK.due("joined(1, " + k + ", 2)", x.joined(1, k, 2), sums[k]);
            CHECK.due("joined(1, " + k + ", 3)", x.joined(1, k, 3), differences[k]);
        }
        x.set(2, 0);
        CHECK.due("joined(1, 0, 1) without tolerance", x.joined(1, 0, 1), 2);
        CHECK.due("joined(1, 2, 1) without tolerance", x.joined(1, 2, 1), 0);
    }

    private static void wrongJoined() {
        CHECK.promise(25, "joined: wrong arguments");
        FibreBench x = new FibreBench();
        for (int width : WRONG_WIDTHS) {
            CHECK.due("joinedCount(" + width + ")", x.joinedCount(width), BAD_VALUE);
            CHECK.due("joined(" + width + ", 0, 0)", x.joined(width, 0, 0), BAD_VALUE);
        }
        for (int k : new int[] {-1, LOW}) {
            CHECK.due("joined(1, " + k + ", 0)", x.joined(1, k, 0), BAD_VALUE);
        }
        for (int what : new int[] {-1, 4, LOW, HIGH}) {
            CHECK.due("BAD_VALUE is named ahead of NONE", x.joined(1, 0, what), BAD_VALUE);
        }
        CHECK.due("joined(1, 0, 0)", x.joined(1, 0, 0), NONE);
    }

    /** Asks for several widths in turn, so that no answer is kept from another width. */
    private static void widthsInTurn() {
        CHECK.promise(21, "event: widths in turn");
        FibreBench x = plain(20, 10);
        x.addSection(20, 10, 0);
        x.setJoint(1, 50, 2000);
        for (int round = 0; round < 3; round++) {
            // 2000 falls by 300 within the pulse and by 1000 behind it; the unit behind that is marked too.
            int[] stops = {22, 23, 24, 25, 25, 26, 27, 27, 27};
            for (int width = 1; width <= 9; width++) {
                int other = 10 - width;
                CHECK.due("stop with the width " + width, x.event(0, width, 0, 1), stops[width - 1]);
                CHECK.due("sample(0, " + other + ", 5)", x.sample(0, other, 5), 30000 + 300 * other - 50);
                CHECK.due("stop again with the width " + width, x.event(0, width, 0, 1), stops[width - 1]);
                CHECK.due("loss with the width " + width, x.event(0, width, 0, 3), 50);
            }
            x.set(2, round);
        }
    }
}
