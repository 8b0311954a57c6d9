import java.util.List;
import java.util.function.Supplier;

/** The edges of the history: "Changes" under "Terms", and promise 9. */
public final class HistoryEdgeTest {
    private static final int NOT_POSSIBLE = FibreBench.NOT_POSSIBLE;
    private static final int NONE = FibreBench.NONE;
    private static final Check CHECK = new Check();

    /** Every kind of change, in a form that reports no error on Benches.busy() and leaves something else behind. */
    private enum Change {
        BEGIN, ADD_SECTION, SET_JOINT, ADD_BEND, REMOVE_BEND, SET_BREAK, REPAIR, SLOPE, THRESHOLD, TOLERANCE, MARGIN,
        ADD_POINT, CLEAR_MAP, SET_EXCESS, LOAD;

        int on(FibreBench x) {
            return switch (this) {
                case BEGIN -> x.begin(9, 9, 9);
                case ADD_SECTION -> x.addSection(9, 9, 9);
                case SET_JOINT -> x.setJoint(2, 9, 9);
                case ADD_BEND -> x.addBend(9, 9);
                case REMOVE_BEND -> x.removeBend(0);
                case SET_BREAK -> x.setBreak(9, 9);
                case REPAIR -> x.setBreak(0, 9);
                case SLOPE -> x.set(0, 9);
                case THRESHOLD -> x.set(1, 9);
                case TOLERANCE -> x.set(2, 9);
                case MARGIN -> x.set(3, 9);
                case ADD_POINT -> x.addPoint(999, 9);
                case CLEAR_MAP -> x.clearMap();
                case SET_EXCESS -> x.setExcess(9);
                case LOAD -> x.load();
            };
        }
    }

    public static void main(String[] args) {
        nothingToUndo();
        eachChange();
        eachChangeOfAFullHistory();
        changesThatChangeNothing();
        refusedChanges();
        upToEightStates();
        behindTheOldestState();
        undoAndChange();
        rowsThatWereOverwritten();
        tracesBehindUndo();
        manyRounds();
        textAndFault();
        otherCalls();
        CHECK.end();
    }

    private static Supplier<FibreBench> changed(Supplier<FibreBench> make, Change change, int undos) {
        return () -> {
            FibreBench x = make.get();
            change.on(x);
            for (int i = 0; i < undos; i++) {
                x.undo();
            }
            return x;
        };
    }

    private static void nothingToUndo() {
        CHECK.sentence("Returns how many changes can still be undone; NOT_POSSIBLE if there is none.");
        FibreBench x = new FibreBench();
        CHECK.due("undo() at first", x.undo(), NOT_POSSIBLE);
        CHECK.due("undo() again", x.undo(), NOT_POSSIBLE);
        x.begin(9, 9, 9);
        CHECK.due("undo() of the only change", x.undo(), 0);
        CHECK.due("told(0)", x.told(0), 100);
        CHECK.due("undo() once too often", x.undo(), NOT_POSSIBLE);
        CHECK.due("told(0)", x.told(0), 100);
    }

    private static void eachChange() {
        List<String> before = Snapshot.of(Benches::busy);
        for (Change change : Change.values()) {
            CHECK.sentence("This is a change.");
            CHECK.holds(change + " reports no error", change.on(Benches.busy()) >= 0);
            CHECK.holds(change + " leaves something else behind",
                    !Snapshot.difference(Snapshot.of(changed(Benches::busy, change, 0)), before).isEmpty());
            FibreBench x = changed(Benches::busy, change, 0).get();
            CHECK.due("undo() of " + change, x.undo(), 7);
            CHECK.dueText("what undo() of " + change + " has left behind",
                    Snapshot.difference(Snapshot.of(changed(Benches::busy, change, 1)), before), "");
        }
    }

    /** Eight changes can be undone: one more drops the oldest, so that one less can be undone behind undo(). */
    private static FibreBench busyWithEight() {
        FibreBench x = Benches.busy();
        x.set(3, 500);
        return x;
    }

    private static void eachChangeOfAFullHistory() {
        CHECK.sentence("if there are more than 8, the oldest one is dropped");
        CHECK.due("undo() of the eighth", busyWithEight().undo(), 7);
        for (Change change : Change.values()) {
            FibreBench x = changed(HistoryEdgeTest::busyWithEight, change, 0).get();
            for (int left = 7; left >= 0; left--) {
                CHECK.due("undo() behind " + change, x.undo(), left);
            }
            CHECK.due("undo() once too often", x.undo(), NOT_POSSIBLE);
            // The first state, of the new object, was dropped; the one with a fibre of 50 is the oldest.
            CHECK.due("told(0)", x.told(0), 50);
            CHECK.due("told(1)", x.told(1), 1);
            CHECK.due("told(5)", x.told(5), 0);
        }
    }

    private static void changesThatChangeNothing() {
        CHECK.sentence("a change records the fibre, the settings and the map before it");
        FibreBench x = new FibreBench();
        x.clearMap();
        x.set(0, 20);
        x.setExcess(30);
        x.setJoint(0, 0, 0);
        x.begin(100, 20, 1000);
        for (int left = 4; left >= 0; left--) {
            CHECK.due("undo()", x.undo(), left);
        }
        CHECK.due("undo()", x.undo(), NOT_POSSIBLE);
    }

    private static void refusedChanges() {
        CHECK.sentence("can be undone if they reported no error.");
        FibreBench x = Benches.full();
        x.begin(0, 1, 0);
        x.addSection(1, 1, 0);
        x.setJoint(9, 0, 0);
        x.addBend(1, 1);
        x.removeBend(6);
        x.setBreak(300, 0);
        x.set(4, 0);
        x.addPoint(9999, 0);
        x.setExcess(101);
        x.wipe();
        x.load();
        CHECK.due("the break is still the latest change", x.undo(), 7);
        CHECK.due("told(3)", x.told(3), 0);
        CHECK.due("told(0)", x.told(0), 300);
        CHECK.due("joint 8 was set before it", x.joint(8, 1), 8992);
        CHECK.due("undo()", x.undo(), 6);
        CHECK.due("joint 8", x.joint(8, 1), 0);
    }

    private static void upToEightStates() {
        CHECK.sentence("A history of at most 8 states is kept");
        for (int changes = 1; changes <= 12; changes++) {
            FibreBench x = new FibreBench();
            for (int i = 1; i <= changes; i++) {
                x.begin(i, 1, 0);
            }
            int kept = Math.min(changes, 8);
            for (int left = kept - 1; left >= 0; left--) {
                CHECK.due("undo() behind " + changes + " changes", x.undo(), left);
            }
            CHECK.due("undo() once too often", x.undo(), NOT_POSSIBLE);
            CHECK.due("the oldest state", x.told(0), changes <= 8 ? 100 : changes - 8);
        }
    }

    private static void behindTheOldestState() {
        CHECK.sentence("if there are more than 8, the oldest one is dropped; undo() removes the latest state and restores it.");
        FibreBench x = new FibreBench();
        x.addSection(10, 1, 0);
        x.setJoint(2, 30, 40);
        x.addBend(105, 50);
        x.setBreak(60, 70);
        x.set(0, 8);
        x.addPoint(9, 10);
        x.setExcess(11);
        x.set(1, 12);
        x.set(2, 13);
        for (int left = 7; left >= 0; left--) {
            CHECK.due("undo()", x.undo(), left);
        }
        CHECK.due("undo() once too often", x.undo(), NOT_POSSIBLE);
        // Only the change that was dropped stands.
        int[] told = {110, 2, 0, 0, 0, 0, 30, 0};
        for (int what = 0; what < 8; what++) {
            CHECK.due("told(" + what + ")", x.told(what), told[what]);
        }
        CHECK.due("joint(2, 0)", x.joint(2, 0), 0);
        CHECK.due("joint(2, 1)", x.joint(2, 1), 0);
        int[] settings = {20, 100, 2, 1000};
        for (int setting = 0; setting < 4; setting++) {
            CHECK.due("the setting " + setting, x.set(setting, 1), settings[setting]);
        }
        // And eight changes can be made and undone again.
        for (int left = 3; left >= 0; left--) {
            CHECK.due("undo()", x.undo(), left);
        }
        CHECK.due("told(0)", x.told(0), 110);
    }

    private static void undoAndChange() {
        CHECK.sentence("Undoes the latest change that is kept.");
        FibreBench x = new FibreBench();
        for (int length = 1; length <= 8; length++) {
            x.begin(length, 1, 0);
        }
        CHECK.due("undo()", x.undo(), 7);
        CHECK.due("told(0)", x.told(0), 7);
        // There is room for one again: nothing is dropped, and what was undone is gone.
        x.begin(50, 1, 0);
        int[] lengths = {7, 6, 5, 4, 3, 2, 1, 100};
        for (int i = 0; i < 8; i++) {
            CHECK.due("undo()", x.undo(), 7 - i);
            CHECK.due("told(0)", x.told(0), lengths[i]);
        }
        CHECK.due("undo()", x.undo(), NOT_POSSIBLE);
    }

    private static void rowsThatWereOverwritten() {
        CHECK.sentence("undo() removes the latest state and restores it.");
        FibreBench x = new FibreBench();
        x.addBend(10, 100);
        x.addBend(20, 200);
        x.addPoint(1, 2);
        x.addPoint(3, 4);
        // Each number of the rows gets another value before all is undone.
        x.removeBend(0);
        x.addBend(30, 300);
        x.clearMap();
        x.addPoint(5, 6);
        for (int left = 7; left >= 4; left--) {
            CHECK.due("undo()", x.undo(), left);
        }
        int[][] bends = {{100, 10}, {200, 20}};
        int[][] points = {{1, 2}, {3, 4}};
        for (int i = 0; i < 2; i++) {
            for (int what = 0; what < 2; what++) {
                CHECK.due("bend(" + i + ", " + what + ")", x.bend(i, what), bends[i][what]);
                CHECK.due("point(" + i + ", " + what + ")", x.point(i, what), points[i][what]);
            }
        }
    }

    private static void tracesBehindUndo() {
        CHECK.sentence("undo() removes the latest state and restores it.");
        FibreBench x = Benches.ofLengths(20);
        CHECK.due("sample(0, 1, 10)", x.sample(0, 1, 10), 30290);
        x.addBend(5, 500);
        CHECK.due("behind a change", x.sample(0, 1, 10), 29790);
        CHECK.due("its event", x.event(0, 1, 0, 0), 5);
        x.undo();
        CHECK.due("behind undo()", x.sample(0, 1, 10), 30290);
        CHECK.due("the end alone", x.event(0, 1, 0, 0), 20);
        x.undo();
        x.begin(20, 1, 0);
        x.addBend(6, 700);
        CHECK.due("behind another change", x.sample(0, 1, 10), 29590);
        CHECK.due("its event", x.event(0, 1, 0, 0), 6);
        CHECK.due("its event from the other side", x.event(1, 1, 0, 0), 14);
        // Nothing is asked between undo() and the next change.
        x.undo();
        x.addBend(7, 900);
        CHECK.due("in place of a change", x.sample(0, 1, 10), 29390);
        CHECK.due("its event", x.event(0, 1, 0, 0), 7);
    }

    private static void manyRounds() {
        CHECK.sentence("A history of at most 8 states is kept");
        // Three changes and two undos each round: one state more a round, until there are eight.
        FibreBench x = new FibreBench();
        int kept = 0;
        for (int round = 0; round < 60; round++) {
            for (int i = 0; i < 3; i++) {
                x.begin(1 + round + i, 1, 0);
                kept = Math.min(8, kept + 1);
            }
            CHECK.due("undo()", x.undo(), --kept);
            CHECK.due("undo()", x.undo(), --kept);
            CHECK.due("told(0)", x.told(0), 1 + round);
        }
        for (int left = 5; left >= 0; left--) {
            CHECK.due("undo()", x.undo(), left);
            CHECK.due("told(0)", x.told(0), 54 + left);
        }
        CHECK.due("undo()", x.undo(), NOT_POSSIBLE);
    }

    private static void textAndFault() {
        CHECK.sentence("The text and its latest fault do not belong to a state.");
        FibreBench x = new FibreBench();
        Benches.write(x, "5x6b7;");
        x.load();
        Benches.write(x, "y");
        x.load();
        CHECK.due("fault(0)", x.fault(0), 6);
        CHECK.due("undo() of load()", x.undo(), 0);
        CHECK.due("told(0)", x.told(0), 100);
        CHECK.due("the text stays", x.told(7), 7);
        CHECK.due("its fault stays", x.fault(0), 6);
        CHECK.due("its kind stays", x.fault(1), 1);
        x.begin(9, 9, 9);
        x.wipe();
        x.undo();
        CHECK.due("what is wiped stays wiped", x.told(7), 0);
        FibreBench y = new FibreBench();
        y.begin(9, 9, 9);
        y.load();
        y.undo();
        CHECK.due("a fault behind a change stays", y.fault(1), 1);
        FibreBench z = new FibreBench();
        z.begin(9, 9, 9);
        z.undo();
        CHECK.due("no fault comes", z.fault(0), NONE);
    }

    private static void otherCalls() {
        CHECK.sentence("The calls that are called changes below can be undone");
        FibreBench x = new FibreBench();
        x.write('1');
        x.wipe();
        x.told(0);
        x.sample(0, 1, 0);
        x.events(0, 1);
        x.joinedCount(1);
        x.toRoute(0);
        x.fault(0);
        CHECK.due("none of them was a change", x.undo(), NOT_POSSIBLE);
    }
}
