/** Promises 1 to 14: the fibre, its changes, and what is told of it. */
public final class FibreTest {
    private static final int BAD_NUMBER = FibreBench.BAD_NUMBER;
    private static final int BAD_VALUE = FibreBench.BAD_VALUE;
    private static final int FULL = FibreBench.FULL;
    private static final int NOT_POSSIBLE = FibreBench.NOT_POSSIBLE;
    private static final int NONE = FibreBench.NONE;
    private static final int LOW = Integer.MIN_VALUE;
    private static final int HIGH = Integer.MAX_VALUE;
    private static final Check CHECK = new Check();

    public static void main(String[] args) {
        newObject();
        begin();
        addSection();
        setJoint();
        addBend();
        removeBend();
        setBreak();
        set();
        undo();
        undoOfEveryChange();
        told();
        section();
        joint();
        bend();
        lossTo();
        CHECK.end();
    }

    private static void newObject() {
        CHECK.promise(1, "a new object");
        int[] first = {100, 1, 0, 0, 0, 0, 30, 0};
        FibreBench x = new FibreBench();
        for (int what = 0; what < first.length; what++) {
            CHECK.due("told(" + what + ")", x.told(what), first[what]);
        }
        CHECK.due("section(0, 0)", x.section(0, 0), 100);
        CHECK.due("section(0, 1)", x.section(0, 1), 20);
        CHECK.due("section(0, 2)", x.section(0, 2), 1000);
        CHECK.due("joint(0, 0)", x.joint(0, 0), 0);
        CHECK.due("joint(0, 1)", x.joint(0, 1), 0);
        CHECK.due("joint(1, 0)", x.joint(1, 0), 0);
        CHECK.due("joint(1, 1)", x.joint(1, 1), 0);
        CHECK.due("fault(0)", x.fault(0), NONE);
        CHECK.due("fault(1)", x.fault(1), NONE);
        CHECK.due("undo()", x.undo(), NOT_POSSIBLE);
        int[] settings = {20, 100, 2, 1000};
        for (int setting = 0; setting < settings.length; setting++) {
            CHECK.due("set(" + setting + ", 5)", x.set(setting, 5), settings[setting]);
        }
        FibreBench other = new FibreBench();
        CHECK.due("set(0, 5) of another object", other.set(0, 5), 20);
        CHECK.due("told(0) of another object", other.told(0), 100);
    }

    private static void begin() {
        CHECK.promise(2, "begin");
        FibreBench x = full();
        CHECK.due("begin(1, 1, 0)", x.begin(1, 1, 0), 80);
        int[] told = {1, 1, 0, 0, 0, 1, 30, 1};
        for (int what = 0; what < told.length; what++) {
            CHECK.due("told(" + what + ") behind begin", x.told(what), told[what]);
        }
        for (int joint = 0; joint < 2; joint++) {
            CHECK.due("loss of joint behind begin", x.joint(joint, 0), 0);
            CHECK.due("height of joint behind begin", x.joint(joint, 1), 0);
        }
        CHECK.due("joint(1, 2)", x.joint(1, 2), 1);
        CHECK.due("joint(2, 0)", x.joint(2, 0), BAD_NUMBER);
        CHECK.due("bend(0, 0)", x.bend(0, 0), BAD_NUMBER);
        CHECK.due("begin(100, 60, 2000)", x.begin(100, 60, 2000), 1);
        CHECK.due("section(0, 0)", x.section(0, 0), 100);
        CHECK.due("section(0, 1)", x.section(0, 1), 60);
        CHECK.due("section(0, 2)", x.section(0, 2), 2000);
        int[][] wrong = {{0, 1, 0}, {101, 1, 0}, {1, 0, 0}, {1, 61, 0}, {1, 1, -1}, {1, 1, 2001},
            {LOW, 1, 0}, {HIGH, 1, 0}, {1, LOW, 0}, {1, HIGH, 0}, {1, 1, LOW}, {1, 1, HIGH}};
        for (int[] w : wrong) {
            CHECK.due("begin with a wrong value", x.begin(w[0], w[1], w[2]), BAD_VALUE);
        }
        CHECK.due("told(0) behind errors", x.told(0), 100);
        CHECK.due("undo() behind errors", x.undo(), 10 - 3);
        // A joint that was high before a new fibre has no height when the fibre grows again.
        FibreBench y = new FibreBench();
        y.addSection(10, 10, 10);
        y.setJoint(2, 30, 40);
        y.begin(10, 10, 10);
        y.addSection(10, 10, 10);
        CHECK.due("joint(2, 0)", y.joint(2, 0), 0);
        CHECK.due("joint(2, 1)", y.joint(2, 1), 0);
    }

    /** A fibre of 80 units with all that it can have, behind more than eight changes. */
    private static FibreBench full() {
        FibreBench x = new FibreBench();
        x.begin(50, 10, 100);
        x.addSection(30, 20, 200);
        x.setJoint(0, 1, 2);
        x.setJoint(1, 3, 4);
        x.setJoint(2, 5, 6);
        x.addBend(79, 7);
        x.setBreak(78, 8);
        x.addPoint(3, 4);
        x.set(0, 60);
        x.write('7');
        return x;
    }

    private static void addSection() {
        CHECK.promise(3, "addSection");
        FibreBench x = full();
        CHECK.due("addSection(1, 60, 2000)", x.addSection(1, 60, 2000), 2);
        CHECK.due("told(0)", x.told(0), 81);
        CHECK.due("section(2, 0)", x.section(2, 0), 1);
        CHECK.due("section(2, 1)", x.section(2, 1), 60);
        CHECK.due("section(2, 2)", x.section(2, 2), 2000);
        CHECK.due("section(2, 3)", x.section(2, 3), 80);
        CHECK.due("the old last joint keeps its loss", x.joint(2, 0), 5);
        CHECK.due("the old last joint keeps its height", x.joint(2, 1), 6);
        CHECK.due("the old last joint keeps its place", x.joint(2, 2), 80);
        CHECK.due("joint(3, 0)", x.joint(3, 0), 0);
        CHECK.due("joint(3, 1)", x.joint(3, 1), 0);
        CHECK.due("the bend stays", x.bend(0, 1), 79);
        CHECK.due("the break stays", x.told(3), 78);
        CHECK.due("its height stays", x.told(4), 8);
        int[][] wrong = {{0, 1, 0}, {101, 1, 0}, {1, 0, 0}, {1, 61, 0}, {1, 1, -1}, {1, 1, 2001}, {HIGH, 1, 0}, {LOW, 1, 0}};
        for (int[] w : wrong) {
            CHECK.due("addSection with a wrong value", x.addSection(w[0], w[1], w[2]), BAD_VALUE);
        }
        CHECK.due("told(1) behind errors", x.told(1), 3);

        FibreBench lengths = new FibreBench();
        lengths.addSection(100, 1, 0);
        CHECK.due("up to 299", lengths.addSection(99, 1, 0), 2);
        CHECK.due("up to 301", lengths.addSection(2, 1, 0), FULL);
        CHECK.due("up to 300", lengths.addSection(1, 1, 0), 3);
        CHECK.due("above 300", lengths.addSection(1, 1, 0), FULL);
        CHECK.due("BAD_VALUE is named ahead of FULL", lengths.addSection(101, 1, 0), BAD_VALUE);
        CHECK.due("told(0)", lengths.told(0), 300);

        FibreBench many = new FibreBench();
        many.begin(1, 1, 0);
        for (int i = 1; i < 8; i++) {
            CHECK.due("section " + i, many.addSection(1, 1, 0), i);
        }
        CHECK.due("a ninth section", many.addSection(1, 1, 0), FULL);
        CHECK.due("a ninth, wrong section", many.addSection(1, 1, -1), BAD_VALUE);
        CHECK.due("told(1)", many.told(1), 8);
        CHECK.due("joint(8, 2)", many.joint(8, 2), 8);
        CHECK.due("setJoint(8, 3000, 9000)", many.setJoint(8, 3000, 9000), 0);
        CHECK.due("joint(8, 1)", many.joint(8, 1), 9000);
    }

    private static void setJoint() {
        CHECK.promise(4, "setJoint");
        FibreBench x = new FibreBench();
        CHECK.due("setJoint(0, 3000, 9000)", x.setJoint(0, 3000, 9000), 0);
        CHECK.due("setJoint(1, 17, 18)", x.setJoint(1, 17, 18), 0);
        CHECK.due("joint(0, 0)", x.joint(0, 0), 3000);
        CHECK.due("joint(0, 1)", x.joint(0, 1), 9000);
        CHECK.due("joint(1, 0)", x.joint(1, 0), 17);
        CHECK.due("joint(1, 1)", x.joint(1, 1), 18);
        CHECK.due("setJoint(0, 0, 0)", x.setJoint(0, 0, 0), 3000);
        CHECK.due("joint(0, 1)", x.joint(0, 1), 0);
        for (int joint : new int[] {-1, 2, LOW, HIGH}) {
            CHECK.due("setJoint(" + joint + ", 0, 0)", x.setJoint(joint, 0, 0), BAD_NUMBER);
            CHECK.due("BAD_NUMBER is named first", x.setJoint(joint, -1, 9001), BAD_NUMBER);
        }
        int[][] wrong = {{-1, 0}, {3001, 0}, {0, -1}, {0, 9001}, {LOW, 0}, {HIGH, 0}, {0, LOW}, {0, HIGH}};
        for (int[] w : wrong) {
            CHECK.due("setJoint with a wrong value", x.setJoint(1, w[0], w[1]), BAD_VALUE);
        }
        CHECK.due("joint(1, 0) behind errors", x.joint(1, 0), 17);
        CHECK.due("undo()", x.undo(), 2);
        CHECK.due("joint(0, 0) behind undo", x.joint(0, 0), 3000);
    }

    private static void addBend() {
        CHECK.promise(5, "addBend");
        FibreBench x = new FibreBench();
        int[][] bends = {{99, 3000}, {1, 1}, {1, 2}, {50, 3}, {50, 4}, {2, 5}};
        for (int i = 0; i < bends.length; i++) {
            CHECK.due("bend " + i, x.addBend(bends[i][0], bends[i][1]), i);
        }
        for (int i = 0; i < bends.length; i++) {
            CHECK.due("bend(" + i + ", 0)", x.bend(i, 0), bends[i][1]);
            CHECK.due("bend(" + i + ", 1)", x.bend(i, 1), bends[i][0]);
        }
        CHECK.due("a seventh bend", x.addBend(1, 1), FULL);
        int[][] wrong = {{0, 1}, {100, 1}, {1, 0}, {1, 3001}, {-1, 1}, {LOW, 1}, {HIGH, 1}, {1, LOW}, {1, HIGH}};
        for (int[] w : wrong) {
            CHECK.due("BAD_VALUE is named ahead of FULL", x.addBend(w[0], w[1]), BAD_VALUE);
        }
        CHECK.due("told(2)", x.told(2), 6);
        FibreBench shortest = new FibreBench();
        shortest.begin(1, 1, 0);
        CHECK.due("a fibre of one unit has no place for a bend", shortest.addBend(1, 1), BAD_VALUE);
        CHECK.due("nor at 0", shortest.addBend(0, 1), BAD_VALUE);
    }

    private static void removeBend() {
        CHECK.promise(6, "removeBend");
        FibreBench x = new FibreBench();
        CHECK.due("removeBend(0) without bends", x.removeBend(0), BAD_NUMBER);
        for (int i = 0; i < 6; i++) {
            x.addBend(10 + i, 100 + i);
        }
        for (int bend : new int[] {-1, 6, LOW, HIGH}) {
            CHECK.due("removeBend(" + bend + ")", x.removeBend(bend), BAD_NUMBER);
        }
        CHECK.due("removeBend(2)", x.removeBend(2), 102);
        CHECK.due("bend(1, 0)", x.bend(1, 0), 101);
        CHECK.due("bend(2, 0)", x.bend(2, 0), 103);
        CHECK.due("bend(2, 1)", x.bend(2, 1), 13);
        CHECK.due("bend(4, 0)", x.bend(4, 0), 105);
        CHECK.due("bend(5, 0)", x.bend(5, 0), BAD_NUMBER);
        CHECK.due("removeBend(4)", x.removeBend(4), 105);
        CHECK.due("removeBend(0)", x.removeBend(0), 100);
        CHECK.due("told(2)", x.told(2), 3);
        CHECK.due("bend(0, 1)", x.bend(0, 1), 11);
        CHECK.due("addBend(5, 5)", x.addBend(5, 5), 3);
        x.undo();
        CHECK.due("undo()", x.undo(), 6);
        CHECK.due("bend(0, 0) behind undo", x.bend(0, 0), 100);
        CHECK.due("bend(0, 1) behind undo", x.bend(0, 1), 10);
        CHECK.due("bend(3, 0) behind undo", x.bend(3, 0), 104);
        CHECK.due("bend(3, 1) behind undo", x.bend(3, 1), 14);
    }

    private static void setBreak() {
        CHECK.promise(7, "setBreak");
        FibreBench x = new FibreBench();
        CHECK.due("nothing to repair", x.setBreak(0, 9000), NOT_POSSIBLE);
        CHECK.due("setBreak(99, 9000)", x.setBreak(99, 9000), 0);
        CHECK.due("told(3)", x.told(3), 99);
        CHECK.due("told(4)", x.told(4), 9000);
        CHECK.due("setBreak(1, 0)", x.setBreak(1, 0), 99);
        CHECK.due("told(4)", x.told(4), 0);
        CHECK.due("setBreak(1, 5)", x.setBreak(1, 5), 1);
        int[][] wrong = {{-1, 0}, {100, 0}, {1, -1}, {1, 9001}, {0, -1}, {0, 9001}, {LOW, 0}, {HIGH, 0}, {1, LOW}, {1, HIGH}};
        for (int[] w : wrong) {
            CHECK.due("setBreak with a wrong value", x.setBreak(w[0], w[1]), BAD_VALUE);
        }
        CHECK.due("repaired", x.setBreak(0, 9000), 1);
        CHECK.due("told(3)", x.told(3), 0);
        CHECK.due("told(4)", x.told(4), 0);
        CHECK.due("repaired again", x.setBreak(0, 0), NOT_POSSIBLE);
        CHECK.due("BAD_VALUE is named ahead of NOT_POSSIBLE", x.setBreak(0, 9001), BAD_VALUE);
        CHECK.due("undo()", x.undo(), 3);
        CHECK.due("told(3) behind undo", x.told(3), 1);
        CHECK.due("told(4) behind undo", x.told(4), 5);
        FibreBench shortest = new FibreBench();
        shortest.begin(1, 1, 0);
        CHECK.due("a fibre of one unit cannot break", shortest.setBreak(1, 0), BAD_VALUE);
        CHECK.due("nor be repaired", shortest.setBreak(0, 0), NOT_POSSIBLE);
    }

    private static void set() {
        CHECK.promise(8, "set");
        int[] least = {0, 1, 0, 0};
        int[] greatest = {60, 5000, 20, 9000};
        int[] first = {20, 100, 2, 1000};
        FibreBench x = new FibreBench();
        for (int i = 0; i < 4; i++) {
            CHECK.due("below the range of " + i, x.set(i, least[i] - 1), BAD_VALUE);
            CHECK.due("above the range of " + i, x.set(i, greatest[i] + 1), BAD_VALUE);
            CHECK.due("far below " + i, x.set(i, LOW), BAD_VALUE);
            CHECK.due("far above " + i, x.set(i, HIGH), BAD_VALUE);
            CHECK.due("the least of " + i, x.set(i, least[i]), first[i]);
            CHECK.due("the greatest of " + i, x.set(i, greatest[i]), least[i]);
            CHECK.due("the first again " + i, x.set(i, first[i]), greatest[i]);
        }
        for (int setting : new int[] {-1, 4, LOW, HIGH}) {
            CHECK.due("set(" + setting + ", 1)", x.set(setting, 1), BAD_NUMBER);
            CHECK.due("BAD_NUMBER is named first", x.set(setting, -1), BAD_NUMBER);
        }
        CHECK.due("undo()", x.undo(), 7);
        CHECK.due("set(3, 0) behind undo", x.set(3, 0), 9000);
    }

    private static void undo() {
        CHECK.promise(9, "undo");
        FibreBench x = new FibreBench();
        for (int length = 1; length <= 20; length++) {
            x.begin(length, 1, 0);
        }
        // Errors are no changes, and calls that only tell or write are none either.
        x.begin(0, 1, 0);
        x.addBend(0, 0);
        x.load();
        x.write('5');
        x.wipe();
        x.events(0, 1);
        for (int left = 7; left >= 0; left--) {
            CHECK.due("undo()", x.undo(), left);
            CHECK.due("told(0)", x.told(0), 12 + left);
        }
        CHECK.due("a ninth undo()", x.undo(), NOT_POSSIBLE);
        CHECK.due("told(0)", x.told(0), 12);
        CHECK.due("a change that changes nothing", x.set(0, 20), 20);
        CHECK.due("can be undone too", x.undo(), 0);
        for (int i = 0; i < 30; i++) {
            x.begin(30 + i, 1, 0);
            x.begin(70, 1, 0);
            CHECK.due("undo() between changes", x.undo(), Math.min(i + 1, 7));
            CHECK.due("told(0)", x.told(0), 30 + i);
        }
        FibreBench y = new FibreBench();
        y.write('1');
        y.begin(5, 5, 5);
        y.write('2');
        y.load();
        y.undo();
        CHECK.due("the text does not belong to a state", y.told(7), 2);
        CHECK.due("nor does its fault", y.fault(0), 2);
    }

    private static void undoOfEveryChange() {
        FibreBench x = full();
        x.write('x');
        x.write('1');
        x.write('b');
        x.write('1');
        x.write(';');
        int[] before = digest(x);
        for (int change = 0; change < 12; change++) {
            int answer = change(x, change);
            CHECK.holds("change " + change + " reports no error", answer >= 0);
            CHECK.due("undo() of change " + change, x.undo(), 7);
            int[] after = digest(x);
            for (int i = 0; i < before.length; i++) {
                CHECK.due("number " + i + " behind undo() of change " + change, after[i], before[i]);
            }
            x.set(0, 60);
        }
    }

    private static int change(FibreBench x, int kind) {
        switch (kind) {
            case 0: return x.begin(9, 9, 9);
            case 1: return x.addSection(9, 9, 9);
            case 2: return x.setJoint(1, 9, 9);
            case 3: return x.addBend(9, 9);
            case 4: return x.removeBend(0);
            case 5: return x.setBreak(9, 9);
            case 6: return x.set(1, 9);
            case 7: return x.addPoint(9, 9);
            case 8: return x.clearMap();
            case 9: return x.setExcess(9);
            case 10: return x.load();
            default: return x.setBreak(0, 9);
        }
    }

    private static int[] digest(FibreBench x) {
        return new int[] {x.told(0), x.told(1), x.told(2), x.told(3), x.told(4), x.told(5), x.told(6), x.told(7),
            x.section(0, 0), x.section(0, 1), x.section(0, 2), x.section(1, 0), x.section(1, 1), x.section(1, 2),
            x.joint(0, 0), x.joint(0, 1), x.joint(1, 0), x.joint(1, 1), x.joint(2, 0), x.joint(2, 1),
            x.bend(0, 0), x.bend(0, 1), x.point(0, 0), x.point(0, 1), x.sample(0, 1, 49), x.sample(1, 9, 5),
            x.stitched(0, 2), x.events(0, 2), x.event(0, 2, 0, 3), x.joinedCount(2), x.placed(2, 0)};
    }

    private static void told() {
        CHECK.promise(10, "told");
        FibreBench x = full();
        x.setExcess(77);
        x.write('5');
        int[] told = {80, 2, 1, 78, 8, 1, 77, 2};
        for (int what = 0; what < told.length; what++) {
            CHECK.due("told(" + what + ")", x.told(what), told[what]);
        }
        for (int what : new int[] {-1, 8, LOW, HIGH}) {
            CHECK.due("told(" + what + ")", x.told(what), BAD_VALUE);
        }
    }

    private static void section() {
        CHECK.promise(11, "section");
        FibreBench x = full();
        x.addSection(7, 8, 9);
        int[][] told = {{50, 10, 100, 0}, {30, 20, 200, 50}, {7, 8, 9, 80}};
        for (int section = 0; section < 3; section++) {
            for (int what = 0; what < 4; what++) {
                CHECK.due("section(" + section + ", " + what + ")", x.section(section, what), told[section][what]);
            }
            CHECK.due("section(" + section + ", -1)", x.section(section, -1), BAD_VALUE);
            CHECK.due("section(" + section + ", 4)", x.section(section, 4), BAD_VALUE);
        }
        for (int section : new int[] {-1, 3, LOW, HIGH}) {
            CHECK.due("section(" + section + ", 0)", x.section(section, 0), BAD_NUMBER);
            CHECK.due("BAD_NUMBER is named first", x.section(section, 4), BAD_NUMBER);
        }
    }

    private static void joint() {
        CHECK.promise(12, "joint");
        FibreBench x = full();
        int[][] told = {{1, 2, 0}, {3, 4, 50}, {5, 6, 80}};
        for (int joint = 0; joint < 3; joint++) {
            for (int what = 0; what < 3; what++) {
                CHECK.due("joint(" + joint + ", " + what + ")", x.joint(joint, what), told[joint][what]);
            }
            CHECK.due("joint(" + joint + ", -1)", x.joint(joint, -1), BAD_VALUE);
            CHECK.due("joint(" + joint + ", 3)", x.joint(joint, 3), BAD_VALUE);
        }
        for (int joint : new int[] {-1, 3, LOW, HIGH}) {
            CHECK.due("joint(" + joint + ", 0)", x.joint(joint, 0), BAD_NUMBER);
            CHECK.due("BAD_NUMBER is named first", x.joint(joint, 3), BAD_NUMBER);
        }
    }

    private static void bend() {
        CHECK.promise(13, "bend");
        FibreBench x = full();
        CHECK.due("bend(0, 0)", x.bend(0, 0), 7);
        CHECK.due("bend(0, 1)", x.bend(0, 1), 79);
        CHECK.due("bend(0, 2)", x.bend(0, 2), BAD_VALUE);
        CHECK.due("bend(0, -1)", x.bend(0, -1), BAD_VALUE);
        for (int bend : new int[] {-1, 1, LOW, HIGH}) {
            CHECK.due("bend(" + bend + ", 0)", x.bend(bend, 0), BAD_NUMBER);
            CHECK.due("BAD_NUMBER is named first", x.bend(bend, 2), BAD_NUMBER);
        }
    }

    private static void lossTo() {
        CHECK.promise(14, "lossTo");
        FibreBench x = new FibreBench();
        x.begin(10, 5, 0);
        x.addSection(20, 7, 0);
        x.setJoint(0, 1000, 0);
        x.setJoint(1, 200, 0);
        x.setJoint(2, 30, 0);
        x.addBend(10, 4);
        x.addBend(29, 5);
        x.addBend(29, 6);
        // From side 0: joint 0 at 0, joint 1 and a bend at 10, two bends at 29, joint 2 at 30.
        int[][] near = {{0, 1000}, {1, 1005}, {9, 1045}, {10, 1254}, {11, 1261}, {28, 1380}, {29, 1398}, {30, 1435}};
        // From side 1: joint 2 at 0, two bends at 1, joint 1 and a bend at 20, joint 0 at 30.
        int[][] far = {{0, 30}, {1, 48}, {2, 55}, {19, 174}, {20, 385}, {21, 390}, {29, 430}, {30, 1435}};
        for (int[] pair : near) {
            CHECK.due("lossTo(0, " + pair[0] + ")", x.lossTo(0, pair[0]), pair[1]);
        }
        for (int[] pair : far) {
            CHECK.due("lossTo(1, " + pair[0] + ")", x.lossTo(1, pair[0]), pair[1]);
        }
        x.setBreak(5, 9000);
        CHECK.due("a break changes no losses", x.lossTo(0, 30), 1435);
        CHECK.due("from neither side", x.lossTo(1, 30), 1435);
        for (int wrong : new int[] {-1, 31, LOW, HIGH}) {
            CHECK.due("lossTo(0, " + wrong + ")", x.lossTo(0, wrong), BAD_VALUE);
        }
        for (int side : new int[] {-1, 2, LOW, HIGH}) {
            CHECK.due("lossTo(" + side + ", 0)", x.lossTo(side, 0), BAD_VALUE);
        }
        x.removeBend(0);
        CHECK.due("lossTo(0, 30) behind a change", x.lossTo(0, 30), 1431);
        x.undo();
        CHECK.due("lossTo(0, 30) behind undo", x.lossTo(0, 30), 1435);
    }
}
