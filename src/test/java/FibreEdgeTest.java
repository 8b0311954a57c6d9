import java.util.List;
import java.util.function.IntUnaryOperator;

/** The edges that the document names for the fibre: "Fibres" under "Terms", and promises 1 to 14. */
public final class FibreEdgeTest {
    private static final int BAD_NUMBER = FibreBench.BAD_NUMBER;
    private static final int BAD_VALUE = FibreBench.BAD_VALUE;
    private static final int FULL = FibreBench.FULL;
    private static final int NOT_POSSIBLE = FibreBench.NOT_POSSIBLE;
    private static final int LOW = Integer.MIN_VALUE;
    private static final int HIGH = Integer.MAX_VALUE;
    private static final Check CHECK = new Check();

    public static void main(String[] args) {
        constants();
        callsOfAnObject();
        numberOfSections();
        rangesOfSections();
        argumentsOfSections();
        longestFibre();
        longestFibreOfEightSections();
        numbersOfJoints();
        rangesOfJoints();
        numberOfBends();
        rangesOfBends();
        bendsAtOnePlace();
        rangesOfTheBreak();
        firstFibre();
        firstState();
        beginLeavesNothingBehind();
        beginTellsThePreviousLength();
        newLastJoint();
        oldLastJoint();
        bendsAndBreakStay();
        previousLossOfAJoint();
        orderOfBends();
        removedBends();
        breakInPlaceOfAnother();
        repairs();
        nothingToRepair();
        settings();
        settingsTellThePreviousValue();
        toldNumbers();
        toldBreak();
        propertiesOfSections();
        propertiesOfJoints();
        propertiesOfBends();
        lossUnits();
        lossAtJoints();
        lossAtBends();
        lossBehindABreak();
        lossOfTheLongest();
        CHECK.end();
    }

    /** The last values that are allowed, with what they answer, and the first that are not. */
    private static void range(String name, int least, int greatest, int error, int answer, IntUnaryOperator call) {
        CHECK.due(name + " " + least, call.applyAsInt(least), answer);
        CHECK.due(name + " " + greatest, call.applyAsInt(greatest), answer);
        for (int beyond : new int[] {least - 1, greatest + 1, LOW, HIGH}) {
            CHECK.due(name + " " + beyond, call.applyAsInt(beyond), error);
        }
    }

    private static int loaded(String text) {
        FibreBench x = new FibreBench();
        Benches.write(x, text);
        return x.load();
    }

    // ---- Terms

    private static void constants() {
        CHECK.sentence("`BAD_NUMBER = -1000001`");
        CHECK.due("BAD_NUMBER", new FibreBench().removeBend(0), -1000001);
        CHECK.sentence("`BAD_VALUE = -1000002`");
        CHECK.due("BAD_VALUE", new FibreBench().told(-1), -1000002);
        CHECK.sentence("`FULL = -1000003`");
        CHECK.due("FULL", Benches.longest().addSection(1, 1, 0), -1000003);
        CHECK.sentence("`NOT_POSSIBLE = -1000004`");
        CHECK.due("NOT_POSSIBLE", new FibreBench().undo(), -1000004);
        CHECK.sentence("`NONE = -1000005`");
        CHECK.due("NONE", new FibreBench().toRoute(0), -1000005);
    }

    private static void callsOfAnObject() {
        CHECK.sentence("An object is used for at most 512 calls after it has been made");
        FibreBench changed = new FibreBench();
        for (int call = 1; call <= 510; call++) {
            CHECK.due("change " + call, changed.begin(1 + call % 100, 1, 0), call == 1 ? 100 : 1 + (call - 1) % 100);
        }
        CHECK.due("the 511th call", changed.sample(0, 1, 10), 30290);
        CHECK.due("the 512th call", changed.undo(), 7);
        FibreBench asked = new FibreBench();
        for (int call = 1; call <= 511; call++) {
            asked.sample(call % 2, 1 + call % 9, call % 401);
        }
        CHECK.due("the 512th call", asked.sample(1, 9, 99), 30000 + 2700 + 1000 - 99 * 20);
    }

    private static void numberOfSections() {
        CHECK.sentence("A fibre consists of 1 to 8 sections, numbered from 0 from its side 0 to its side 1.");
        FibreBench x = Benches.ofLengths(1);
        CHECK.due("one section", x.told(1), 1);
        CHECK.due("section(0, 0)", x.section(0, 0), 1);
        for (int number = 1; number < 8; number++) {
            CHECK.due("section(" + number + ", 0)", x.section(number, 0), BAD_NUMBER);
            CHECK.due("addSection", x.addSection(1 + number, 1, 0), number);
            CHECK.due("section(" + number + ", 0)", x.section(number, 0), 1 + number);
        }
        CHECK.due("eight sections", x.told(1), 8);
        CHECK.due("a ninth", x.addSection(1, 1, 0), FULL);
        CHECK.due("section(8, 0)", x.section(8, 0), BAD_NUMBER);
        CHECK.due("section(-1, 0)", x.section(-1, 0), BAD_NUMBER);
        CHECK.due("eight sections", x.told(1), 8);
        CHECK.due("one item", loaded("1x1b1;"), 1);
        CHECK.due("eight items", loaded("1x1b1;".repeat(8)), 8);
        CHECK.due("nine items", loaded("1x1b1;".repeat(9)), NOT_POSSIBLE);
        CHECK.due("no item", loaded(""), NOT_POSSIBLE);
    }

    private static void rangesOfSections() {
        CHECK.sentence("A section has a length from 1 to 100 (in units), an attenuation from 1 to 60 (a loss for each unit), "
                + "and a scatter from 0 to 2000.");
        int[][] numbers = {{1, 1, 0}, {100, 60, 2000}};
        for (int[] n : numbers) {
            FibreBench begun = new FibreBench();
            begun.begin(n[0], n[1], n[2]);
            FibreBench grown = new FibreBench();
            grown.addSection(n[0], n[1], n[2]);
            for (int what = 0; what < 3; what++) {
                CHECK.due("begun with the number " + n[what], begun.section(0, what), n[what]);
                CHECK.due("grown with the number " + n[what], grown.section(1, what), n[what]);
            }
        }
        CHECK.due("a text with the least numbers", loaded("1x1b0;"), 1);
        CHECK.due("a text with the greatest numbers", loaded("100x60b2000;"), 1);
        for (String text : new String[] {"0x1b0;", "101x1b0;", "1x0b0;", "1x61b0;", "1x1b2001;"}) {
            CHECK.due("load() of " + text, loaded(text), NOT_POSSIBLE);
        }
    }

    private static void argumentsOfSections() {
        CHECK.sentence("- `length`: its length, 1 to 100");
        range("begin's length", 1, 100, BAD_VALUE, 100, v -> new FibreBench().begin(v, 1, 0));
        range("addSection's length", 1, 100, BAD_VALUE, 1, v -> new FibreBench().addSection(v, 60, 2000));
        CHECK.sentence("- `attenuation`: its attenuation, 1 to 60");
        range("begin's attenuation", 1, 60, BAD_VALUE, 100, v -> new FibreBench().begin(1, v, 0));
        range("addSection's attenuation", 1, 60, BAD_VALUE, 1, v -> new FibreBench().addSection(100, v, 2000));
        CHECK.sentence("- `scatter`: its scatter, 0 to 2000");
        range("begin's scatter", 0, 2000, BAD_VALUE, 100, v -> new FibreBench().begin(1, 1, v));
        range("addSection's scatter", 0, 2000, BAD_VALUE, 1, v -> new FibreBench().addSection(100, 60, v));
    }

    private static void longestFibre() {
        CHECK.sentence("The length L of the fibre is the sum of the lengths, at most 300.");
        FibreBench x = Benches.ofLengths(100, 100, 98);
        CHECK.due("298", x.told(0), 298);
        CHECK.due("up to 301", x.addSection(3, 1, 0), FULL);
        CHECK.due("up to 398", x.addSection(100, 1, 0), FULL);
        CHECK.due("still 298", x.told(0), 298);
        CHECK.due("up to 300", x.addSection(2, 1, 0), 3);
        CHECK.due("300", x.told(0), 300);
        CHECK.due("beyond 300", x.addSection(1, 1, 0), FULL);
        CHECK.due("a text of 300", loaded("100x1b1;100x1b1;98x1b1;2x1b1;"), 4);
        CHECK.due("a text of 301", loaded("100x1b1;100x1b1;98x1b1;3x1b1;"), NOT_POSSIBLE);
    }

    private static void longestFibreOfEightSections() {
        CHECK.sentence("FULL if there are 8 sections, or L would be above 300.");
        FibreBench x = Benches.ofLengths(100, 50, 50, 50, 20, 20, 9);
        CHECK.due("the eighth up to 301", x.addSection(2, 1, 0), FULL);
        CHECK.due("the eighth up to 300", x.addSection(1, 1, 0), 7);
        CHECK.due("told(0)", x.told(0), 300);
        CHECK.due("told(1)", x.told(1), 8);
    }

    private static void numbersOfJoints() {
        CHECK.sentence("With n sections there are n + 1 joints, numbered from 0: joint 0 is at place 0, joint k at the end of "
                + "section k - 1, joint n at place L.");
        int[] lengths = {1, 2, 3, 4, 5, 6, 7, 100};
        FibreBench x = Benches.ofLengths(1);
        int place = 1;
        for (int n = 1; n <= 8; n++) {
            CHECK.due("joint 0 of " + n + " sections", x.joint(0, 2), 0);
            CHECK.due("joint n of " + n + " sections", x.joint(n, 2), place);
            CHECK.due("L", x.told(0), place);
            CHECK.due("joint(n + 1, 2)", x.joint(n + 1, 2), BAD_NUMBER);
            CHECK.due("joint(-1, 2)", x.joint(-1, 2), BAD_NUMBER);
            if (n < 8) {
                x.addSection(lengths[n], 1, 0);
                place += lengths[n];
            }
        }
        int[] places = {0, 1, 3, 6, 10, 15, 21, 28, 128};
        for (int joint = 0; joint <= 8; joint++) {
            CHECK.due("joint(" + joint + ", 2)", x.joint(joint, 2), places[joint]);
        }
    }

    private static void rangesOfJoints() {
        CHECK.sentence("A joint has a loss from 0 to 3000 and a height from 0 to 9000 (of a reflection; 0 is none), "
                + "both 0 at first.");
        FibreBench x = Benches.eightSections();
        for (int joint = 0; joint <= 8; joint++) {
            CHECK.due("loss at first", x.joint(joint, 0), 0);
            CHECK.due("height at first", x.joint(joint, 1), 0);
        }
        for (int joint : new int[] {0, 8}) {
            x.setJoint(joint, 3000, 9000);
            CHECK.due("the greatest loss", x.joint(joint, 0), 3000);
            CHECK.due("the greatest height", x.joint(joint, 1), 9000);
            x.setJoint(joint, 0, 0);
            CHECK.due("the least loss", x.joint(joint, 0), 0);
            CHECK.due("the least height", x.joint(joint, 1), 0);
        }
        CHECK.sentence("- `joint`: the joint, 0 to the number of sections");
        range("the joint", 0, 1, BAD_NUMBER, 0, v -> new FibreBench().setJoint(v, 1, 1));
        range("the joint", 0, 8, BAD_NUMBER, 0, v -> Benches.eightSections().setJoint(v, 1, 1));
        CHECK.sentence("- `loss`: its loss, 0 to 3000");
        range("loss", 0, 3000, BAD_VALUE, 0, v -> new FibreBench().setJoint(0, v, 9000));
        CHECK.sentence("- `height`: its height, 0 to 9000");
        range("height", 0, 9000, BAD_VALUE, 0, v -> new FibreBench().setJoint(1, 3000, v));
    }

    private static void numberOfBends() {
        CHECK.sentence("Returns its number; BAD_VALUE; FULL if there are 6 bends.");
        FibreBench x = new FibreBench();
        CHECK.due("no bends", x.told(2), 0);
        CHECK.due("bend(0, 0)", x.bend(0, 0), BAD_NUMBER);
        for (int number = 0; number < 6; number++) {
            CHECK.due("bend " + number, x.addBend(10, 1 + number), number);
        }
        CHECK.due("a seventh", x.addBend(10, 7), FULL);
        CHECK.due("six bends", x.told(2), 6);
        CHECK.due("bend(5, 0)", x.bend(5, 0), 6);
        CHECK.due("bend(6, 0)", x.bend(6, 0), BAD_NUMBER);
        x.removeBend(5);
        CHECK.due("a sixth again", x.addBend(10, 8), 5);
        CHECK.due("a seventh again", x.addBend(10, 9), FULL);
    }

    private static void rangesOfBends() {
        CHECK.sentence("There are at most 6 bends, each at a place from 1 to L - 1, with a loss from 1 to 3000");
        range("place in 100", 1, 99, BAD_VALUE, 0, v -> new FibreBench().addBend(v, 1));
        CHECK.sentence("- `loss`: its loss, 1 to 3000");
        range("loss", 1, 3000, BAD_VALUE, 0, v -> new FibreBench().addBend(1, v));
        CHECK.sentence("- `place`: its place, 1 to L - 1");
        range("place in 2", 1, 1, BAD_VALUE, 0, v -> Benches.ofLengths(2).addBend(v, 1));
        range("place in 300", 1, 299, BAD_VALUE, 0, v -> Benches.longest().addBend(v, 1));
        CHECK.due("no place in 1", Benches.shortest().addBend(1, 1), BAD_VALUE);
        CHECK.due("no place in 1", Benches.shortest().addBend(0, 1), BAD_VALUE);
        FibreBench x = Benches.ofLengths(10);
        CHECK.due("at L", x.addBend(10, 1), BAD_VALUE);
        x.addSection(1, 1, 0);
        CHECK.due("at the old L", x.addBend(10, 1), 0);
    }

    private static void bendsAtOnePlace() {
        CHECK.sentence("several can be at the same place.");
        FibreBench x = Benches.ofLengths(10, 10);
        for (int number = 0; number < 6; number++) {
            CHECK.due("bend " + number, x.addBend(10, 3000), number);
        }
        CHECK.due("all losses count", x.lossTo(0, 10), 10 + 6 * 3000);
        CHECK.due("a break there too", x.setBreak(10, 9000), 0);
    }

    private static void rangesOfTheBreak() {
        CHECK.sentence("There may be a break at a place from 1 to L - 1, with a height from 0 to 9000 (none at first).");
        CHECK.due("none at first", new FibreBench().told(3), 0);
        CHECK.due("no height at first", new FibreBench().told(4), 0);
        range("height", 0, 9000, BAD_VALUE, 0, v -> new FibreBench().setBreak(1, v));
        CHECK.sentence("- `place`: the place of the break, 1 to L - 1, or 0 to repair the fibre");
        for (int length : new int[] {2, 3, 100}) {
            range("place in " + length, 0, length - 1, BAD_VALUE, 1, v -> brokenAt1(length).setBreak(v, 0));
        }
        for (int place : new int[] {1, 299}) {
            FibreBench longest = Benches.longest();
            CHECK.due("place in 300", longest.setBreak(place, 9000), 0);
            CHECK.due("told(3)", longest.told(3), place);
        }
        CHECK.due("at 300", Benches.longest().setBreak(300, 0), BAD_VALUE);
        CHECK.due("no place in 1", Benches.shortest().setBreak(1, 0), BAD_VALUE);
        FibreBench x = Benches.ofLengths(10);
        CHECK.due("at L", x.setBreak(10, 1), BAD_VALUE);
        x.addSection(1, 1, 0);
        CHECK.due("at the old L", x.setBreak(10, 1), 0);
        CHECK.due("told(3)", x.told(3), 10);
    }

    private static FibreBench brokenAt1(int length) {
        FibreBench x = Benches.ofLengths(length);
        x.setBreak(1, 5);
        return x;
    }

    private static void firstFibre() {
        CHECK.sentence("At first the fibre has one section with the length 100, the attenuation 20 and the scatter 1000.");
        FibreBench x = new FibreBench();
        CHECK.due("sections", x.told(1), 1);
        CHECK.due("length", x.section(0, 0), 100);
        CHECK.due("attenuation", x.section(0, 1), 20);
        CHECK.due("scatter", x.section(0, 2), 1000);
    }

    // ---- Promises 1 to 3

    private static void firstState() {
        CHECK.sentence("Creates a bench with the first fibre, the first settings, and a map without points; the text is empty, "
                + "and there is nothing to undo.");
        int[] told = {100, 1, 0, 0, 0, 0, 30, 0};
        for (int what = 0; what < 8; what++) {
            CHECK.due("told(" + what + ")", new FibreBench().told(what), told[what]);
        }
        CHECK.due("undo()", new FibreBench().undo(), NOT_POSSIBLE);
        CHECK.due("wipe()", new FibreBench().wipe(), 0);
        CHECK.due("clearMap()", new FibreBench().clearMap(), 0);
        CHECK.due("load()", new FibreBench().load(), NOT_POSSIBLE);
        List<String> first = Snapshot.of(FibreBench::new);
        FibreBench used = Benches.full();
        used.set(0, 60);
        CHECK.dueText("a bench that is made behind a used one", Snapshot.difference(Snapshot.of(FibreBench::new), first), "");
    }

    private static void beginLeavesNothingBehind() {
        CHECK.sentence("Begins a new fibre of one section, without heights, losses of joints, bends and break.");
        FibreBench x = Benches.full();
        x.begin(100, 1, 0);
        CHECK.due("sections", x.told(1), 1);
        CHECK.due("bends", x.told(2), 0);
        CHECK.due("break", x.told(3), 0);
        CHECK.due("its height", x.told(4), 0);
        x.addSection(100, 1, 0);
        for (int i = 2; i < 8; i++) {
            x.addSection(1, 1, 0);
        }
        for (int joint = 0; joint <= 8; joint++) {
            CHECK.due("loss of joint " + joint, x.joint(joint, 0), 0);
            CHECK.due("height of joint " + joint, x.joint(joint, 1), 0);
        }
        CHECK.due("all its losses", x.lossTo(0, 206), 206);
        CHECK.due("the map stays", x.told(5), 10);
        CHECK.due("the text stays", x.told(7), 120);
    }

    private static void beginTellsThePreviousLength() {
        CHECK.sentence("Returns the previous L; BAD_VALUE.");
        CHECK.due("the least L", Benches.shortest().begin(5, 1, 0), 1);
        CHECK.due("the greatest L", Benches.longest().begin(5, 1, 0), 300);
    }

    private static void newLastJoint() {
        CHECK.sentence("the new last joint has no loss and no height.");
        FibreBench x = Benches.ofLengths(5, 5);
        x.setJoint(2, 3000, 9000);
        x.undo();
        x.undo();
        // Where joint 2 was once, a new one comes.
        x.addSection(5, 1, 0);
        CHECK.due("its loss", x.joint(2, 0), 0);
        CHECK.due("its height", x.joint(2, 1), 0);
        x.setJoint(2, 3000, 9000);
        x.addSection(5, 1, 0);
        CHECK.due("the next one's loss", x.joint(3, 0), 0);
        CHECK.due("the next one's height", x.joint(3, 1), 0);
    }

    private static void oldLastJoint() {
        CHECK.sentence("the joint that was at place L is between it and the one before");
        FibreBench x = Benches.shortest();
        for (int n = 1; n < 8; n++) {
            x.setJoint(n, 100 * n, 1000 * n);
            x.addSection(1, 1, 0);
            CHECK.due("its place", x.joint(n, 2), n);
            CHECK.due("its loss", x.joint(n, 0), 100 * n);
            CHECK.due("its height", x.joint(n, 1), 1000 * n);
            CHECK.due("the section behind it begins there", x.section(n, 3), n);
        }
    }

    private static void bendsAndBreakStay() {
        CHECK.sentence("Bends and the break stay.");
        FibreBench x = Benches.ofLengths(10);
        x.addBend(1, 11);
        x.addBend(9, 12);
        x.setBreak(9, 13);
        x.addSection(100, 1, 0);
        CHECK.due("bends", x.told(2), 2);
        CHECK.due("bend(0, 1)", x.bend(0, 1), 1);
        CHECK.due("bend(1, 1)", x.bend(1, 1), 9);
        CHECK.due("bend(1, 0)", x.bend(1, 0), 12);
        CHECK.due("the break", x.told(3), 9);
        CHECK.due("its height", x.told(4), 13);
    }

    // ---- Promises 4 to 8

    private static void previousLossOfAJoint() {
        CHECK.sentence("Returns its previous loss; BAD_NUMBER; BAD_VALUE.");
        FibreBench x = Benches.eightSections();
        for (int joint : new int[] {0, 8}) {
            CHECK.due("none before", x.setJoint(joint, 3000, 1), 0);
            CHECK.due("the greatest before", x.setJoint(joint, 1, 9000), 3000);
            CHECK.due("one that is kept", x.setJoint(joint, 1, 0), 1);
        }
        CHECK.due("the joint beside it is left alone", x.joint(1, 0), 0);
        CHECK.due("the joint beside it is left alone", x.joint(7, 1), 0);
    }

    private static void orderOfBends() {
        CHECK.sentence("Adds a bend; bends are numbered in the order in which they were added.");
        FibreBench x = new FibreBench();
        int[] places = {99, 1, 50, 1, 99, 2};
        for (int i = 0; i < 6; i++) {
            x.addBend(places[i], 10 + i);
        }
        for (int i = 0; i < 6; i++) {
            CHECK.due("place of bend " + i, x.bend(i, 1), places[i]);
            CHECK.due("loss of bend " + i, x.bend(i, 0), 10 + i);
        }
    }

    private static void removedBends() {
        CHECK.sentence("Removes a bend; the numbers of later ones decrease by 1.");
        for (int gone = 0; gone < 6; gone++) {
            FibreBench x = new FibreBench();
            for (int i = 0; i < 6; i++) {
                x.addBend(10 + i, 100 + i);
            }
            CHECK.due("removeBend(" + gone + ")", x.removeBend(gone), 100 + gone);
            CHECK.due("bends", x.told(2), 5);
            for (int i = 0; i < 5; i++) {
                int was = i < gone ? i : i + 1;
                CHECK.due("loss of bend " + i, x.bend(i, 0), 100 + was);
                CHECK.due("place of bend " + i, x.bend(i, 1), 10 + was);
            }
            for (int wrong : new int[] {-1, 5, LOW, HIGH}) {
                CHECK.due("bend(" + wrong + ", 0)", x.bend(wrong, 0), BAD_NUMBER);
                CHECK.due("removeBend(" + wrong + ")", x.removeBend(wrong), BAD_NUMBER);
            }
        }
        FibreBench last = new FibreBench();
        last.addBend(1, 3000);
        CHECK.due("the only one", last.removeBend(0), 3000);
        CHECK.due("none is left", last.removeBend(0), BAD_NUMBER);
        CHECK.due("nor its loss", last.lossTo(0, 1), 20);
    }

    private static void breakInPlaceOfAnother() {
        CHECK.sentence("Breaks the fibre, in place of an earlier break, or repairs it.");
        FibreBench x = new FibreBench();
        CHECK.due("the first one", x.setBreak(99, 9000), 0);
        CHECK.due("in place of it", x.setBreak(1, 0), 99);
        CHECK.due("told(3)", x.told(3), 1);
        CHECK.due("told(4)", x.told(4), 0);
        CHECK.due("at the same place", x.setBreak(1, 7), 1);
        CHECK.due("told(4)", x.told(4), 7);
        CHECK.due("repaired", x.setBreak(0, 7), 1);
        CHECK.due("told(3)", x.told(3), 0);
    }

    private static void repairs() {
        CHECK.sentence("the height of the break, 0 to 9000 (also if the fibre is repaired; it does not matter then)");
        for (int height : new int[] {0, 1, 9000}) {
            FibreBench x = new FibreBench();
            x.setBreak(50, 5000);
            CHECK.due("repaired with " + height, x.setBreak(0, height), 50);
            CHECK.due("no place", x.told(3), 0);
            CHECK.due("no height", x.told(4), 0);
            CHECK.due("no reflection", x.sample(0, 1, 50), 30300);
        }
        for (int height : new int[] {-1, 9001, LOW, HIGH}) {
            FibreBench x = new FibreBench();
            x.setBreak(50, 5000);
            CHECK.due("not repaired with " + height, x.setBreak(0, height), BAD_VALUE);
            CHECK.due("still broken", x.told(3), 50);
            CHECK.due("still as high", x.told(4), 5000);
        }
    }

    private static void nothingToRepair() {
        CHECK.sentence("Returns the place of the break before, 0 if there was none; BAD_VALUE; NOT_POSSIBLE if the place is 0 "
                + "and there is no break.");
        FibreBench x = new FibreBench();
        CHECK.due("at first", x.setBreak(0, 0), NOT_POSSIBLE);
        x.setBreak(1, 1);
        x.setBreak(0, 1);
        CHECK.due("repaired already", x.setBreak(0, 0), NOT_POSSIBLE);
        x.undo();
        CHECK.due("broken again", x.setBreak(0, 0), 1);
        x.undo();
        x.begin(10, 1, 0);
        CHECK.due("a new fibre", x.setBreak(0, 0), NOT_POSSIBLE);
        CHECK.due("with a wrong height", x.setBreak(0, 9001), BAD_VALUE);
    }

    private static void settings() {
        CHECK.sentence("There are settings: 0 the slope, 0 to 60 (20 at first); 1 the threshold, 1 to 5000 (100 at first); "
                + "2 the tolerance, 0 to 20 (2 at first); 3 the margin, 0 to 9000 (1000 at first).");
        range("the slope", 0, 60, BAD_VALUE, 20, v -> new FibreBench().set(0, v));
        range("the threshold", 1, 5000, BAD_VALUE, 100, v -> new FibreBench().set(1, v));
        range("the tolerance", 0, 20, BAD_VALUE, 2, v -> new FibreBench().set(2, v));
        range("the margin", 0, 9000, BAD_VALUE, 1000, v -> new FibreBench().set(3, v));
        CHECK.sentence("- `setting`: the setting, 0 to 3");
        for (int setting : new int[] {-1, 4, LOW, HIGH}) {
            CHECK.due("set(" + setting + ", 1)", new FibreBench().set(setting, 1), BAD_NUMBER);
        }
    }

    private static void settingsTellThePreviousValue() {
        CHECK.sentence("Returns the previous value; BAD_NUMBER; BAD_VALUE, also if the value is not in the range of the setting.");
        int[] least = {0, 1, 0, 0};
        int[] greatest = {60, 5000, 20, 9000};
        FibreBench x = new FibreBench();
        for (int setting = 0; setting < 4; setting++) {
            x.set(setting, greatest[setting]);
            CHECK.due("the greatest before", x.set(setting, least[setting]), greatest[setting]);
            CHECK.due("a value that another setting may have", x.set(setting, greatest[setting] + 1), BAD_VALUE);
            CHECK.due("the least before", x.set(setting, greatest[setting]), least[setting]);
        }
        for (int setting = 0; setting < 4; setting++) {
            CHECK.due("each has its own value", x.set(setting, 1), greatest[setting]);
        }
    }

    // ---- Promises 10 to 13

    private static void toldNumbers() {
        CHECK.sentence("0 L, 1 sections, 2 bends, 3 the place of the break (0 if there is none), 4 the height of the break "
                + "(0 if there is none), 5 points of the map, 6 the excess, 7 characters of the text");
        FibreBench x = Benches.full();
        x.setExcess(100);
        int[] told = {300, 8, 6, 295, 9000, 10, 100, 120};
        for (int what = 0; what < 8; what++) {
            CHECK.due("told(" + what + ") of a full bench", x.told(what), told[what]);
        }
        x.begin(1, 1, 0);
        x.clearMap();
        x.setExcess(0);
        x.wipe();
        int[] least = {1, 1, 0, 0, 0, 0, 0, 0};
        for (int what = 0; what < 8; what++) {
            CHECK.due("told(" + what + ") of an emptied bench", x.told(what), least[what]);
        }
        for (int what : new int[] {-1, 8, LOW, HIGH}) {
            CHECK.due("told(" + what + ")", x.told(what), BAD_VALUE);
        }
    }

    private static void toldBreak() {
        CHECK.sentence("3 the place of the break (0 if there is none), 4 the height of the break (0 if there is none)");
        FibreBench x = new FibreBench();
        x.setBreak(1, 0);
        CHECK.due("a break without height", x.told(3), 1);
        CHECK.due("its height", x.told(4), 0);
        x.setBreak(99, 9000);
        x.setBreak(0, 9000);
        CHECK.due("repaired", x.told(3), 0);
        CHECK.due("its height", x.told(4), 0);
        x.undo();
        CHECK.due("broken again", x.told(3), 99);
        CHECK.due("its height", x.told(4), 9000);
    }

    private static void propertiesOfSections() {
        CHECK.sentence("0 its length, 1 its attenuation, 2 its scatter, 3 the place where it begins");
        FibreBench x = new FibreBench();
        x.begin(100, 60, 2000);
        x.addSection(1, 1, 0);
        int[][] due = {{100, 60, 2000, 0}, {1, 1, 0, 100}};
        for (int section = 0; section < 2; section++) {
            for (int what = 0; what < 4; what++) {
                CHECK.due("section(" + section + ", " + what + ")", x.section(section, what), due[section][what]);
            }
            for (int what : new int[] {-1, 4, LOW, HIGH}) {
                CHECK.due("section(" + section + ", " + what + ")", x.section(section, what), BAD_VALUE);
            }
        }
        for (int section : new int[] {-1, 2, LOW, HIGH}) {
            CHECK.due("section(" + section + ", 0)", x.section(section, 0), BAD_NUMBER);
        }
    }

    private static void propertiesOfJoints() {
        CHECK.sentence("0 its loss, 1 its height, 2 its place");
        FibreBench x = new FibreBench();
        x.setJoint(0, 3000, 0);
        x.setJoint(1, 0, 9000);
        int[][] due = {{3000, 0, 0}, {0, 9000, 100}};
        for (int joint = 0; joint < 2; joint++) {
            for (int what = 0; what < 3; what++) {
                CHECK.due("joint(" + joint + ", " + what + ")", x.joint(joint, what), due[joint][what]);
            }
            for (int what : new int[] {-1, 3, LOW, HIGH}) {
                CHECK.due("joint(" + joint + ", " + what + ")", x.joint(joint, what), BAD_VALUE);
            }
        }
    }

    private static void propertiesOfBends() {
        CHECK.sentence("0 its loss, 1 its place");
        FibreBench x = new FibreBench();
        x.addBend(1, 3000);
        x.addBend(99, 1);
        CHECK.due("bend(0, 0)", x.bend(0, 0), 3000);
        CHECK.due("bend(0, 1)", x.bend(0, 1), 1);
        CHECK.due("bend(1, 0)", x.bend(1, 0), 1);
        CHECK.due("bend(1, 1)", x.bend(1, 1), 99);
        for (int what : new int[] {-1, 2, LOW, HIGH}) {
            CHECK.due("bend(1, " + what + ")", x.bend(1, what), BAD_VALUE);
        }
    }

    // ---- Promise 14

    private static void lossUnits() {
        CHECK.sentence("The loss up to a distance x, from 0 to L, is the sum of the attenuations of all units below x");
        FibreBench x = new FibreBench();
        x.begin(2, 60, 0);
        x.addSection(1, 7, 0);
        int[] near = {0, 60, 120, 127};
        int[] far = {0, 7, 67, 127};
        for (int d = 0; d <= 3; d++) {
            CHECK.due("lossTo(0, " + d + ")", x.lossTo(0, d), near[d]);
            CHECK.due("lossTo(1, " + d + ")", x.lossTo(1, d), far[d]);
        }
        for (int d : new int[] {-1, 4, LOW, HIGH}) {
            CHECK.due("lossTo(0, " + d + ")", x.lossTo(0, d), BAD_VALUE);
            CHECK.due("lossTo(1, " + d + ")", x.lossTo(1, d), BAD_VALUE);
        }
        CHECK.sentence("- `side`: the side, 0 or 1");
        for (int side : new int[] {-1, 2, LOW, HIGH}) {
            CHECK.due("lossTo(" + side + ", 0)", x.lossTo(side, 0), BAD_VALUE);
        }
    }

    private static void lossAtJoints() {
        CHECK.sentence("plus the losses of all joints and bends whose distance is at most x");
        FibreBench x = Benches.ofLengths(3, 2);
        x.setJoint(0, 1000, 0);
        x.setJoint(1, 200, 0);
        x.setJoint(2, 30, 0);
        int[] near = {1000, 1001, 1002, 1203, 1204, 1235};
        int[] far = {30, 31, 232, 233, 234, 1235};
        for (int d = 0; d <= 5; d++) {
            CHECK.due("lossTo(0, " + d + ")", x.lossTo(0, d), near[d]);
            CHECK.due("lossTo(1, " + d + ")", x.lossTo(1, d), far[d]);
        }
    }

    private static void lossAtBends() {
        CHECK.sentence("plus the losses of all joints and bends whose distance is at most x");
        FibreBench x = Benches.ofLengths(5);
        x.addBend(1, 100);
        x.addBend(4, 2000);
        x.addBend(4, 1000);
        int[] near = {0, 101, 102, 103, 3104, 3105};
        int[] far = {0, 3001, 3002, 3003, 3104, 3105};
        for (int d = 0; d <= 5; d++) {
            CHECK.due("lossTo(0, " + d + ")", x.lossTo(0, d), near[d]);
            CHECK.due("lossTo(1, " + d + ")", x.lossTo(1, d), far[d]);
        }
    }

    private static void lossBehindABreak() {
        CHECK.sentence("(a break changes no losses)");
        FibreBench x = Benches.ofLengths(5);
        x.addBend(3, 100);
        x.setJoint(1, 7, 0);
        for (int place = 1; place <= 4; place++) {
            x.setBreak(place, 9000);
            CHECK.due("lossTo(0, 5)", x.lossTo(0, 5), 112);
            CHECK.due("lossTo(1, 5)", x.lossTo(1, 5), 112);
            CHECK.due("lossTo(0, 2)", x.lossTo(0, 2), 2);
            CHECK.due("lossTo(1, 1)", x.lossTo(1, 1), 8);
        }
    }

    private static void lossOfTheLongest() {
        CHECK.sentence("x`: a distance from it, 0 to L");
        FibreBench x = new FibreBench();
        x.begin(100, 60, 0);
        for (int i = 1; i < 8; i++) {
            x.addSection(i == 1 ? 100 : i == 2 ? 95 : 1, 60, 0);
        }
        for (int joint = 0; joint <= 8; joint++) {
            x.setJoint(joint, 3000, 0);
        }
        for (int bend = 0; bend < 6; bend++) {
            x.addBend(299, 3000);
        }
        // The greatest loss that there is.
        CHECK.due("lossTo(0, 300)", x.lossTo(0, 300), 300 * 60 + 9 * 3000 + 6 * 3000);
        CHECK.due("lossTo(1, 300)", x.lossTo(1, 300), 300 * 60 + 9 * 3000 + 6 * 3000);
        CHECK.due("lossTo(0, 301)", x.lossTo(0, 301), BAD_VALUE);
        CHECK.due("lossTo(1, 0)", x.lossTo(1, 0), 3000);
        // Joints 8 and 7 and all bends.
        CHECK.due("lossTo(1, 1)", x.lossTo(1, 1), 60 + 8 * 3000);
    }
}
