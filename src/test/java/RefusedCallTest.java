import java.util.Arrays;
import java.util.List;
import java.util.function.Supplier;
import java.util.stream.Collectors;

/** "Errors": every call that is refused, which error is due, and that nothing has changed behind it. */
public final class RefusedCallTest {
    private static final int BAD_NUMBER = FibreBench.BAD_NUMBER;
    private static final int BAD_VALUE = FibreBench.BAD_VALUE;
    private static final int FULL = FibreBench.FULL;
    private static final int NOT_POSSIBLE = FibreBench.NOT_POSSIBLE;
    private static final int NONE = FibreBench.NONE;
    private static final int LOW = Integer.MIN_VALUE;
    private static final int HIGH = Integer.MAX_VALUE;
    private static final Check CHECK = new Check();

    /** One argument of a call: a value that is allowed, some that are not, and the error that these are due. */
    private record Argument(int allowed, int error, int... wrong) { }

    private interface Call {
        int on(FibreBench x, int[] arguments);
    }

    public static void main(String[] args) {
        severalErrors();
        changesOfTheFibre();
        fullFibres();
        setBreak();
        set();
        undo();
        whatIsTold();
        traces();
        noStitchedSample();
        events();
        noEnd();
        joined();
        changesOfTheMap();
        askedOfTheMap();
        placed();
        text();
        loadRemembersAFault();
        fault();
        askingChangesNothing();
        CHECK.end();
    }

    // ---- How it is tested

    private static Argument range(int allowed, int least, int greatest) {
        return new Argument(allowed, BAD_VALUE, least - 1, greatest + 1, LOW, HIGH);
    }

    private static Argument fromZero(int allowed) {
        return new Argument(allowed, BAD_VALUE, -1, LOW);
    }

    private static Argument number(int allowed, int count) {
        return new Argument(allowed, BAD_NUMBER, -1, count, LOW, HIGH);
    }

    private static Argument side() {
        return range(1, 0, 1);
    }

    private static Argument width() {
        return range(2, 1, 9);
    }

    private static Argument distance(int allowed) {
        return range(allowed, 0, 400);
    }

    /** Refuses a call whose errors come from its arguments alone. */
    private static void refuse(String name, Supplier<FibreBench> make, int[] named, Call call, Argument... arguments) {
        refuseAlways(name, make, named, 0, call, arguments);
    }

    /**
     * Makes the call with each choice of allowed and wrong arguments that is due an error. The errors are named in
     * their order; one of them, if it is not 0, applies whatever the arguments are.
     */
    private static void refuseAlways(String name, Supplier<FibreBench> make, int[] named, int always, Call call,
            Argument... arguments) {
        List<String> untouched = Snapshot.of(make);
        int choices = 1;
        for (Argument argument : arguments) {
            choices *= 1 + argument.wrong.length;
        }
        for (int choice = 0; choice < choices; choice++) {
            int[] values = valuesOf(choice, arguments);
            int due = firstNamed(named, always, values, arguments);
            if (due != 0) {
                refuseOne(name + Arrays.toString(values), make, x -> call.on(x, values), due, untouched);
            }
        }
    }

    private static int[] valuesOf(int choice, Argument[] arguments) {
        int[] values = new int[arguments.length];
        int left = choice;
        for (int i = 0; i < arguments.length; i++) {
            int kinds = 1 + arguments[i].wrong.length;
            values[i] = left % kinds == 0 ? arguments[i].allowed : arguments[i].wrong[left % kinds - 1];
            left /= kinds;
        }
        return values;
    }

    private static int firstNamed(int[] named, int always, int[] values, Argument[] arguments) {
        for (int error : named) {
            if (error == always) {
                return error;
            }
            for (int i = 0; i < arguments.length; i++) {
                if (arguments[i].error == error && values[i] != arguments[i].allowed) {
                    return error;
                }
            }
        }
        return 0;
    }

    private interface Done {
        int on(FibreBench x);
    }

    private static void refuseOne(String name, Supplier<FibreBench> make, Done call, int due, List<String> untouched) {
        CHECK.due(name, call.on(make.get()), due);
        List<String> behind = Snapshot.of(() -> {
            FibreBench x = make.get();
            call.on(x);
            return x;
        });
        CHECK.dueText("what has changed behind " + name, Snapshot.difference(behind, untouched), "");
    }

    private static int[] named(int... errors) {
        return errors;
    }

    /** Each call on a full bench with all that can be wrong with it, so that the error that is named first is due. */
    private static void severalErrors() {
        CHECK.sentence("If several errors apply to a call, the one that is named first in the description of the result is "
                + "reported.");
        FibreBench x = Benches.full();
        CHECK.due("addSection: BAD_VALUE, FULL", x.addSection(101, 1, 0), BAD_VALUE);
        CHECK.due("setJoint: BAD_NUMBER, BAD_VALUE", x.setJoint(9, 3001, 9001), BAD_NUMBER);
        CHECK.due("addBend: BAD_VALUE, FULL", x.addBend(300, 3001), BAD_VALUE);
        CHECK.due("setBreak: BAD_VALUE, NOT_POSSIBLE", new FibreBench().setBreak(0, 9001), BAD_VALUE);
        CHECK.due("set: BAD_NUMBER, BAD_VALUE", x.set(4, 9001), BAD_NUMBER);
        CHECK.due("section: BAD_NUMBER, BAD_VALUE", x.section(8, 4), BAD_NUMBER);
        CHECK.due("joint: BAD_NUMBER, BAD_VALUE", x.joint(9, 3), BAD_NUMBER);
        CHECK.due("bend: BAD_NUMBER, BAD_VALUE", x.bend(6, 2), BAD_NUMBER);
        CHECK.due("event: BAD_VALUE, BAD_NUMBER", x.event(0, 1, -1, 7), BAD_VALUE);
        CHECK.due("addPoint: BAD_VALUE, FULL, NOT_POSSIBLE", x.addPoint(0, 100), BAD_VALUE);
        CHECK.due("addPoint: FULL, NOT_POSSIBLE", x.addPoint(0, 99), FULL);
        CHECK.due("addPoint: BAD_VALUE, NOT_POSSIBLE", Benches.busy().addPoint(0, 100), BAD_VALUE);
        CHECK.due("point: BAD_NUMBER, BAD_VALUE", x.point(10, 3), BAD_NUMBER);
        CHECK.due("write: BAD_VALUE, FULL", x.write(127), BAD_VALUE);
    }

    // ---- The fibre

    private static void changesOfTheFibre() {
        CHECK.sentence("Returns the previous L; BAD_VALUE.");
        refuse("begin", Benches::busy, named(BAD_VALUE), (x, a) -> x.begin(a[0], a[1], a[2]),
                range(50, 1, 100), range(1, 1, 60), range(2000, 0, 2000));
        CHECK.sentence("Returns its number; BAD_VALUE; FULL if there are 8 sections, or L would be above 300.");
        refuse("addSection", Benches::busy, named(BAD_VALUE, FULL), (x, a) -> x.addSection(a[0], a[1], a[2]),
                range(1, 1, 100), range(60, 1, 60), range(0, 0, 2000));
        CHECK.sentence("Returns its previous loss; BAD_NUMBER; BAD_VALUE.");
        refuse("setJoint", Benches::busy, named(BAD_NUMBER, BAD_VALUE), (x, a) -> x.setJoint(a[0], a[1], a[2]),
                number(2, 3), range(3000, 0, 3000), range(9000, 0, 9000));
        CHECK.sentence("Returns its number; BAD_VALUE; FULL if there are 6 bends.");
        refuse("addBend", Benches::busy, named(BAD_VALUE, FULL), (x, a) -> x.addBend(a[0], a[1]),
                range(79, 1, 79), range(3000, 1, 3000));
        CHECK.sentence("Returns its loss; BAD_NUMBER.");
        refuse("removeBend", Benches::busy, named(BAD_NUMBER), (x, a) -> x.removeBend(a[0]), number(0, 1));
        refuse("removeBend", Benches::full, named(BAD_NUMBER), (x, a) -> x.removeBend(a[0]), number(0, 6));
        refuseAlways("removeBend", FibreBench::new, named(BAD_NUMBER), BAD_NUMBER, (x, a) -> x.removeBend(a[0]),
                number(0, 1));
    }

    private static void fullFibres() {
        CHECK.sentence("FULL if there are 8 sections, or L would be above 300.");
        Argument length = range(1, 1, 100);
        Argument attenuation = range(1, 1, 60);
        Argument scatter = range(0, 0, 2000);
        Call addSection = (x, a) -> x.addSection(a[0], a[1], a[2]);
        refuseAlways("addSection", Benches::eightSections, named(BAD_VALUE, FULL), FULL, addSection,
                length, attenuation, scatter);
        refuseAlways("addSection", Benches::longest, named(BAD_VALUE, FULL), FULL, addSection,
                length, attenuation, scatter);
        refuseAlways("addSection", Benches::full, named(BAD_VALUE, FULL), FULL, addSection,
                length, attenuation, scatter);
        CHECK.sentence("FULL if there are 6 bends.");
        refuseAlways("addBend", Benches::full, named(BAD_VALUE, FULL), FULL, (x, a) -> x.addBend(a[0], a[1]),
                range(299, 1, 299), range(1, 1, 3000));
        CHECK.sentence("at most 6 bends, each at a place from 1 to L - 1");
        refuseAlways("addBend", Benches::shortest, named(BAD_VALUE, FULL), BAD_VALUE, (x, a) -> x.addBend(a[0], a[1]),
                range(1, 1, 1), range(1, 1, 3000));
    }

    private static void setBreak() {
        CHECK.sentence("Returns the place of the break before, 0 if there was none; BAD_VALUE; "
                + "NOT_POSSIBLE if the place is 0 and there is no break.");
        int[] errors = named(BAD_VALUE, NOT_POSSIBLE);
        Call setBreak = (x, a) -> x.setBreak(a[0], a[1]);
        refuse("setBreak", Benches::busy, errors, setBreak, range(79, 0, 79), range(9000, 0, 9000));
        refuse("setBreak", Benches::busy, errors, setBreak, range(0, 0, 79), range(9000, 0, 9000));
        refuse("setBreak", Benches::longest, errors, setBreak, range(299, 0, 299), range(0, 0, 9000));
        refuseAlways("setBreak", Benches::longest, errors, NOT_POSSIBLE, setBreak,
                range(0, 0, 299), range(9000, 0, 9000));
        refuseAlways("setBreak", Benches::shortest, errors, NOT_POSSIBLE, setBreak, range(0, 0, 0), range(0, 0, 9000));
    }

    private static void set() {
        CHECK.sentence("Returns the previous value; BAD_NUMBER; BAD_VALUE, also if the value is not in the range of the setting.");
        int[] least = {0, 1, 0, 0};
        int[] greatest = {60, 5000, 20, 9000};
        for (int setting = 0; setting < 4; setting++) {
            refuse("set", Benches::busy, named(BAD_NUMBER, BAD_VALUE), (x, a) -> x.set(a[0], a[1]),
                    number(setting, 4), range(greatest[setting], least[setting], greatest[setting]));
        }
    }

    private static void undo() {
        CHECK.sentence("Returns how many changes can still be undone; NOT_POSSIBLE if there is none.");
        refuseAlways("undo", FibreBench::new, named(NOT_POSSIBLE), NOT_POSSIBLE, (x, a) -> x.undo());
        refuseAlways("undo", RefusedCallTest::undoneToTheOldest, named(NOT_POSSIBLE), NOT_POSSIBLE, (x, a) -> x.undo());
    }

    private static FibreBench undoneToTheOldest() {
        FibreBench x = Benches.full();
        for (int i = 0; i < 8; i++) {
            x.undo();
        }
        return x;
    }

    private static void whatIsTold() {
        CHECK.sentence("Returns this number; BAD_VALUE.");
        refuse("told", Benches::busy, named(BAD_VALUE), (x, a) -> x.told(a[0]), range(7, 0, 7));
        CHECK.sentence("Returns this; BAD_NUMBER; BAD_VALUE.");
        int[] errors = named(BAD_NUMBER, BAD_VALUE);
        refuse("section", Benches::busy, errors, (x, a) -> x.section(a[0], a[1]), number(1, 2), range(3, 0, 3));
        refuse("section", Benches::full, errors, (x, a) -> x.section(a[0], a[1]), number(7, 8), range(0, 0, 3));
        refuse("joint", Benches::busy, errors, (x, a) -> x.joint(a[0], a[1]), number(2, 3), range(2, 0, 2));
        refuse("joint", Benches::full, errors, (x, a) -> x.joint(a[0], a[1]), number(8, 9), range(0, 0, 2));
        refuse("bend", Benches::busy, errors, (x, a) -> x.bend(a[0], a[1]), number(0, 1), range(1, 0, 1));
        refuse("bend", Benches::full, errors, (x, a) -> x.bend(a[0], a[1]), number(5, 6), range(0, 0, 1));
        refuseAlways("bend", FibreBench::new, errors, BAD_NUMBER, (x, a) -> x.bend(a[0], a[1]),
                number(0, 1), range(1, 0, 1));
        CHECK.sentence("Returns the loss up to it; BAD_VALUE.");
        refuse("lossTo", Benches::busy, named(BAD_VALUE), (x, a) -> x.lossTo(a[0], a[1]), side(), range(80, 0, 80));
        refuse("lossTo", Benches::full, named(BAD_VALUE), (x, a) -> x.lossTo(a[0], a[1]), side(), range(0, 0, 300));
        refuse("lossTo", Benches::shortest, named(BAD_VALUE), (x, a) -> x.lossTo(a[0], a[1]), side(), range(1, 0, 1));
    }

    // ---- Traces

    private static void traces() {
        CHECK.sentence("Returns the sample there; BAD_VALUE.");
        refuse("sample", Benches::busy, named(BAD_VALUE), (x, a) -> x.sample(a[0], a[1], a[2]),
                side(), width(), distance(400));
        CHECK.sentence("Returns this mean; BAD_VALUE as a float.");
        refuse("meanLoss", Benches::busy, named(BAD_VALUE), (x, a) -> (int) x.meanLoss(a[0], a[1], a[2], a[3]),
                range(0, 0, 1), new Argument(9, BAD_VALUE, 0, 10), new Argument(3, BAD_VALUE, -1, 401),
                new Argument(400, BAD_VALUE, 3, 2, 401));
        refuse("meanLoss", Benches::busy, named(BAD_VALUE), (x, a) -> (int) x.meanLoss(0, 1, a[0], a[1]),
                new Argument(0, BAD_VALUE, 400, LOW, HIGH), new Argument(1, BAD_VALUE, 0, LOW, HIGH));
        CHECK.sentence("Returns this number, 0 to 401; BAD_VALUE.");
        refuse("visible", Benches::busy, named(BAD_VALUE), (x, a) -> x.visible(a[0], a[1]), side(), width());
        CHECK.sentence("Returns the sample; BAD_VALUE; NONE if there is no such width.");
        refuse("stitched", Benches::busy, named(BAD_VALUE, NONE), (x, a) -> x.stitched(a[0], a[1]),
                side(), distance(0));
        CHECK.sentence("at which the stitched trace has a sample; BAD_VALUE.");
        refuse("stitchedCount", Benches::busy, named(BAD_VALUE), (x, a) -> x.stitchedCount(a[0]), side());
    }

    private static void noStitchedSample() {
        CHECK.sentence("NONE is reported only if no error applies.");
        refuseAlways("stitched", Benches::busy, named(BAD_VALUE, NONE), NONE, (x, a) -> x.stitched(a[0], a[1]),
                side(), distance(400));
    }

    // ---- Events

    private static void events() {
        CHECK.sentence("Returns the number of events of the trace; BAD_VALUE.");
        refuse("events", Benches::busy, named(BAD_VALUE), (x, a) -> x.events(a[0], a[1]), side(), width());
        CHECK.sentence("Returns this; BAD_VALUE for side, width and what; BAD_NUMBER if there is no such event.");
        // The new fibre has one event, its end, which is no ghost.
        refuse("event", FibreBench::new, named(BAD_VALUE, BAD_NUMBER),
                (x, a) -> x.event(a[0], a[1], a[2], a[3]), range(0, 0, 1),
                new Argument(1, BAD_VALUE, 0, 10), number(0, 1), new Argument(4, BAD_VALUE, -1, 7));
        refuseAlways("event", FibreBench::new, named(BAD_VALUE, BAD_NUMBER, NONE), NONE,
                (x, a) -> x.event(a[0], 9, a[1], a[2]), side(), number(0, 1), range(5, 0, 6));
        refuseAlways("event", FibreBench::new, named(BAD_VALUE, BAD_NUMBER, NONE), NONE,
                (x, a) -> x.event(1, a[0], a[1], a[2]), width(), number(0, 1), range(6, 0, 6));
        CHECK.sentence("in which bit k stands for event k; BAD_VALUE.");
        refuse("ghosts", Benches::busy, named(BAD_VALUE), (x, a) -> x.ghosts(a[0], a[1]), side(), width());
        CHECK.sentence("Returns the start of the first event of kind 2; BAD_VALUE; NONE if there is none.");
        refuse("endSeen", Benches::busy, named(BAD_VALUE), (x, a) -> x.endSeen(a[0], a[1]), side(), width());
    }

    /** A fibre so deep that the light is lost slowly: no trace of it has an event. */
    private static FibreBench withoutEvents() {
        FibreBench x = Benches.steepest();
        x.set(0, 60);
        x.set(1, 5000);
        for (int i = 0; i < 6; i++) {
            x.addBend(100 + 20 * i, 3000);
        }
        return x;
    }

    private static void noEnd() {
        CHECK.sentence("Returns the start of the first event of kind 2; BAD_VALUE; NONE if there is none.");
        CHECK.due("events(0, 2)", withoutEvents().events(0, 2), 0);
        CHECK.due("events(1, 2)", withoutEvents().events(1, 2), 0);
        refuseAlways("endSeen", RefusedCallTest::withoutEvents, named(BAD_VALUE, NONE), NONE,
                (x, a) -> x.endSeen(a[0], a[1]), side(), width());
        CHECK.sentence("Returns this; BAD_VALUE for side, width and what; BAD_NUMBER if there is no such event.");
        refuseAlways("event", RefusedCallTest::withoutEvents, named(BAD_VALUE, BAD_NUMBER), BAD_NUMBER,
                (x, a) -> x.event(a[0], 2, a[1], a[2]), side(), number(0, 1), range(6, 0, 6));
    }

    private static void joined() {
        CHECK.sentence("Returns the number of events of side 0 that are joined with one of side 1; BAD_VALUE.");
        refuse("joinedCount", Benches::busy, named(BAD_VALUE), (x, a) -> x.joinedCount(a[0]), width());
        CHECK.sentence("Returns this; BAD_VALUE, also if k is negative; NONE if there are not so many.");
        refuse("joined", RefusedCallTest::withOneJoined, named(BAD_VALUE, NONE),
                (x, a) -> x.joined(a[0], a[1], a[2]), width(), fromZero(0), range(3, 0, 3));
        for (int k : new int[] {1, HIGH}) {
            refuseAlways("joined", RefusedCallTest::withOneJoined, named(BAD_VALUE, NONE), NONE,
                    (x, a) -> x.joined(a[0], a[1], a[2]), width(), fromZero(k), range(0, 0, 3));
        }
        refuseAlways("joined", FibreBench::new, named(BAD_VALUE, NONE), NONE,
                (x, a) -> x.joined(a[0], a[1], a[2]), width(), fromZero(0), range(2, 0, 3));
    }

    private static FibreBench withOneJoined() {
        FibreBench x = new FibreBench();
        x.addBend(40, 500);
        return x;
    }

    // ---- The map

    private static void changesOfTheMap() {
        CHECK.sentence("Returns its number; BAD_VALUE; FULL if there are 10 points; "
                + "NOT_POSSIBLE if the position is not greater than that of the point before.");
        int[] errors = named(BAD_VALUE, FULL, NOT_POSSIBLE);
        Call addPoint = (x, a) -> x.addPoint(a[0], a[1]);
        refuse("addPoint", Benches::busy, errors, addPoint, range(901, 0, 9999), range(99, 0, 99));
        for (int position : new int[] {900, 899, 0}) {
            refuseAlways("addPoint", Benches::busy, errors, NOT_POSSIBLE, addPoint,
                    range(position, 0, 9999), range(0, 0, 99));
        }
        refuseAlways("addPoint", RefusedCallTest::atTheLastPosition, errors, NOT_POSSIBLE, addPoint,
                range(9999, 0, 9999), range(0, 0, 99));
        for (int position : new int[] {9999, 0}) {
            refuseAlways("addPoint", Benches::full, errors, FULL, addPoint, range(position, 0, 9999), range(0, 0, 99));
        }
        CHECK.sentence("Returns the previous one; BAD_VALUE.");
        refuse("setExcess", Benches::busy, named(BAD_VALUE), (x, a) -> x.setExcess(a[0]), range(100, 0, 100));
    }

    private static FibreBench atTheLastPosition() {
        FibreBench x = new FibreBench();
        x.addPoint(9999, 99);
        return x;
    }

    private static void askedOfTheMap() {
        CHECK.sentence("Returns this; BAD_NUMBER; BAD_VALUE.");
        int[] errors = named(BAD_NUMBER, BAD_VALUE);
        refuse("point", Benches::busy, errors, (x, a) -> x.point(a[0], a[1]), number(1, 2), range(2, 0, 2));
        refuse("point", Benches::full, errors, (x, a) -> x.point(a[0], a[1]), number(9, 10), range(0, 0, 2));
        refuseAlways("point", FibreBench::new, errors, BAD_NUMBER, (x, a) -> x.point(a[0], a[1]),
                number(0, 1), range(2, 0, 2));
        CHECK.sentence("Returns the position; BAD_VALUE; NONE if the map has no points, or the units go beyond the slack "
                + "of the last point.");
        int[] asked = named(BAD_VALUE, NONE);
        Call toRoute = (x, a) -> x.toRoute(a[0]);
        refuse("toRoute", Benches::busy, asked, toRoute, fromZero(0));
        refuseAlways("toRoute", FibreBench::new, asked, NONE, toRoute, fromZero(0));
        // 4 of slack, 870 * 1030 / 1000 is 896, and 7 of slack.
        for (int units : new int[] {908, HIGH}) {
            refuseAlways("toRoute", Benches::busy, asked, NONE, toRoute, fromZero(units));
        }
        CHECK.sentence("Returns the last point whose reach is at most this; BAD_VALUE; NONE if the map has no points.");
        Call pointBefore = (x, a) -> x.pointBefore(a[0]);
        refuse("pointBefore", Benches::busy, asked, pointBefore, fromZero(0));
        refuseAlways("pointBefore", FibreBench::new, asked, NONE, pointBefore, fromZero(0));
        refuseAlways("pointBefore", FibreBench::new, asked, NONE, pointBefore, fromZero(HIGH));
    }

    private static void placed() {
        CHECK.sentence("Returns this; BAD_VALUE; NONE if an end that is needed is not seen, if L minus it is negative, "
                + "or if it cannot be placed.");
        Call placed = (x, a) -> x.placed(a[0], a[1]);
        refuse("placed", Benches::busy, named(BAD_VALUE, NONE), placed, width(), range(2, 0, 2));
        for (int what = 0; what < 3; what++) {
            refuseAlways("placed", FibreBench::new, named(BAD_VALUE, NONE), NONE, placed, width(), range(what, 0, 2));
        }
    }

    // ---- The text

    private static void text() {
        CHECK.sentence("Returns the new length of the text; BAD_VALUE; FULL if the text has 120 characters.");
        refuse("write", Benches::busy, named(BAD_VALUE, FULL), (x, a) -> x.write(a[0]), range(126, 32, 126));
        for (int code : new int[] {32, 49, 126}) {
            refuseAlways("write", Benches::full, named(BAD_VALUE, FULL), FULL, (x, a) -> x.write(a[0]),
                    range(code, 32, 126));
        }
    }

    private static FibreBench withFaultyText() {
        FibreBench x = Benches.busy();
        x.write('y');
        return x;
    }

    private static FibreBench loadedFaultyText() {
        FibreBench x = withFaultyText();
        x.load();
        return x;
    }

    private static void loadRemembersAFault() {
        CHECK.sentence("A call that reports an error changes nothing, except that load() remembers a fault.");
        CHECK.due("load()", withFaultyText().load(), NOT_POSSIBLE);
        CHECK.dueText("what has changed behind load()", Snapshot.difference(
                withoutFaults(Snapshot.of(RefusedCallTest::loadedFaultyText)),
                withoutFaults(Snapshot.of(RefusedCallTest::withFaultyText))), "");
        CHECK.due("fault(0) before load()", withFaultyText().fault(0), 3);
        CHECK.due("fault(0) behind load()", loadedFaultyText().fault(0), 14);
        CHECK.due("fault(1) behind load()", loadedFaultyText().fault(1), 1);
        CHECK.sentence("Returns the number of sections; NOT_POSSIBLE if the text has a fault.");
        refuseAlways("load", RefusedCallTest::loadedFaultyText, named(NOT_POSSIBLE), NOT_POSSIBLE, (x, a) -> x.load());
    }

    private static List<String> withoutFaults(List<String> lines) {
        return lines.stream().filter(line -> !line.startsWith("fault(")).collect(Collectors.toList());
    }

    private static void fault() {
        CHECK.sentence("Returns this; BAD_VALUE; NONE if there was no such call.");
        refuse("fault", Benches::busy, named(BAD_VALUE, NONE), (x, a) -> x.fault(a[0]), range(1, 0, 1));
        for (int what = 0; what < 2; what++) {
            refuseAlways("fault", FibreBench::new, named(BAD_VALUE, NONE), NONE, (x, a) -> x.fault(a[0]),
                    range(what, 0, 1));
        }
    }

    // ---- Calls that ask

    private static void askingChangesNothing() {
        CHECK.sentence("Nothing is promised beyond the answers and state changes described above");
        List<Supplier<FibreBench>> makes = List.of(FibreBench::new, Benches::busy, Benches::full, Benches::shortest);
        for (Supplier<FibreBench> make : makes) {
            List<String> behind = Snapshot.of(() -> {
                FibreBench x = make.get();
                askAll(x);
                return x;
            });
            CHECK.dueText("what has changed behind asking", Snapshot.difference(behind, Snapshot.of(make)), "");
        }
    }

    private static void askAll(FibreBench x) {
        for (int i = 0; i < 8; i++) {
            x.told(i);
        }
        x.section(0, 3);
        x.joint(1, 2);
        x.bend(0, 1);
        x.point(0, 2);
        for (int side = 0; side < 2; side++) {
            x.lossTo(side, 1);
            for (int width = 1; width <= 9; width++) {
                x.sample(side, width, 1);
                x.events(side, width);
            }
            x.meanLoss(side, 4, 0, 1);
            x.visible(side, 5);
            x.stitched(side, 0);
            x.stitchedCount(side);
            x.event(side, 6, 0, 5);
            x.ghosts(side, 7);
            x.endSeen(side, 8);
        }
        x.joinedCount(1);
        x.joined(3, 0, 2);
        x.toRoute(0);
        x.pointBefore(0);
        x.placed(9, 2);
        x.fault(0);
    }
}
