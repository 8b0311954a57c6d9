import java.util.Arrays;

/** A bench for optical reflectometers; the document of the project says what each call does. */
public final class FibreBench {
    public static final int BAD_NUMBER = -1000001;
    public static final int BAD_VALUE = -1000002;
    public static final int FULL = -1000003;
    public static final int NOT_POSSIBLE = -1000004;
    public static final int NONE = -1000005;

    private static final int MAX_SECTIONS = 8;
    private static final int MAX_SECTION_LENGTH = 100;
    private static final int MAX_LENGTH = 300;
    private static final int MAX_ATTENUATION = 60;
    private static final int MAX_SCATTER = 2000;
    private static final int MAX_LOSS = 3000;
    private static final int MAX_HEIGHT = 9000;
    private static final int MAX_BENDS = 6;
    private static final int MAX_POINTS = 10;
    private static final int MAX_POSITION = 9999;
    private static final int MAX_SLACK = 99;
    private static final int MAX_EXCESS = 100;
    private static final int MAX_TEXT = 120;
    private static final int FIRST_CODE = 32;
    private static final int LAST_CODE = 126;
    private static final int KEPT_STATES = 8;

    private static final int FLOOR = 5000;
    private static final int BASE_LEVEL = 30000;
    private static final int PULSE_LEVEL = 300;
    /** How much a reflection falls with each distance behind the pulse. */
    private static final int TAIL_FALL = 1000;
    /** What each ghost loses, whatever the fibre between its two reflectors takes. */
    private static final int GHOST_LOSS = 12000;
    private static final int MAX_WIDTH = 9;
    private static final int LAST_DISTANCE = 400;
    /** Rows of marked distances are parted by unmarked ones, so at most every second distance begins one. */
    private static final int MAX_EVENTS = LAST_DISTANCE / 2;
    private static final int GHOST_SET_SIZE = 30;

    private static final int STEP = 0;
    private static final int REFLECTIVE = 1;
    private static final int END = 2;

    private static final int SLOPE = 0;
    private static final int THRESHOLD = 1;
    private static final int TOLERANCE = 2;
    private static final int MARGIN = 3;
    private static final int[] LEAST_SETTING = {0, 1, 0, 0};
    private static final int[] GREATEST_SETTING = {60, 5000, 20, 9000};

    private static final int[] STITCH_WIDTHS = {1, 3, 9};
    /** For each side, a trace for each width that is stitched, and one for whichever other width was asked last. */
    private static final int SLOTS_PER_SIDE = 4;

    private final State now;
    private final History history;
    private final Fibre draft;
    private final TextReader text;
    private final View[] views;
    private final Trace[] traces;
    private final EventList[] eventLists;
    private final Pairing pairing;
    /** Counts what may alter an answer; what was computed under another version is computed anew. */
    private int version;

    public FibreBench() {
        now = new State();
        now.fibre.append(100, 20, 1000);
        now.settings[SLOPE] = 20;
        now.settings[THRESHOLD] = 100;
        now.settings[TOLERANCE] = 2;
        now.settings[MARGIN] = 1000;
        now.map.excess = 30;
        history = new History();
        draft = new Fibre();
        text = new TextReader();
        views = new View[2];
        traces = new Trace[2 * SLOTS_PER_SIDE];
        eventLists = new EventList[2];
        pairing = new Pairing();
        version = 0;
        for (int side = 0; side < 2; side++) {
            views[side] = new View();
            eventLists[side] = new EventList();
        }
        for (int slot = 0; slot < traces.length; slot++) {
            traces[slot] = new Trace();
        }
    }

    // ---- The fibre

    public int begin(int length, int attenuation, int scatter) {
        if (!isSection(length, attenuation, scatter)) {
            return BAD_VALUE;
        }
        int previous = now.fibre.totalLength();
        recordChange();
        now.fibre.clear();
        now.fibre.append(length, attenuation, scatter);
        return previous;
    }

    public int addSection(int length, int attenuation, int scatter) {
        if (!isSection(length, attenuation, scatter)) {
            return BAD_VALUE;
        }
        Fibre fibre = now.fibre;
        if (fibre.sections >= MAX_SECTIONS || fibre.totalLength() + length > MAX_LENGTH) {
            return FULL;
        }
        recordChange();
        fibre.append(length, attenuation, scatter);
        return fibre.sections - 1;
    }

    public int setJoint(int joint, int loss, int height) {
        Fibre fibre = now.fibre;
        if (!isWithin(joint, 0, fibre.sections)) {
            return BAD_NUMBER;
        }
        if (!isWithin(loss, 0, MAX_LOSS) || !isWithin(height, 0, MAX_HEIGHT)) {
            return BAD_VALUE;
        }
        int previous = fibre.jointLosses[joint];
        recordChange();
        fibre.jointLosses[joint] = loss;
        fibre.jointHeights[joint] = height;
        return previous;
    }

    public int addBend(int place, int loss) {
        Fibre fibre = now.fibre;
        if (!isWithin(place, 1, fibre.totalLength() - 1) || !isWithin(loss, 1, MAX_LOSS)) {
            return BAD_VALUE;
        }
        if (fibre.bends >= MAX_BENDS) {
            return FULL;
        }
        recordChange();
        fibre.appendBend(place, loss);
        return fibre.bends - 1;
    }

    public int removeBend(int bend) {
        Fibre fibre = now.fibre;
        if (!isWithin(bend, 0, fibre.bends - 1)) {
            return BAD_NUMBER;
        }
        int loss = fibre.bendLosses[bend];
        recordChange();
        fibre.dropBend(bend);
        return loss;
    }

    public int setBreak(int place, int height) {
        Fibre fibre = now.fibre;
        if (!isWithin(place, 0, fibre.totalLength() - 1) || !isWithin(height, 0, MAX_HEIGHT)) {
            return BAD_VALUE;
        }
        int previous = fibre.breakPlace;
        if (place == 0 && previous == 0) {
            return NOT_POSSIBLE;
        }
        recordChange();
        fibre.breakPlace = place;
        fibre.breakHeight = place == 0 ? 0 : height;
        return previous;
    }

    public int set(int setting, int value) {
        if (!isWithin(setting, 0, LEAST_SETTING.length - 1)) {
            return BAD_NUMBER;
        }
        if (!isWithin(value, LEAST_SETTING[setting], GREATEST_SETTING[setting])) {
            return BAD_VALUE;
        }
        int previous = now.settings[setting];
        recordChange();
        now.settings[setting] = value;
        return previous;
    }

    public int undo() {
        if (history.count == 0) {
            return NOT_POSSIBLE;
        }
        history.restoreLatest(now);
        version++;
        return history.count;
    }

    public int told(int what) {
        switch (what) {
            case 0:
                return now.fibre.totalLength();
            case 1:
                return now.fibre.sections;
            case 2:
                return now.fibre.bends;
            case 3:
                return now.fibre.breakPlace;
            case 4:
                return now.fibre.breakHeight;
            case 5:
                return now.map.points;
            case 6:
                return now.map.excess;
            case 7:
                return text.count;
            default:
                return BAD_VALUE;
        }
    }

    public int section(int section, int what) {
        Fibre fibre = now.fibre;
        if (!isWithin(section, 0, fibre.sections - 1)) {
            return BAD_NUMBER;
        }
        switch (what) {
            case 0:
                return fibre.lengths[section];
            case 1:
                return fibre.attenuations[section];
            case 2:
                return fibre.scatters[section];
            case 3:
                return fibre.placeOfJoint(section);
            default:
                return BAD_VALUE;
        }
    }

    public int joint(int joint, int what) {
        Fibre fibre = now.fibre;
        if (!isWithin(joint, 0, fibre.sections)) {
            return BAD_NUMBER;
        }
        switch (what) {
            case 0:
                return fibre.jointLosses[joint];
            case 1:
                return fibre.jointHeights[joint];
            case 2:
                return fibre.placeOfJoint(joint);
            default:
                return BAD_VALUE;
        }
    }

    public int bend(int bend, int what) {
        Fibre fibre = now.fibre;
        if (!isWithin(bend, 0, fibre.bends - 1)) {
            return BAD_NUMBER;
        }
        switch (what) {
            case 0:
                return fibre.bendLosses[bend];
            case 1:
                return fibre.bendPlaces[bend];
            default:
                return BAD_VALUE;
        }
    }

    public int lossTo(int side, int x) {
        if (!isSide(side) || !isWithin(x, 0, now.fibre.totalLength())) {
            return BAD_VALUE;
        }
        return viewOf(side).lossUpTo(x);
    }

    // ---- Traces

    public int sample(int side, int width, int d) {
        if (!isSide(side) || !isWidth(width) || !isDistance(d)) {
            return BAD_VALUE;
        }
        return traceOf(side, width).at(d);
    }

    public float meanLoss(int side, int width, int a, int b) {
        if (!isSide(side) || !isWidth(width) || !isDistance(a) || !isDistance(b) || b <= a) {
            return (float) BAD_VALUE;
        }
        Trace trace = traceOf(side, width);
        return (float) (trace.at(a) - trace.at(b)) / (float) (b - a);
    }

    public int visible(int side, int width) {
        if (!isSide(side) || !isWidth(width)) {
            return BAD_VALUE;
        }
        Trace trace = traceOf(side, width);
        int seen = 0;
        while (seen <= LAST_DISTANCE && trace.at(seen) > FLOOR) {
            seen++;
        }
        return seen;
    }

    public int stitched(int side, int d) {
        if (!isSide(side) || !isDistance(d)) {
            return BAD_VALUE;
        }
        return stitchedAt(side, d);
    }

    public int stitchedCount(int side) {
        if (!isSide(side)) {
            return BAD_VALUE;
        }
        int found = 0;
        for (int d = 0; d <= LAST_DISTANCE; d++) {
            if (stitchedAt(side, d) != NONE) {
                found++;
            }
        }
        return found;
    }

    // ---- Events

    public int events(int side, int width) {
        if (!isSide(side) || !isWidth(width)) {
            return BAD_VALUE;
        }
        return eventsOf(side, width).count;
    }

    public int event(int side, int width, int event, int what) {
        if (!isSide(side) || !isWidth(width) || !isWithin(what, 0, 6)) {
            return BAD_VALUE;
        }
        EventList list = eventsOf(side, width);
        if (!isWithin(event, 0, list.count - 1)) {
            return BAD_NUMBER;
        }
        switch (what) {
            case 0:
                return list.starts[event];
            case 1:
                return list.stops[event];
            case 2:
                return list.kinds[event];
            case 3:
                return list.losses[event];
            case 4:
                return list.rises[event];
            case 5:
                return list.ghostMirror(event);
            default:
                return list.ghostOrigin(event);
        }
    }

    public int ghosts(int side, int width) {
        if (!isSide(side) || !isWidth(width)) {
            return BAD_VALUE;
        }
        EventList list = eventsOf(side, width);
        int named = 0;
        for (int event = 0; event < list.count && event < GHOST_SET_SIZE; event++) {
            if (list.ghostMirror(event) != NONE) {
                named |= 1 << event;
            }
        }
        return named;
    }

    public int endSeen(int side, int width) {
        if (!isSide(side) || !isWidth(width)) {
            return BAD_VALUE;
        }
        return eventsOf(side, width).firstEnd();
    }

    public int joinedCount(int width) {
        if (!isWidth(width)) {
            return BAD_VALUE;
        }
        joinSides(eventsOf(0, width), eventsOf(1, width));
        return pairing.count;
    }

    public int joined(int width, int k, int what) {
        if (!isWidth(width) || k < 0 || !isWithin(what, 0, 3)) {
            return BAD_VALUE;
        }
        EventList near = eventsOf(0, width);
        EventList far = eventsOf(1, width);
        joinSides(near, far);
        if (k >= pairing.count) {
            return NONE;
        }
        int first = pairing.firsts[k];
        int second = pairing.seconds[k];
        switch (what) {
            case 0:
                return first;
            case 1:
                return second;
            case 2:
                return near.lossOf(first) + far.lossOf(second);
            default:
                return near.lossOf(first) - far.lossOf(second);
        }
    }

    // ---- The map

    public int addPoint(int position, int slack) {
        CableMap map = now.map;
        if (!isWithin(position, 0, MAX_POSITION) || !isWithin(slack, 0, MAX_SLACK)) {
            return BAD_VALUE;
        }
        if (map.points >= MAX_POINTS) {
            return FULL;
        }
        if (map.points > 0 && position <= map.positions[map.points - 1]) {
            return NOT_POSSIBLE;
        }
        recordChange();
        map.append(position, slack);
        return map.points - 1;
    }

    public int clearMap() {
        int previous = now.map.points;
        recordChange();
        now.map.points = 0;
        return previous;
    }

    public int setExcess(int excess) {
        if (!isWithin(excess, 0, MAX_EXCESS)) {
            return BAD_VALUE;
        }
        int previous = now.map.excess;
        recordChange();
        now.map.excess = excess;
        return previous;
    }

    public int point(int point, int what) {
        CableMap map = now.map;
        if (!isWithin(point, 0, map.points - 1)) {
            return BAD_NUMBER;
        }
        switch (what) {
            case 0:
                return map.positions[point];
            case 1:
                return map.slacks[point];
            case 2:
                return map.reachOf(point);
            default:
                return BAD_VALUE;
        }
    }

    public int toRoute(int units) {
        if (units < 0) {
            return BAD_VALUE;
        }
        return now.map.routeOf(units);
    }

    public int pointBefore(int units) {
        if (units < 0) {
            return BAD_VALUE;
        }
        return now.map.lastReached(units);
    }

    public int placed(int width, int what) {
        if (!isWidth(width) || !isWithin(what, 0, 2)) {
            return BAD_VALUE;
        }
        int first = what == 1 ? 0 : routeOfEnd(0, eventsOf(0, width).firstEnd());
        int second = what == 0 ? 0 : routeOfEnd(1, eventsOf(1, width).firstEnd());
        if (first == NONE || second == NONE) {
            return NONE;
        }
        if (what == 0) {
            return first;
        }
        return what == 1 ? second : second - first;
    }

    // ---- The text

    public int write(int code) {
        if (!isWithin(code, FIRST_CODE, LAST_CODE)) {
            return BAD_VALUE;
        }
        if (text.count >= MAX_TEXT) {
            return FULL;
        }
        text.append(code);
        return text.count;
    }

    public int wipe() {
        int previous = text.count;
        text.count = 0;
        return previous;
    }

    public int load() {
        // The draft keeps a text with a fault from touching the fibre.
        if (!text.readInto(draft)) {
            return NOT_POSSIBLE;
        }
        recordChange();
        now.fibre.copyFrom(draft);
        return now.fibre.sections;
    }

    public int fault(int what) {
        if (!isWithin(what, 0, 1)) {
            return BAD_VALUE;
        }
        if (text.faultKind == TextReader.NO_FAULT) {
            return NONE;
        }
        return what == 0 ? text.faultPlace : text.faultKind;
    }

    // ---- What the calls share

    private static boolean isWithin(int value, int least, int greatest) {
        return value >= least && value <= greatest;
    }

    private static boolean isSide(int side) {
        return isWithin(side, 0, 1);
    }

    private static boolean isWidth(int width) {
        return isWithin(width, 1, MAX_WIDTH);
    }

    private static boolean isDistance(int d) {
        return isWithin(d, 0, LAST_DISTANCE);
    }

    private static boolean isSection(int length, int attenuation, int scatter) {
        return isWithin(length, 1, MAX_SECTION_LENGTH)
                && isWithin(attenuation, 1, MAX_ATTENUATION)
                && isWithin(scatter, 0, MAX_SCATTER);
    }

    private static void copyRow(int[] from, int[] to) {
        System.arraycopy(from, 0, to, 0, Math.min(from.length, to.length));
    }

    private void recordChange() {
        history.keep(now);
        version++;
    }

    private View viewOf(int side) {
        View view = views[side == 0 ? 0 : 1];
        if (view.madeAt != version) {
            view.look(now.fibre, side);
            view.madeAt = version;
        }
        return view;
    }

    private Trace traceOf(int side, int width) {
        Trace trace = traces[slotOf(side, width)];
        if (trace.madeAt != version || trace.width != width) {
            trace.compute(viewOf(side), width);
            trace.madeAt = version;
        }
        return trace;
    }

    private static int slotOf(int side, int width) {
        int first = side == 0 ? 0 : SLOTS_PER_SIDE;
        for (int i = 0; i < STITCH_WIDTHS.length; i++) {
            if (STITCH_WIDTHS[i] == width) {
                return first + i;
            }
        }
        return first + SLOTS_PER_SIDE - 1;
    }

    private int stitchedAt(int side, int d) {
        int least = FLOOR + now.settings[MARGIN];
        for (int i = 0; i < STITCH_WIDTHS.length; i++) {
            int width = STITCH_WIDTHS[i];
            int level = traceOf(side, width).at(d);
            if (level >= least) {
                return level - PULSE_LEVEL * width;
            }
        }
        return NONE;
    }

    private EventList eventsOf(int side, int width) {
        EventList list = eventLists[side == 0 ? 0 : 1];
        if (list.madeAt != version || list.width != width) {
            list.find(traceOf(side, width), now.settings[SLOPE], now.settings[THRESHOLD]);
            list.width = width;
            list.madeAt = version;
        }
        return list;
    }

    private void joinSides(EventList near, EventList far) {
        pairing.pair(near, far, now.fibre.totalLength(), now.settings[TOLERANCE]);
    }

    private int routeOfEnd(int side, int end) {
        if (end == NONE) {
            return NONE;
        }
        int units = side == 0 ? end : now.fibre.totalLength() - end;
        // Ghosts, and reflections that fall slowly, can make an end that is seen beyond the fibre.
        return units < 0 ? NONE : now.map.routeOf(units);
    }

    /** The sections, joints, bends and break of a fibre, all at places counted from side 0. */
    private static final class Fibre {
        final int[] lengths = new int[MAX_SECTIONS];
        final int[] attenuations = new int[MAX_SECTIONS];
        final int[] scatters = new int[MAX_SECTIONS];
        int sections = 0;
        final int[] jointLosses = new int[MAX_SECTIONS + 1];
        final int[] jointHeights = new int[MAX_SECTIONS + 1];
        final int[] bendPlaces = new int[MAX_BENDS];
        final int[] bendLosses = new int[MAX_BENDS];
        int bends = 0;
        /** 0 if there is no break. */
        int breakPlace = 0;
        int breakHeight = 0;

        void copyFrom(Fibre other) {
            copyRow(other.lengths, lengths);
            copyRow(other.attenuations, attenuations);
            copyRow(other.scatters, scatters);
            sections = other.sections;
            copyRow(other.jointLosses, jointLosses);
            copyRow(other.jointHeights, jointHeights);
            copyRow(other.bendPlaces, bendPlaces);
            copyRow(other.bendLosses, bendLosses);
            bends = other.bends;
            breakPlace = other.breakPlace;
            breakHeight = other.breakHeight;
        }

        void clear() {
            sections = 0;
            jointLosses[0] = 0;
            jointHeights[0] = 0;
            bends = 0;
            breakPlace = 0;
            breakHeight = 0;
        }

        void append(int length, int attenuation, int scatter) {
            if (sections < 0 || sections >= MAX_SECTIONS) {
                return;
            }
            lengths[sections] = length;
            attenuations[sections] = attenuation;
            scatters[sections] = scatter;
            sections++;
            jointLosses[sections] = 0;
            jointHeights[sections] = 0;
        }

        void appendBend(int place, int loss) {
            if (bends < 0 || bends >= MAX_BENDS) {
                return;
            }
            bendPlaces[bends] = place;
            bendLosses[bends] = loss;
            bends++;
        }

        void dropBend(int bend) {
            if (bend < 0 || bend >= bends) {
                return;
            }
            bends--;
            for (int i = bend; i < bends; i++) {
                bendPlaces[i] = bendPlaces[i + 1];
                bendLosses[i] = bendLosses[i + 1];
            }
        }

        int placeOfJoint(int joint) {
            int place = 0;
            for (int i = 0; i < joint && i < sections; i++) {
                place += lengths[i];
            }
            return place;
        }

        int totalLength() {
            return placeOfJoint(sections);
        }
    }

    /** The points of the route and how much more fibre than route there is. */
    private static final class CableMap {
        final int[] positions = new int[MAX_POINTS];
        final int[] slacks = new int[MAX_POINTS];
        int points = 0;
        int excess = 0;

        void copyFrom(CableMap other) {
            copyRow(other.positions, positions);
            copyRow(other.slacks, slacks);
            points = other.points;
            excess = other.excess;
        }

        void append(int position, int slack) {
            if (points < 0 || points >= MAX_POINTS) {
                return;
            }
            positions[points] = position;
            slacks[points] = slack;
            points++;
        }

        /** How many units of fibre 1000 of the route take; at least 1000, since it is a divisor too. */
        int fibrePerThousand() {
            return 1000 + Math.max(excess, 0);
        }

        /** The units of fibre from the end of a point's slack to the next point. */
        int runAfter(int point) {
            if (point < 0 || point + 1 >= points) {
                return 0;
            }
            return (positions[point + 1] - positions[point]) * fibrePerThousand() / 1000;
        }

        int reachOf(int point) {
            int reach = 0;
            for (int i = 0; i < point && i < points; i++) {
                reach += slacks[i] + runAfter(i);
            }
            return reach;
        }

        int routeOf(int units) {
            int left = units;
            for (int i = 0; i < points; i++) {
                int behind = left - slacks[i];
                if (behind <= 0) {
                    return positions[i];
                }
                int run = runAfter(i);
                if (behind < run) {
                    return positions[i] + behind * 1000 / fibrePerThousand();
                }
                left = behind - run;
            }
            return NONE;
        }

        int lastReached(int units) {
            int last = NONE;
            int reach = 0;
            for (int i = 0; i < points && reach <= units; i++) {
                last = i;
                reach += slacks[i] + runAfter(i);
            }
            return last;
        }
    }

    /** All that a change can alter and undo() brings back. */
    private static final class State {
        final Fibre fibre = new Fibre();
        final CableMap map = new CableMap();
        final int[] settings = new int[LEAST_SETTING.length];

        void copyFrom(State other) {
            fibre.copyFrom(other.fibre);
            map.copyFrom(other.map);
            copyRow(other.settings, settings);
        }
    }

    /** The latest states, in a ring, so that the oldest one is dropped without moving the others. */
    private static final class History {
        final State[] states = new State[KEPT_STATES];
        int oldest = 0;
        int count = 0;

        History() {
            for (int i = 0; i < states.length; i++) {
                states[i] = new State();
            }
        }

        void keep(State state) {
            if (count >= KEPT_STATES) {
                oldest = Math.floorMod(oldest + 1, KEPT_STATES);
                count = KEPT_STATES - 1;
            }
            states[Math.floorMod(oldest + count, KEPT_STATES)].copyFrom(state);
            count++;
        }

        void restoreLatest(State into) {
            if (count <= 0) {
                return;
            }
            count--;
            into.copyFrom(states[Math.floorMod(oldest + count, KEPT_STATES)]);
        }
    }

    /** The fibre as it is seen from one side: all by the distance from there. */
    private static final class View {
        final int[] losses = new int[MAX_LENGTH + 1];
        /** The scattered levels, without what the width of the pulse adds. */
        final int[] levels = new int[MAX_LENGTH];
        /** In the order of their distances, which the pairs that make ghosts rely on. */
        final int[] reflectorDistances = new int[MAX_SECTIONS + 2];
        final int[] reflectorHeights = new int[MAX_SECTIONS + 2];
        int reflectors = 0;
        int side = 0;
        int length = 0;
        int end = 0;
        int madeAt = -1;

        void look(Fibre fibre, int fromSide) {
            side = fromSide;
            length = fibre.totalLength();
            end = fibre.breakPlace == 0 ? length : distanceOf(fibre.breakPlace);
            Arrays.fill(losses, 0);
            lookAtUnits(fibre);
            lookAtBends(fibre);
            lookAtJoints(fibre);
            for (int x = 1; x < losses.length; x++) {
                losses[x] += losses[x - 1];
            }
            for (int d = 0; d < length && d < levels.length; d++) {
                levels[d] -= losses[d];
            }
            if (fibre.breakPlace != 0) {
                addReflector(end, fibre.breakHeight);
            }
        }

        int distanceOf(int place) {
            return side == 0 ? place : length - place;
        }

        void lookAtUnits(Fibre fibre) {
            int place = 0;
            for (int section = 0; section < fibre.sections; section++) {
                for (int i = 0; i < fibre.lengths[section]; i++) {
                    int unit = side == 0 ? place : length - 1 - place;
                    if (unit >= 0 && unit < levels.length) {
                        levels[unit] = BASE_LEVEL + fibre.scatters[section];
                        losses[unit + 1] += fibre.attenuations[section];
                    }
                    place++;
                }
            }
        }

        void lookAtBends(Fibre fibre) {
            for (int bend = 0; bend < fibre.bends; bend++) {
                int distance = distanceOf(fibre.bendPlaces[bend]);
                if (distance >= 0 && distance < losses.length) {
                    losses[distance] += fibre.bendLosses[bend];
                }
            }
        }

        void lookAtJoints(Fibre fibre) {
            reflectors = 0;
            boolean broken = fibre.breakPlace != 0;
            for (int i = 0; i <= fibre.sections; i++) {
                int joint = side == 0 ? i : fibre.sections - i;
                int distance = distanceOf(fibre.placeOfJoint(joint));
                if (distance >= 0 && distance < losses.length) {
                    losses[distance] += fibre.jointLosses[joint];
                }
                if (distance < end || !broken) {
                    addReflector(distance, fibre.jointHeights[joint]);
                }
            }
        }

        void addReflector(int distance, int height) {
            if (height > 0 && reflectors < reflectorDistances.length) {
                reflectorDistances[reflectors] = distance;
                reflectorHeights[reflectors] = height;
                reflectors++;
            }
        }

        int lossUpTo(int x) {
            return x >= 0 && x < losses.length ? losses[x] : 0;
        }

        int levelAt(int d) {
            return d >= 0 && d < levels.length ? levels[d] : 0;
        }
    }

    /** The samples for one side and one width. */
    private static final class Trace {
        final int[] samples = new int[LAST_DISTANCE + 1];
        int width = 0;
        int madeAt = -1;

        int at(int d) {
            return d >= 0 && d < samples.length ? samples[d] : FLOOR;
        }

        void compute(View view, int pulseWidth) {
            width = pulseWidth;
            Arrays.fill(samples, FLOOR);
            for (int d = 0; d < view.end; d++) {
                raiseTo(d, view.levelAt(d) + PULSE_LEVEL * width);
            }
            for (int q = 0; q < view.reflectors; q++) {
                addReflection(view, q);
                for (int p = 0; p < q; p++) {
                    addGhost(view, p, q);
                }
            }
        }

        int levelBefore(View view, int x) {
            return view.levelAt(x > 0 ? x - 1 : 0) + PULSE_LEVEL * width;
        }

        void raiseTo(int d, int level) {
            if (d >= 0 && d < samples.length && level > samples[d]) {
                samples[d] = level;
            }
        }

        void addReflection(View view, int reflector) {
            int x = view.reflectorDistances[reflector];
            int before = levelBefore(view, x);
            for (int k = 0; k <= LAST_DISTANCE; k++) {
                int falling = Math.min(k, width - 1);
                int added = view.reflectorHeights[reflector] - PULSE_LEVEL * falling - TAIL_FALL * (k - falling);
                if (added <= 0) {
                    return;
                }
                raiseTo(x + k, before + added);
            }
        }

        void addGhost(View view, int first, int second) {
            int p = view.reflectorDistances[first];
            int q = view.reflectorDistances[second];
            int height = view.reflectorHeights[first] + 2 * view.reflectorHeights[second] - GHOST_LOSS
                    - 2 * (view.lossUpTo(q) - view.lossUpTo(p));
            int before = levelBefore(view, q);
            for (int k = 0; k < width; k++) {
                int added = height - PULSE_LEVEL * k;
                if (added <= 0) {
                    return;
                }
                raiseTo(2 * q - p + k, before + added);
            }
        }
    }

    /** The events of a trace; it keeps no trace, since the trace's rows serve other widths later. */
    private static final class EventList {
        final int[] starts = new int[MAX_EVENTS];
        final int[] stops = new int[MAX_EVENTS];
        final int[] kinds = new int[MAX_EVENTS];
        final int[] losses = new int[MAX_EVENTS];
        final int[] rises = new int[MAX_EVENTS];
        /** For each distance, whether an event that bounces starts there. */
        final boolean[] bounces = new boolean[LAST_DISTANCE + 1];
        int count = 0;
        int width = 0;
        int madeAt = -1;

        void find(Trace trace, int slope, int threshold) {
            count = 0;
            for (int d = 0; d < bounces.length; d++) {
                bounces[d] = false;
            }
            // No event starts at 0, so 0 says that no row of marked distances is open.
            int start = 0;
            for (int d = 1; d <= LAST_DISTANCE; d++) {
                boolean marked = isMarked(trace, d, slope, threshold);
                if (marked && start == 0) {
                    start = d;
                }
                if (start > 0 && (!marked || d == LAST_DISTANCE)) {
                    keep(trace, start, marked ? d : d - 1, slope);
                    start = 0;
                }
            }
        }

        static int deviation(Trace trace, int d, int slope) {
            return trace.at(d) - trace.at(d - 1) + slope;
        }

        static boolean isMarked(Trace trace, int d, int slope, int threshold) {
            int off = deviation(trace, d, slope);
            return (off >= threshold || off <= -threshold)
                    && (trace.at(d) > FLOOR || trace.at(d - 1) > FLOOR);
        }

        void keep(Trace trace, int start, int stop, int slope) {
            if (count < 0 || count >= MAX_EVENTS || start < 1 || start >= bounces.length) {
                return;
            }
            int before = trace.at(start - 1);
            int greatest = trace.at(start);
            for (int d = start + 1; d <= stop; d++) {
                greatest = Math.max(greatest, trace.at(d));
            }
            boolean bouncing = deviation(trace, start, slope) > 0;
            bounces[start] = bouncing;
            starts[count] = start;
            stops[count] = stop;
            kinds[count] = trace.at(stop) == FLOOR ? END : bouncing ? REFLECTIVE : STEP;
            losses[count] = before - trace.at(stop) - slope * (stop - start + 1);
            rises[count] = greatest - before;
            count++;
        }

        int startOf(int event) {
            return event >= 0 && event < count ? starts[event] : 0;
        }

        int lossOf(int event) {
            return event >= 0 && event < count ? losses[event] : 0;
        }

        boolean isInside(int event) {
            return event >= 0 && event < count && kinds[event] != END;
        }

        boolean bouncesFrom(int d) {
            return d > 0 && d < bounces.length && bounces[d];
        }

        /** The distance q of the ghost that an event is named, or NONE. */
        int ghostMirror(int event) {
            int start = startOf(event);
            if (!bouncesFrom(start)) {
                return NONE;
            }
            for (int earlier = 0; earlier < event; earlier++) {
                int q = starts[earlier];
                int p = 2 * q - start;
                if (bouncesFrom(q) && (p == 0 || bouncesFrom(p))) {
                    return q;
                }
            }
            return NONE;
        }

        /** The distance p of the ghost that an event is named, or NONE. */
        int ghostOrigin(int event) {
            int q = ghostMirror(event);
            return q == NONE ? NONE : 2 * q - startOf(event);
        }

        int firstEnd() {
            for (int event = 0; event < count; event++) {
                if (kinds[event] == END) {
                    return starts[event];
                }
            }
            return NONE;
        }
    }

    /** The events of both sides that are joined, in the order of side 0. */
    private static final class Pairing {
        final int[] firsts = new int[MAX_EVENTS];
        final int[] seconds = new int[MAX_EVENTS];
        final boolean[] taken = new boolean[MAX_EVENTS];
        int count = 0;

        void pair(EventList near, EventList far, int length, int tolerance) {
            count = 0;
            for (int i = 0; i < taken.length; i++) {
                taken[i] = false;
            }
            for (int first = 0; first < near.count; first++) {
                int second = near.isInside(first) ? partner(near.startOf(first), far, length, tolerance) : NONE;
                if (second != NONE) {
                    keep(first, second);
                }
            }
        }

        int partner(int start, EventList far, int length, int tolerance) {
            for (int second = 0; second < far.count && second < taken.length; second++) {
                int apart = Math.abs(start + far.startOf(second) - length);
                if (!taken[second] && far.isInside(second) && apart <= tolerance) {
                    return second;
                }
            }
            return NONE;
        }

        void keep(int first, int second) {
            if (count >= firsts.length || second < 0 || second >= taken.length) {
                return;
            }
            taken[second] = true;
            firsts[count] = first;
            seconds[count] = second;
            count++;
        }
    }

    /** The text, how it is read, and the latest fault that reading has found. */
    private static final class TextReader {
        static final int NO_FAULT = 0;
        static final int WRONG_CHARACTER = 1;
        static final int WRONG_NUMBER = 2;
        static final int TOO_LONG = 3;
        static final int TOO_MANY = 4;
        static final int MAX_DIGITS = 4;
        static final int NO_NUMBER = -1;

        final int[] codes = new int[MAX_TEXT];
        int count = 0;
        int faultKind = NO_FAULT;
        int faultPlace = 0;
        private int next = 0;

        void append(int code) {
            if (count >= 0 && count < codes.length) {
                codes[count] = code;
                count++;
            }
        }

        boolean readInto(Fibre fibre) {
            fibre.clear();
            next = 0;
            for (int item = 0; item < MAX_SECTIONS; item++) {
                if (!readItem(fibre)) {
                    return false;
                }
                if (next >= count) {
                    return true;
                }
            }
            blame(isDigit(next) ? TOO_MANY : WRONG_CHARACTER, next);
            return false;
        }

        boolean readItem(Fibre fibre) {
            int first = next;
            int length = readNumber(1, MAX_SECTION_LENGTH);
            if (length == NO_NUMBER) {
                return false;
            }
            if (fibre.totalLength() + length > MAX_LENGTH) {
                blame(TOO_LONG, first);
                return false;
            }
            if (!readSign('x')) {
                return false;
            }
            int attenuation = readNumber(1, MAX_ATTENUATION);
            if (attenuation == NO_NUMBER || !readSign('b')) {
                return false;
            }
            int scatter = readNumber(0, MAX_SCATTER);
            if (scatter == NO_NUMBER || !readSign(';')) {
                return false;
            }
            fibre.append(length, attenuation, scatter);
            return true;
        }

        int readNumber(int least, int greatest) {
            int first = next;
            int value = 0;
            while (next < first + MAX_DIGITS && isDigit(next)) {
                value = value * 10 + codeAt(next) - '0';
                next++;
            }
            if (next == first) {
                blame(WRONG_CHARACTER, next);
                return NO_NUMBER;
            }
            if (value < least || value > greatest) {
                blame(WRONG_NUMBER, first);
                return NO_NUMBER;
            }
            return value;
        }

        boolean readSign(char sign) {
            if (codeAt(next) != sign) {
                blame(WRONG_CHARACTER, next);
                return false;
            }
            next++;
            return true;
        }

        /** The code at an index, or 0, which no text holds, behind the end. */
        int codeAt(int index) {
            return index >= 0 && index < count && index < codes.length ? codes[index] : 0;
        }

        boolean isDigit(int index) {
            return codeAt(index) >= '0' && codeAt(index) <= '9';
        }

        void blame(int kind, int place) {
            faultKind = kind;
            faultPlace = place;
        }
    }
}
