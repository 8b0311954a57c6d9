import java.util.ArrayList;
import java.util.HashMap;
import java.util.List;
import java.util.Map;

/**
 * The document once more, as slowly and literally as it can be said, to compare the program with.
 * It shares no code with the program and may use the whole Java library.
 */
final class PlainBench {
    static final int BAD_NUMBER = -1000001;
    static final int BAD_VALUE = -1000002;
    static final int FULL = -1000003;
    static final int NOT_POSSIBLE = -1000004;
    static final int NONE = -1000005;

    record Section(int length, int attenuation, int scatter) { }

    record Joint(int loss, int height) { }

    record Bend(int place, int loss) { }

    record Point(int position, int slack) { }

    record Reflector(int distance, int height) { }

    record Event(int start, int stop, int kind, int loss, int rise, boolean bounces) { }

    record Pair(int first, int second) { }

    record State(List<Section> sections, List<Joint> joints, List<Bend> bends, int breakPlace, int breakHeight,
            List<Integer> settings, List<Point> points, int excess) { }

    private State now = new State(List.of(new Section(100, 20, 1000)), List.of(new Joint(0, 0), new Joint(0, 0)),
            List.of(), 0, 0, List.of(20, 100, 2, 1000), List.of(), 30);
    private final List<State> kept = new ArrayList<>();
    private final StringBuilder text = new StringBuilder();
    private int[] fault = null;
    private final Map<Integer, int[]> traces = new HashMap<>();
    private final Map<Integer, Integer> losses = new HashMap<>();

    // ---- Changes

    private void become(State next) {
        kept.add(now);
        if (kept.size() > 8) {
            kept.remove(0);
        }
        now = next;
        forget();
    }

    private void forget() {
        traces.clear();
        losses.clear();
    }

    private static <T> List<T> with(List<T> list, T more) {
        List<T> copy = new ArrayList<>(list);
        copy.add(more);
        return copy;
    }

    private static <T> List<T> replaced(List<T> list, int index, T other) {
        List<T> copy = new ArrayList<>(list);
        copy.set(index, other);
        return copy;
    }

    private static <T> List<T> without(List<T> list, int index) {
        List<T> copy = new ArrayList<>(list);
        copy.remove(index);
        return copy;
    }

    private static boolean in(int value, int least, int greatest) {
        return least <= value && value <= greatest;
    }

    private static boolean allowed(int length, int attenuation, int scatter) {
        return in(length, 1, 100) && in(attenuation, 1, 60) && in(scatter, 0, 2000);
    }

    private int length() {
        return placeOfJoint(now.sections.size());
    }

    private State fibreOf(List<Section> sections) {
        List<Joint> joints = new ArrayList<>();
        for (int i = 0; i <= sections.size(); i++) {
            joints.add(new Joint(0, 0));
        }
        return new State(sections, joints, List.of(), 0, 0, now.settings, now.points, now.excess);
    }

    int begin(int length, int attenuation, int scatter) {
        if (!allowed(length, attenuation, scatter)) {
            return BAD_VALUE;
        }
        int previous = length();
        become(fibreOf(List.of(new Section(length, attenuation, scatter))));
        return previous;
    }

    int addSection(int length, int attenuation, int scatter) {
        if (!allowed(length, attenuation, scatter)) {
            return BAD_VALUE;
        }
        if (now.sections.size() == 8 || length() + length > 300) {
            return FULL;
        }
        become(new State(with(now.sections, new Section(length, attenuation, scatter)),
                with(now.joints, new Joint(0, 0)), now.bends, now.breakPlace, now.breakHeight,
                now.settings, now.points, now.excess));
        return now.sections.size() - 1;
    }

    int setJoint(int joint, int loss, int height) {
        if (!in(joint, 0, now.sections.size())) {
            return BAD_NUMBER;
        }
        if (!in(loss, 0, 3000) || !in(height, 0, 9000)) {
            return BAD_VALUE;
        }
        int previous = now.joints.get(joint).loss;
        become(new State(now.sections, replaced(now.joints, joint, new Joint(loss, height)), now.bends,
                now.breakPlace, now.breakHeight, now.settings, now.points, now.excess));
        return previous;
    }

    private State bent(List<Bend> bends) {
        return new State(now.sections, now.joints, bends, now.breakPlace, now.breakHeight,
                now.settings, now.points, now.excess);
    }

    int addBend(int place, int loss) {
        if (!in(place, 1, length() - 1) || !in(loss, 1, 3000)) {
            return BAD_VALUE;
        }
        if (now.bends.size() == 6) {
            return FULL;
        }
        become(bent(with(now.bends, new Bend(place, loss))));
        return now.bends.size() - 1;
    }

    int removeBend(int bend) {
        if (!in(bend, 0, now.bends.size() - 1)) {
            return BAD_NUMBER;
        }
        int loss = now.bends.get(bend).loss;
        become(bent(without(now.bends, bend)));
        return loss;
    }

    int setBreak(int place, int height) {
        if (!in(place, 0, length() - 1) || !in(height, 0, 9000)) {
            return BAD_VALUE;
        }
        if (place == 0 && now.breakPlace == 0) {
            return NOT_POSSIBLE;
        }
        int previous = now.breakPlace;
        become(new State(now.sections, now.joints, now.bends, place, place == 0 ? 0 : height,
                now.settings, now.points, now.excess));
        return previous;
    }

    int set(int setting, int value) {
        boolean fits;
        switch (setting) {
            case 0 -> fits = in(value, 0, 60);
            case 1 -> fits = in(value, 1, 5000);
            case 2 -> fits = in(value, 0, 20);
            case 3 -> fits = in(value, 0, 9000);
            default -> {
                return BAD_NUMBER;
            }
        }
        if (!fits) {
            return BAD_VALUE;
        }
        int previous = now.settings.get(setting);
        become(new State(now.sections, now.joints, now.bends, now.breakPlace, now.breakHeight,
                replaced(now.settings, setting, value), now.points, now.excess));
        return previous;
    }

    private State mapped(List<Point> points, int excess) {
        return new State(now.sections, now.joints, now.bends, now.breakPlace, now.breakHeight,
                now.settings, points, excess);
    }

    int addPoint(int position, int slack) {
        if (!in(position, 0, 9999) || !in(slack, 0, 99)) {
            return BAD_VALUE;
        }
        int count = now.points.size();
        if (count == 10) {
            return FULL;
        }
        if (count > 0 && position <= now.points.get(count - 1).position) {
            return NOT_POSSIBLE;
        }
        become(mapped(with(now.points, new Point(position, slack)), now.excess));
        return count;
    }

    int clearMap() {
        int previous = now.points.size();
        become(mapped(List.of(), now.excess));
        return previous;
    }

    int setExcess(int excess) {
        if (!in(excess, 0, 100)) {
            return BAD_VALUE;
        }
        int previous = now.excess;
        become(mapped(now.points, excess));
        return previous;
    }

    int undo() {
        if (kept.isEmpty()) {
            return NOT_POSSIBLE;
        }
        now = kept.remove(kept.size() - 1);
        forget();
        return kept.size();
    }

    // ---- What is told

    int told(int what) {
        int[] all = {length(), now.sections.size(), now.bends.size(), now.breakPlace, now.breakHeight,
            now.points.size(), now.excess, text.length()};
        return in(what, 0, 7) ? all[what] : BAD_VALUE;
    }

    private int placeOfJoint(int joint) {
        int place = 0;
        for (Section section : now.sections.subList(0, joint)) {
            place += section.length;
        }
        return place;
    }

    int section(int section, int what) {
        if (!in(section, 0, now.sections.size() - 1)) {
            return BAD_NUMBER;
        }
        Section s = now.sections.get(section);
        int[] all = {s.length, s.attenuation, s.scatter, placeOfJoint(section)};
        return in(what, 0, 3) ? all[what] : BAD_VALUE;
    }

    int joint(int joint, int what) {
        if (!in(joint, 0, now.joints.size() - 1)) {
            return BAD_NUMBER;
        }
        Joint j = now.joints.get(joint);
        int[] all = {j.loss, j.height, placeOfJoint(joint)};
        return in(what, 0, 2) ? all[what] : BAD_VALUE;
    }

    int bend(int bend, int what) {
        if (!in(bend, 0, now.bends.size() - 1)) {
            return BAD_NUMBER;
        }
        Bend b = now.bends.get(bend);
        int[] all = {b.loss, b.place};
        return in(what, 0, 1) ? all[what] : BAD_VALUE;
    }

    // ---- Traces

    private int distance(int side, int place) {
        return side == 0 ? place : length() - place;
    }

    private Section sectionOfUnit(int side, int u) {
        for (int i = 0; i < now.sections.size(); i++) {
            int one = distance(side, placeOfJoint(i));
            int other = distance(side, placeOfJoint(i + 1));
            if (Math.min(one, other) <= u && u + 1 <= Math.max(one, other)) {
                return now.sections.get(i);
            }
        }
        throw new IllegalStateException("no unit " + u);
    }

    private int loss(int side, int x) {
        Integer known = losses.get(side * 1000 + x);
        int loss = known == null ? newLoss(side, x) : known;
        losses.put(side * 1000 + x, loss);
        return loss;
    }

    private int newLoss(int side, int x) {
        int sum = 0;
        for (int u = 0; u < x; u++) {
            sum += sectionOfUnit(side, u).attenuation;
        }
        for (int k = 0; k < now.joints.size(); k++) {
            if (distance(side, placeOfJoint(k)) <= x) {
                sum += now.joints.get(k).loss;
            }
        }
        for (Bend b : now.bends) {
            if (distance(side, b.place) <= x) {
                sum += b.loss;
            }
        }
        return sum;
    }

    int lossTo(int side, int x) {
        return in(side, 0, 1) && in(x, 0, length()) ? loss(side, x) : BAD_VALUE;
    }

    private int scattered(int side, int w, int d) {
        return 30000 + 300 * w + sectionOfUnit(side, d).scatter - loss(side, d);
    }

    private int before(int side, int w, int x) {
        return scattered(side, w, x == 0 ? 0 : x - 1);
    }

    private int end(int side) {
        return now.breakPlace == 0 ? length() : distance(side, now.breakPlace);
    }

    private List<Reflector> reflectors(int side) {
        List<Reflector> found = new ArrayList<>();
        int end = end(side);
        for (int k = 0; k < now.joints.size(); k++) {
            int distance = distance(side, placeOfJoint(k));
            int height = now.joints.get(k).height;
            if (height > 0 && (distance < end || now.breakPlace == 0 && distance == length())) {
                found.add(new Reflector(distance, height));
            }
        }
        if (now.breakPlace != 0 && now.breakHeight > 0) {
            found.add(new Reflector(end, now.breakHeight));
        }
        return found;
    }

    private static void put(int[] trace, int d, int level) {
        if (d <= 400) {
            trace[d] = Math.max(trace[d], level);
        }
    }

    private int[] trace(int side, int w) {
        return traces.computeIfAbsent(side * 10 + w, key -> newTrace(side, w));
    }

    private int[] newTrace(int side, int w) {
        int[] trace = new int[401];
        int end = end(side);
        for (int d = 0; d <= 400; d++) {
            trace[d] = 5000;
            if (d < end) {
                put(trace, d, scattered(side, w, d));
            }
        }
        List<Reflector> all = reflectors(side);
        for (Reflector one : all) {
            int level = before(side, w, one.distance);
            for (int k = 0; k <= w - 1; k++) {
                int added = one.height - 300 * k;
                if (added > 0) {
                    put(trace, one.distance + k, level + added);
                }
            }
            for (int k = 1; k <= 20; k++) {
                int added = one.height - 300 * (w - 1) - 1000 * k;
                if (added > 0) {
                    put(trace, one.distance + w - 1 + k, level + added);
                }
            }
            for (Reflector other : all) {
                if (one.distance < other.distance) {
                    putGhost(trace, side, w, one, other);
                }
            }
        }
        return trace;
    }

    private void putGhost(int[] trace, int side, int w, Reflector one, Reflector other) {
        int p = one.distance;
        int q = other.distance;
        int g = one.height + 2 * other.height - 12000 - 2 * (loss(side, q) - loss(side, p));
        int level = before(side, w, q);
        for (int k = 0; k <= w - 1; k++) {
            if (g > 0 && g - 300 * k > 0) {
                put(trace, 2 * q - p + k, level + g - 300 * k);
            }
        }
    }

    private static boolean sideAndWidth(int side, int width) {
        return in(side, 0, 1) && in(width, 1, 9);
    }

    int sample(int side, int width, int d) {
        return sideAndWidth(side, width) && in(d, 0, 400) ? trace(side, width)[d] : BAD_VALUE;
    }

    float meanLoss(int side, int width, int a, int b) {
        if (!sideAndWidth(side, width) || !in(a, 0, 400) || !in(b, 0, 400) || b <= a) {
            return BAD_VALUE;
        }
        float loss = sample(side, width, a) - sample(side, width, b);
        float units = b - a;
        return loss / units;
    }

    int visible(int side, int width) {
        if (!sideAndWidth(side, width)) {
            return BAD_VALUE;
        }
        for (int d = 0; d <= 400; d++) {
            if (trace(side, width)[d] <= 5000) {
                return d;
            }
        }
        return 401;
    }

    int stitched(int side, int d) {
        if (!in(side, 0, 1) || !in(d, 0, 400)) {
            return BAD_VALUE;
        }
        for (int width : new int[] {1, 3, 9}) {
            if (trace(side, width)[d] >= 5000 + now.settings.get(3)) {
                return trace(side, width)[d] - 300 * width;
            }
        }
        return NONE;
    }

    int stitchedCount(int side) {
        if (!in(side, 0, 1)) {
            return BAD_VALUE;
        }
        int count = 0;
        for (int d = 0; d <= 400; d++) {
            count += stitched(side, d) == NONE ? 0 : 1;
        }
        return count;
    }

    // ---- Events

    private boolean marked(int[] t, int d) {
        if (!in(d, 1, 400)) {
            return false;
        }
        int deviation = t[d] - t[d - 1] + now.settings.get(0);
        return Math.abs(deviation) >= now.settings.get(1) && Math.max(t[d], t[d - 1]) > 5000;
    }

    private List<Event> list(int side, int width) {
        int[] t = trace(side, width);
        int slope = now.settings.get(0);
        List<Event> found = new ArrayList<>();
        for (int start = 1; start <= 400; start++) {
            if (!marked(t, start) || marked(t, start - 1)) {
                continue;
            }
            int stop = start;
            int greatest = t[start];
            while (marked(t, stop + 1)) {
                stop++;
                greatest = Math.max(greatest, t[stop]);
            }
            boolean bounces = t[start] - t[start - 1] + slope > 0;
            int kind = t[stop] == 5000 ? 2 : bounces ? 1 : 0;
            found.add(new Event(start, stop, kind, t[start - 1] - t[stop] - slope * (stop - start + 1),
                    greatest - t[start - 1], bounces));
        }
        return found;
    }

    int events(int side, int width) {
        return sideAndWidth(side, width) ? list(side, width).size() : BAD_VALUE;
    }

    /** Tries all pairs of q and p, as the document tells them. */
    private static int[] ghost(List<Event> all, int k) {
        Event event = all.get(k);
        if (!event.bounces) {
            return null;
        }
        for (int i = 0; i < k; i++) {
            int q = all.get(i).start;
            if (!all.get(i).bounces) {
                continue;
            }
            if (event.start == 2 * q) {
                return new int[] {q, 0};
            }
            for (Event other : all) {
                if (other.bounces && other.start < q && event.start == 2 * q - other.start) {
                    return new int[] {q, other.start};
                }
            }
        }
        return null;
    }

    int event(int side, int width, int event, int what) {
        if (!sideAndWidth(side, width) || !in(what, 0, 6)) {
            return BAD_VALUE;
        }
        List<Event> all = list(side, width);
        if (!in(event, 0, all.size() - 1)) {
            return BAD_NUMBER;
        }
        Event e = all.get(event);
        int[] ghost = ghost(all, event);
        int[] values = {e.start, e.stop, e.kind, e.loss, e.rise,
            ghost == null ? NONE : ghost[0], ghost == null ? NONE : ghost[1]};
        return values[what];
    }

    int ghosts(int side, int width) {
        if (!sideAndWidth(side, width)) {
            return BAD_VALUE;
        }
        List<Event> all = list(side, width);
        int set = 0;
        for (int k = 0; k < Math.min(30, all.size()); k++) {
            set += ghost(all, k) == null ? 0 : 1 << k;
        }
        return set;
    }

    int endSeen(int side, int width) {
        if (!sideAndWidth(side, width)) {
            return BAD_VALUE;
        }
        return list(side, width).stream().filter(e -> e.kind == 2).map(Event::start).findFirst().orElse(NONE);
    }

    private List<Pair> pairs(int width) {
        List<Event> near = list(0, width);
        List<Event> far = list(1, width);
        List<Integer> free = new ArrayList<>();
        for (int i = 0; i < far.size(); i++) {
            if (far.get(i).kind != 2) {
                free.add(i);
            }
        }
        List<Pair> found = new ArrayList<>();
        for (int i = 0; i < near.size(); i++) {
            for (int j = 0; near.get(i).kind != 2 && j < free.size(); j++) {
                int sum = near.get(i).start + far.get(free.get(j)).start;
                if (Math.abs(sum - length()) <= now.settings.get(2)) {
                    found.add(new Pair(i, free.remove(j)));
                    break;
                }
            }
        }
        return found;
    }

    int joinedCount(int width) {
        return in(width, 1, 9) ? pairs(width).size() : BAD_VALUE;
    }

    int joined(int width, int k, int what) {
        if (!in(width, 1, 9) || k < 0 || !in(what, 0, 3)) {
            return BAD_VALUE;
        }
        List<Pair> all = pairs(width);
        if (k >= all.size()) {
            return NONE;
        }
        Pair pair = all.get(k);
        int near = list(0, width).get(pair.first).loss;
        int far = list(1, width).get(pair.second).loss;
        return new int[] {pair.first, pair.second, near + far, near - far}[what];
    }

    // ---- The map

    private int reach(int point) {
        if (point == 0) {
            return 0;
        }
        Point last = now.points.get(point - 1);
        int run = (now.points.get(point).position - last.position) * (1000 + now.excess) / 1000;
        return reach(point - 1) + last.slack + run;
    }

    int point(int point, int what) {
        if (!in(point, 0, now.points.size() - 1)) {
            return BAD_NUMBER;
        }
        int[] all = {now.points.get(point).position, now.points.get(point).slack, reach(point)};
        return in(what, 0, 2) ? all[what] : BAD_VALUE;
    }

    int toRoute(int units) {
        if (units < 0) {
            return BAD_VALUE;
        }
        for (int i = 0; i < now.points.size(); i++) {
            if (in(units, reach(i), reach(i) + now.points.get(i).slack)) {
                return now.points.get(i).position;
            }
        }
        for (int i = 0; i + 1 < now.points.size(); i++) {
            int behind = reach(i) + now.points.get(i).slack;
            if (behind < units && units < reach(i + 1)) {
                return now.points.get(i).position + (units - behind) * 1000 / (1000 + now.excess);
            }
        }
        return NONE;
    }

    int pointBefore(int units) {
        if (units < 0) {
            return BAD_VALUE;
        }
        for (int i = now.points.size() - 1; i >= 0; i--) {
            if (reach(i) <= units) {
                return i;
            }
        }
        return NONE;
    }

    int placed(int width, int what) {
        if (!in(width, 1, 9) || !in(what, 0, 2)) {
            return BAD_VALUE;
        }
        int first = endSeen(0, width) == NONE ? NONE : toRoute(endSeen(0, width));
        int second = endSeen(1, width) == NONE || length() - endSeen(1, width) < 0
                ? NONE : toRoute(length() - endSeen(1, width));
        if (what == 0) {
            return first;
        }
        if (what == 1) {
            return second;
        }
        return first == NONE || second == NONE ? NONE : second - first;
    }

    // ---- The text

    int write(int code) {
        if (!in(code, 32, 126)) {
            return BAD_VALUE;
        }
        if (text.length() == 120) {
            return FULL;
        }
        text.append((char) code);
        return text.length();
    }

    int wipe() {
        int previous = text.length();
        text.setLength(0);
        return previous;
    }

    /** Goes through the text sign by sign, with a state for each place within an item. */
    int load() {
        List<Section> sections = new ArrayList<>();
        int[] numbers = new int[3];
        int field = 0;
        int first = -1;
        int total = 0;
        for (int i = 0; i <= text.length(); i++) {
            boolean ended = i == text.length();
            char sign = ended ? 0 : text.charAt(i);
            boolean digit = sign >= '0' && sign <= '9';
            if (first < 0 && field == 0 && ended && !sections.isEmpty()) {
                become(fibreOf(sections));
                return sections.size();
            }
            if (first < 0) {
                if (!digit) {
                    return failed(1, i);
                }
                if (sections.size() == 8) {
                    return failed(4, i);
                }
                first = i;
                continue;
            }
            if (digit && i - first < 4) {
                continue;
            }
            int value = Integer.parseInt(text.substring(first, i));
            int[] least = {1, 1, 0};
            int[] greatest = {100, 60, 2000};
            if (!in(value, least[field], greatest[field])) {
                return failed(2, first);
            }
            if (field == 0 && total + value > 300) {
                return failed(3, first);
            }
            if (sign != "xb;".charAt(field)) {
                return failed(1, i);
            }
            numbers[field] = value;
            total += field == 0 ? value : 0;
            field = (field + 1) % 3;
            first = -1;
            if (field == 0) {
                sections.add(new Section(numbers[0], numbers[1], numbers[2]));
            }
        }
        throw new IllegalStateException("a text has an end");
    }

    private int failed(int kind, int place) {
        fault = new int[] {place, kind};
        return NOT_POSSIBLE;
    }

    int fault(int what) {
        if (!in(what, 0, 1)) {
            return BAD_VALUE;
        }
        return fault == null ? NONE : fault[what];
    }
}
