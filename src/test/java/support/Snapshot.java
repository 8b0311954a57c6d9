import java.util.ArrayList;
import java.util.List;
import java.util.function.Supplier;

/** All that can be seen of a bench, also behind each undo(), as lines that can be compared. */
final class Snapshot {
    private static final int MOST_UNDOS = 9;
    private static final int[] DISTANCES = {0, 1, 20, 50, 70, 71, 299, 300, 400};

    private final List<String> lines = new ArrayList<>();
    private FibreBench bench;

    private Snapshot() {
    }

    /** Each number of undos has a bench of its own, since a look at settings and text changes what is looked at. */
    static List<String> of(Supplier<FibreBench> make) {
        Snapshot all = new Snapshot();
        for (int undos = 0; undos <= MOST_UNDOS; undos++) {
            all.bench = make.get();
            for (int i = 1; i <= undos; i++) {
                all.add("undo() number " + i, all.bench.undo());
            }
            all.lookAtState();
            all.lookAtTraces();
            all.lookAtSettings();
            all.lookAtText();
        }
        return all.lines;
    }

    /** The first line in which two looks differ, or an empty text. */
    static String difference(List<String> one, List<String> other) {
        for (int i = 0; i < Math.max(one.size(), other.size()); i++) {
            String first = i < one.size() ? one.get(i) : "nothing";
            String second = i < other.size() ? other.get(i) : "nothing";
            if (!first.equals(second)) {
                return first + " and not " + second;
            }
        }
        return "";
    }

    private void add(String call, int answer) {
        lines.add(call + " is " + answer);
    }

    private void lookAtState() {
        for (int what = 0; what < 8; what++) {
            add("told(" + what + ")", bench.told(what));
        }
        for (int i = 0; i < bench.told(1); i++) {
            for (int what = 0; what < 4; what++) {
                add("section(" + i + ", " + what + ")", bench.section(i, what));
            }
        }
        for (int i = 0; i <= bench.told(1); i++) {
            add("joint(" + i + ", 0)", bench.joint(i, 0));
            add("joint(" + i + ", 1)", bench.joint(i, 1));
        }
        for (int i = 0; i < bench.told(2); i++) {
            add("bend(" + i + ", 0)", bench.bend(i, 0));
            add("bend(" + i + ", 1)", bench.bend(i, 1));
        }
        for (int i = 0; i < bench.told(5); i++) {
            for (int what = 0; what < 3; what++) {
                add("point(" + i + ", " + what + ")", bench.point(i, what));
            }
        }
        add("fault(0)", bench.fault(0));
        add("fault(1)", bench.fault(1));
    }

    private void lookAtTraces() {
        for (int side = 0; side < 2; side++) {
            for (int d : DISTANCES) {
                add("sample(" + side + ", 2, " + d + ")", bench.sample(side, 2, d));
            }
            add("stitchedCount(" + side + ")", bench.stitchedCount(side));
            add("events(" + side + ", 2)", bench.events(side, 2));
            add("ghosts(" + side + ", 2)", bench.ghosts(side, 2));
            add("endSeen(" + side + ", 2)", bench.endSeen(side, 2));
        }
        add("joinedCount(2)", bench.joinedCount(2));
        add("placed(2, 2)", bench.placed(2, 2));
    }

    private void lookAtSettings() {
        for (int setting = 0; setting < 4; setting++) {
            add("the setting " + setting, bench.set(setting, 1));
        }
    }

    private void lookAtText() {
        add("load() of the text", bench.load());
        add("its fault's place", bench.fault(0));
        add("its length", bench.told(0));
        add("wipe()", bench.wipe());
    }
}
