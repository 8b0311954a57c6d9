import java.lang.reflect.Constructor;
import java.lang.reflect.Field;
import java.lang.reflect.Method;
import java.lang.reflect.Modifier;
import java.util.ArrayList;
import java.util.Arrays;
import java.util.List;
import java.util.Set;
import java.util.TreeSet;

/** The public face of the document, and the room that a bench takes. */
public final class FaceTest {
    private static final Check CHECK = new Check();
    private static final String[] METHODS = {
        "int begin(int,int,int)", "int addSection(int,int,int)", "int setJoint(int,int,int)", "int addBend(int,int)",
        "int removeBend(int)", "int setBreak(int,int)", "int set(int,int)", "int undo()", "int told(int)",
        "int section(int,int)", "int joint(int,int)", "int bend(int,int)", "int lossTo(int,int)",
        "int sample(int,int,int)", "float meanLoss(int,int,int,int)", "int visible(int,int)", "int stitched(int,int)",
        "int stitchedCount(int)", "int events(int,int)", "int event(int,int,int,int)", "int ghosts(int,int)",
        "int endSeen(int,int)", "int joinedCount(int)", "int joined(int,int,int)", "int addPoint(int,int)",
        "int clearMap()", "int setExcess(int)", "int point(int,int)", "int toRoute(int)", "int pointBefore(int)",
        "int placed(int,int)", "int write(int)", "int wipe()", "int load()", "int fault(int)"};
    private static final String[] CONSTANTS = {"BAD_NUMBER", "BAD_VALUE", "FULL", "NOT_POSSIBLE", "NONE"};

    public static void main(String[] args) throws Exception {
        constants();
        members();
        room();
        CHECK.end();
    }

    private static void constants() throws Exception {
        CHECK.promise(1, "the constants");
        for (int i = 0; i < CONSTANTS.length; i++) {
            Field field = FibreBench.class.getField(CONSTANTS[i]);
            CHECK.due(CONSTANTS[i], field.getInt(null), -1000001 - i);
            CHECK.holds(CONSTANTS[i] + " is final", Modifier.isFinal(field.getModifiers()));
        }
    }

    private static String headOf(Method method) {
        StringBuilder head = new StringBuilder(method.getReturnType().getName());
        head.append(' ').append(method.getName()).append('(');
        for (int i = 0; i < method.getParameterCount(); i++) {
            head.append(i == 0 ? "" : ",").append(method.getParameterTypes()[i].getName());
        }
        return head.append(')').toString();
    }

    private static void members() {
        CHECK.promise(1, "the face");
        CHECK.holds("public and final", Modifier.isPublic(FibreBench.class.getModifiers())
                && Modifier.isFinal(FibreBench.class.getModifiers()));
        Set<String> heads = new TreeSet<>();
        for (Method method : FibreBench.class.getDeclaredMethods()) {
            if (!Modifier.isPrivate(method.getModifiers())) {
                CHECK.holds(headOf(method) + " is public", Modifier.isPublic(method.getModifiers()));
                heads.add(headOf(method));
            }
        }
        CHECK.holds("the methods are those of the document: " + heads, heads.equals(new TreeSet<>(Arrays.asList(METHODS))));
        Set<String> fields = new TreeSet<>();
        for (Field field : FibreBench.class.getDeclaredFields()) {
            if (!Modifier.isPrivate(field.getModifiers())) {
                CHECK.holds(field.getName() + " is public", Modifier.isPublic(field.getModifiers()));
                fields.add(field.getName());
            }
            CHECK.holds(field.getName() + " is no static state",
                    !Modifier.isStatic(field.getModifiers()) || Modifier.isFinal(field.getModifiers()));
        }
        CHECK.holds("the constants are those of the document", fields.equals(new TreeSet<>(Arrays.asList(CONSTANTS))));
        Constructor<?>[] constructors = FibreBench.class.getDeclaredConstructors();
        CHECK.due("constructors", constructors.length, 1);
        CHECK.due("parameters of the constructor", constructors[0].getParameterCount(), 0);
    }

    /** What a bench holds is made in its constructor; 512 calls of all kinds make nothing that is kept. */
    private static void room() throws Exception {
        FibreBench x = new FibreBench();
        long[] first = {0, 0};
        count(x, new ArrayList<>(), first);
        for (int i = 0; i < 40; i++) {
            x.addSection(1 + i, 1, 1);
            x.addBend(1 + i, 5);
            x.addPoint(i, i);
            x.set(0, i);
            x.write('0' + i % 10);
            x.load();
            x.joinedCount(1 + i % 9);
            x.placed(1 + i % 9, 2);
            x.ghosts(i % 2, 1 + i % 9);
            x.stitchedCount(i % 2);
            x.undo();
        }
        long[] last = {0, 0};
        count(x, new ArrayList<>(), last);
        CHECK.due("objects of a used bench", last[0], first[0]);
        CHECK.due("fields and elements of a used bench", last[1], first[1]);
        System.out.println("a bench has " + first[0] + " objects and " + first[1] + " fields and elements");
        CHECK.holds("few objects", first[0] <= 250);
        CHECK.holds("few fields and elements", first[1] <= 12000);
    }

    private static void count(Object object, List<Object> seen, long[] sums) throws Exception {
        if (object == null) {
            return;
        }
        for (Object other : seen) {
            if (other == object) {
                return;
            }
        }
        seen.add(object);
        sums[0]++;
        Class<?> kind = object.getClass();
        if (kind.isArray()) {
            sums[1] += java.lang.reflect.Array.getLength(object);
            for (int i = 0; !kind.getComponentType().isPrimitive() && i < java.lang.reflect.Array.getLength(object); i++) {
                count(java.lang.reflect.Array.get(object, i), seen, sums);
            }
            return;
        }
        for (Field field : kind.getDeclaredFields()) {
            if (!Modifier.isStatic(field.getModifiers())) {
                sums[1]++;
                field.setAccessible(true);
                if (!field.getType().isPrimitive()) {
                    count(field.get(object), seen, sums);
                }
            }
        }
    }
}
