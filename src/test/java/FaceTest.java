import java.lang.reflect.Constructor;
import java.lang.reflect.Field;
import java.lang.reflect.Method;
import java.lang.reflect.Modifier;
import java.nio.charset.StandardCharsets;
import java.nio.file.Files;
import java.nio.file.Path;
import java.util.ArrayList;
import java.util.Arrays;
import java.util.HashSet;
import java.util.List;
import java.util.Set;
import java.util.TreeSet;

/** The public face of the document, and the rules of LANGUAGE.md that can be seen from outside. */
public final class FaceTest {
    private static final Check CHECK = new Check();
    private static final String[] METHODS = {
        "int begin(int,int,int)", "int addSection(int,int,int)", "int setJoint(int,int,int)", "int addBend(int,int)",
        "int removeBend(int)", "int setBreak(int,int)", "int set(int,int)", "int undo()", "int told(int)",
        "int section(int,int)", "int joint(int,int)", "int bend(int,int)", "int lossTo(int,int)",
        "int sample(int,int,int)", "float meanLoss(int,int,int,int)", "int visible(int,int)", "int stitched(int,int)",
        "int stitchedCount(int)", "int events(int,int)", "int event(int,int,int,int)", "int ghosts(int,int)",
        "int endSeen(int,int)", "int joinedCount(int)", "int joined(int,int,int)", "int addPoint(int,int)",
        "int clearMap()", "int setExcess(int)", "int point(int,int)", "int toRoute(int)", "int pointBefore(int)",
        "int placed(int,int)", "int write(int)", "int wipe()", "int load()", "int fault(int)"};
    private static final String[] CONSTANTS = {"BAD_NUMBER", "BAD_VALUE", "FULL", "NOT_POSSIBLE", "NONE"};

    public static void main(String[] args) throws Exception {
        constants();
        members();
        privateNames();
        classesInside();
        words();
        room();
        CHECK.end();
    }

    private static void constants() throws Exception {
        CHECK.promise(1, "the constants");
        for (int i = 0; i < CONSTANTS.length; i++) {
            Field field = FibreBench.class.getField(CONSTANTS[i]);
            CHECK.due(CONSTANTS[i], field.getInt(null), -1000001 - i);
            CHECK.holds(CONSTANTS[i] + " is final", Modifier.isFinal(field.getModifiers()));
        }
    }

    private static String headOf(Method method) {
        StringBuilder head = new StringBuilder(method.getReturnType().getName());
        head.append(' ').append(method.getName()).append('(');
        for (int i = 0; i < method.getParameterCount(); i++) {
            head.append(i == 0 ? "" : ",").append(method.getParameterTypes()[i].getName());
        }
        return head.append(')').toString();
    }

    private static void members() {
        CHECK.promise(1, "the face");
        CHECK.holds("public and final", Modifier.isPublic(FibreBench.class.getModifiers())
                && Modifier.isFinal(FibreBench.class.getModifiers()));
        Set<String> heads = new TreeSet<>();
        for (Method method : FibreBench.class.getDeclaredMethods()) {
            if (!Modifier.isPrivate(method.getModifiers())) {
                CHECK.holds(headOf(method) + " is public", Modifier.isPublic(method.getModifiers()));
                heads.add(headOf(method));
            }
        }
        CHECK.holds("the methods are those of the document: " + heads, heads.equals(new TreeSet<>(Arrays.asList(METHODS))));
        Set<String> fields = new TreeSet<>();
        for (Field field : FibreBench.class.getDeclaredFields()) {
            if (!Modifier.isPrivate(field.getModifiers())) {
                CHECK.holds(field.getName() + " is public", Modifier.isPublic(field.getModifiers()));
                fields.add(field.getName());
            }
            CHECK.holds(field.getName() + " is no static state",
                    !Modifier.isStatic(field.getModifiers()) || Modifier.isFinal(field.getModifiers()));
        }
        CHECK.holds("the constants are those of the document", fields.equals(new TreeSet<>(Arrays.asList(CONSTANTS))));
        Constructor<?>[] constructors = FibreBench.class.getDeclaredConstructors();
        CHECK.due("constructors", constructors.length, 1);
        CHECK.due("parameters of the constructor", constructors[0].getParameterCount(), 0);
    }

    private static void privateNames() {
        Set<String> names = new HashSet<>();
        for (String head : METHODS) {
            names.add(head.substring(head.indexOf(' ') + 1, head.indexOf('(')));
        }
        List<Class<?>> all = new ArrayList<>(Arrays.asList(FibreBench.class.getDeclaredClasses()));
        all.add(FibreBench.class);
        for (Class<?> one : all) {
            for (Method method : one.getDeclaredMethods()) {
                CHECK.holds(method + " has a name of its own",
                        Modifier.isPublic(method.getModifiers()) || !names.contains(method.getName()));
                CHECK.holds(method + " takes at most seven parameters", method.getParameterCount() <= 7);
            }
        }
    }

    private static void classesInside() {
        Class<?>[] inside = FibreBench.class.getDeclaredClasses();
        CHECK.holds("at most twelve classes", inside.length + 1 <= 12);
        for (Class<?> one : inside) {
            CHECK.holds(one + " is static", Modifier.isStatic(one.getModifiers()));
            CHECK.holds(one + " is not public", !Modifier.isPublic(one.getModifiers()));
            CHECK.holds(one + " has at most twenty fields", one.getDeclaredFields().length <= 20);
        }
    }

    /** Words that the rules leave out and that the class has no use for. */
    private static void words() throws Exception {
        String source = Files.readString(Path.of("src/main/java/FibreBench.java"), StandardCharsets.US_ASCII);
        String[] words = {"catch", "try ", "throw", "finally", "synchronized", "assert ", "->", "::", "Exact(", "System.out",
            "hashCode", "toString", "instanceof", "double ", "package ", "protected ", "static {", "Random", "nanoTime"};
        for (String word : words) {
            CHECK.holds("'" + word.trim() + "' is not in the source", !source.contains(word));
        }
        for (String line : source.split("\n")) {
            CHECK.holds("only java.util.Arrays is imported: " + line,
                    !line.startsWith("import") || line.equals("import java.util.Arrays;"));
        }
    }

    /** What a bench holds is made in its constructor; 512 calls of all kinds make nothing that is kept. */
    private static void room() throws Exception {
        FibreBench x = new FibreBench();
        long[] first = {0, 0};
        count(x, new ArrayList<>(), first);
        for (int i = 0; i < 40; i++) {
            x.addSection(1 + i, 1, 1);
            x.addBend(1 + i, 5);
            x.addPoint(i, i);
            x.set(0, i);
            x.write('0' + i % 10);
            x.load();
            x.joinedCount(1 + i % 9);
            x.placed(1 + i % 9, 2);
            x.ghosts(i % 2, 1 + i % 9);
            x.stitchedCount(i % 2);
            x.undo();
        }
        long[] last = {0, 0};
        count(x, new ArrayList<>(), last);
        CHECK.due("objects of a used bench", last[0], first[0]);
        CHECK.due("fields and elements of a used bench", last[1], first[1]);
        System.out.println("a bench has " + first[0] + " objects and " + first[1] + " fields and elements");
        CHECK.holds("few objects", first[0] <= 250);
        CHECK.holds("few fields and elements", first[1] <= 12000);
    }

    private static void count(Object object, List<Object> seen, long[] sums) throws Exception {
        if (object == null) {
            return;
        }
        for (Object other : seen) {
            if (other == object) {
                return;
            }
        }
        seen.add(object);
        sums[0]++;
        Class<?> kind = object.getClass();
        if (kind.isArray()) {
            sums[1] += java.lang.reflect.Array.getLength(object);
            for (int i = 0; !kind.getComponentType().isPrimitive() && i < java.lang.reflect.Array.getLength(object); i++) {
                count(java.lang.reflect.Array.get(object, i), seen, sums);
            }
            return;
        }
        for (Field field : kind.getDeclaredFields()) {
            if (!Modifier.isStatic(field.getModifiers())) {
                sums[1]++;
                field.setAccessible(true);
                if (!field.getType().isPrimitive()) {
                    count(field.get(object), seen, sums);
                }
            }
        }
    }
}
