import java.io.IOException;
import java.lang.reflect.Field;
import java.lang.reflect.Method;
import java.lang.reflect.Modifier;
import java.nio.charset.StandardCharsets;
import java.nio.file.Files;
import java.nio.file.Path;
import java.util.ArrayList;
import java.util.HashMap;
import java.util.HashSet;
import java.util.List;
import java.util.Map;
import java.util.Set;
import java.util.regex.Pattern;

/** The rules of LANGUAGE.md that can be looked up in the source and in the compiled class. */
public final class LanguageTest {
    private static final Check CHECK = new Check();
    private static final Path SOURCE = Path.of("src/main/java/FibreBench.java");
    /** What rule 4 lists, as far as the class may come to need it without making objects. */
    private static final Pattern LIBRARY = Pattern.compile("java/lang/Object\\.<init>\\(\\)V"
            + "|java/lang/Math\\.(min|max|abs|floorDiv|floorMod)\\([IJ]+\\)[IJ]"
            + "|java/lang/System\\.arraycopy\\(.*"
            + "|java/util/Arrays\\.fill\\(\\[[IJBSC].*");
    private static final int MOST_LINES = 60;
    private static final int MOST_DEPTH = 8;

    private static final List<Class<?>> CLASSES = new ArrayList<>();
    private static final Map<String, Bytecode.Body> BODIES = new HashMap<>();

    public static void main(String[] args) throws IOException {
        CLASSES.add(FibreBench.class);
        CLASSES.addAll(List.of(FibreBench.class.getDeclaredClasses()));
        for (Class<?> one : CLASSES) {
            for (Bytecode.Body body : Bytecode.of(one)) {
                BODIES.put(body.title(), body);
            }
        }
        privateNames();
        classesInside();
        library();
        noStaticState();
        nothingThrown();
        noCasts();
        depth();
        shortMethods();
        nothingMadeInCalls();
        words();
        CHECK.end();
    }

    private static void privateNames() {
        CHECK.rule(1, "no private method bears the name of a public one");
        Set<String> names = new HashSet<>();
        for (Method method : FibreBench.class.getMethods()) {
            names.add(method.getName());
        }
        for (Class<?> one : CLASSES) {
            for (Method method : one.getDeclaredMethods()) {
                CHECK.holds(method + " has a name of its own",
                        Modifier.isPublic(method.getModifiers()) || !names.contains(method.getName()));
            }
        }
    }

    private static void classesInside() {
        CHECK.rule(2, "classes inside");
        for (Class<?> one : CLASSES.subList(1, CLASSES.size())) {
            CHECK.holds(one + " is static", Modifier.isStatic(one.getModifiers()));
            CHECK.holds(one + " is not public", !Modifier.isPublic(one.getModifiers()));
            CHECK.holds(one + " cannot be overridden", Modifier.isFinal(one.getModifiers()));
            CHECK.due("classes inside " + one, one.getDeclaredClasses().length, 0);
        }
        CHECK.rule(11, "sizes");
        CHECK.holds("at most twelve classes", CLASSES.size() <= 12);
        for (Class<?> one : CLASSES) {
            int fields = 0;
            for (Field field : one.getDeclaredFields()) {
                fields += Modifier.isStatic(field.getModifiers()) ? 0 : 1;
            }
            CHECK.holds(one + " has at most twenty fields", fields <= 20);
            for (Method method : one.getDeclaredMethods()) {
                CHECK.holds(method + " takes at most seven parameters", method.getParameterCount() <= 7);
            }
        }
    }

    private static void library() {
        CHECK.rule(4, "the library");
        for (Bytecode.Body body : BODIES.values()) {
            for (Bytecode.Instruction instruction : body.instructions()) {
                String target = instruction.target();
                CHECK.holds(body.title() + " may call " + target,
                        target.isEmpty() || target.startsWith("FibreBench") || LIBRARY.matcher(target).matches());
                CHECK.holds(body.title() + " joins no texts by + and has no lambda",
                        instruction.opcode() != Bytecode.INVOKE_DYNAMIC);
            }
        }
    }

    private static void noStaticState() {
        CHECK.rule(5, "static fields");
        for (Class<?> one : CLASSES) {
            for (Field field : one.getDeclaredFields()) {
                boolean isStatic = Modifier.isStatic(field.getModifiers());
                CHECK.holds(field + " is final", !isStatic || Modifier.isFinal(field.getModifiers()));
                CHECK.holds(field + " is a number or a row of numbers",
                        !isStatic || field.getType() == int.class || field.getType() == int[].class);
            }
        }
    }

    private static void nothingThrown() {
        CHECK.rule(6, "no call throws, so nothing needs to be caught");
        for (Bytecode.Body body : BODIES.values()) {
            CHECK.due("handlers of " + body.title(), body.handlers(), 0);
            CHECK.holds(body.title() + " throws nothing", count(body, Bytecode.THROW) == 0);
            CHECK.holds(body.title() + " locks nothing", count(body, Bytecode.MONITOR_ENTER) == 0);
        }
    }

    private static void noCasts() {
        CHECK.rule(7, "nothing that the machine itself could refuse");
        for (Bytecode.Body body : BODIES.values()) {
            CHECK.due("casts in " + body.title(), count(body, Bytecode.CAST), 0);
            // The map alone divides: by 1000, and by fibrePerThousand(), which is 1000 at least.
            boolean mayDivide = body.owner().equals("FibreBench$CableMap");
            CHECK.holds(body.title() + " divides by nothing that could be 0",
                    mayDivide || count(body, Bytecode.INT_DIVIDE, Bytecode.LONG_DIVIDE, Bytecode.INT_REMAINDER,
                            Bytecode.LONG_REMAINDER) == 0);
        }
    }

    private static int count(Bytecode.Body body, int... opcodes) {
        int found = 0;
        for (Bytecode.Instruction instruction : body.instructions()) {
            for (int opcode : opcodes) {
                found += instruction.opcode() == opcode ? 1 : 0;
            }
        }
        return found;
    }

    private static void depth() {
        CHECK.rule(11, "calls go at most eight deep, and none comes back to itself");
        Map<String, Integer> known = new HashMap<>();
        int deepest = 0;
        for (String title : BODIES.keySet()) {
            int depth = depthOf(title, known, new HashSet<>());
            CHECK.holds(title + " goes " + depth + " deep", depth <= MOST_DEPTH);
            deepest = Math.max(deepest, depth);
        }
        System.out.println("calls go " + deepest + " deep, the library's own among them");
    }

    private static int depthOf(String title, Map<String, Integer> known, Set<String> open) {
        if (!BODIES.containsKey(title)) {
            return 1;
        }
        if (known.containsKey(title)) {
            return known.get(title);
        }
        if (!open.add(title)) {
            CHECK.holds(title + " does not come back to itself", false);
            return MOST_DEPTH + 1;
        }
        int below = 0;
        for (Bytecode.Instruction instruction : BODIES.get(title).instructions()) {
            if (!instruction.target().isEmpty()) {
                below = Math.max(below, depthOf(instruction.target(), known, open));
            }
        }
        open.remove(title);
        known.put(title, below + 1);
        return below + 1;
    }

    private static void shortMethods() throws IOException {
        CHECK.rule(11, "methods stay short");
        Pattern head = Pattern.compile(" {4}( {4})?[a-zA-Z].*\\) \\{");
        List<String> lines = Files.readAllLines(SOURCE, StandardCharsets.US_ASCII);
        int methods = 0;
        for (int i = 0; i < lines.size(); i++) {
            String line = lines.get(i);
            String indent = line.substring(0, line.length() - line.stripLeading().length());
            String word = line.strip().split("[ (]")[0];
            if (head.matcher(line).matches() && !Set.of("if", "for", "while", "switch").contains(word)) {
                int last = i;
                while (last < lines.size() && !lines.get(last).equals(indent + "}")) {
                    last++;
                }
                methods++;
                CHECK.holds(line.strip() + " has " + (last - i + 1) + " lines", last - i + 1 <= MOST_LINES);
            }
        }
        CHECK.holds("methods were found in the source: " + methods, methods > 60);
    }

    private static void nothingMadeInCalls() {
        CHECK.rule(12, "what a bench needs is made in the constructor");
        for (Bytecode.Body body : BODIES.values()) {
            int made = count(body, Bytecode.NEW, Bytecode.NEW_ARRAY, Bytecode.NEW_OBJECT_ARRAY, Bytecode.NEW_DEEP_ARRAY);
            CHECK.holds(body.title() + " makes nothing", made == 0 || body.name().startsWith("<"));
        }
    }

    /** Words that the rules leave out, or that the class has no use for. */
    private static void words() throws IOException {
        CHECK.rule(13, "words that do not stand in the source");
        String source = Files.readString(SOURCE, StandardCharsets.US_ASCII);
        String[] words = {"catch", "try ", "throw", "finally", "synchronized", "assert ", "->", "::", "Exact(",
            "System.out", "hashCode", "toString", "instanceof", "double ", "package ", "protected ", "static {", "Random",
            "nanoTime"};
        for (String word : words) {
            CHECK.holds("'" + word.trim() + "' is not in the source", !source.contains(word));
        }
        for (String line : source.split("\n")) {
            CHECK.holds("only java.util.Arrays is imported: " + line,
                    !line.startsWith("import") || line.equals("import java.util.Arrays;"));
        }
    }
}
