import java.io.File;
import java.lang.reflect.Field;
import java.lang.reflect.Method;
import java.lang.reflect.Modifier;
import java.nio.charset.StandardCharsets;
import java.nio.file.Files;
import java.nio.file.Path;
import java.util.List;
import java.util.Set;
import java.util.TreeSet;
import java.util.regex.Matcher;
import java.util.regex.Pattern;

/** What README.md says of the class and its tests: each call in it is made, and has to answer what stands behind it. */
public final class ReadmeTest {
    private static final Check CHECK = new Check();
    private static final Pattern CALL = Pattern.compile("bench\\.(\\w+)\\((.*)\\); +// ([-.\\w]+)(: .*)?");
    private static final String NEW_BENCH = "FibreBench bench = new FibreBench();";

    public static void main(String[] args) throws Exception {
        List<String> lines = Files.readAllLines(Path.of("README.md"), StandardCharsets.UTF_8);
        Set<String> called = makeCalls(lines);
        namesEachCall(called);
        namesEachConstant(String.join("\n", lines));
        namesEachTest(String.join("\n", lines));
        CHECK.end();
    }

    private static Set<String> makeCalls(List<String> lines) throws Exception {
        Set<String> called = new TreeSet<>();
        FibreBench bench = null;
        boolean inExample = false;
        for (String line : lines) {
            if (line.startsWith("```")) {
                inExample = line.equals("```java");
            } else if (inExample && line.equals(NEW_BENCH)) {
                bench = new FibreBench();
            } else if (inExample) {
                Matcher call = CALL.matcher(line);
                boolean readable = call.matches();
                CHECK.holds("README.md has a call with an answer: " + line, readable && bench != null);
                if (readable && bench != null) {
                    called.add(call.group(1));
                    String got = String.valueOf(answer(bench, call.group(1), call.group(2)));
                    CHECK.dueText("README.md: " + line, got, meaning(call.group(3)));
                }
            }
        }
        return called;
    }

    private static Object answer(FibreBench bench, String name, String list) throws Exception {
        String[] written = list.isEmpty() ? new String[0] : list.split(", ");
        Class<?>[] kinds = new Class<?>[written.length];
        Object[] arguments = new Object[written.length];
        for (int i = 0; i < written.length; i++) {
            kinds[i] = int.class;
            boolean isSign = written[i].startsWith("'");
            arguments[i] = isSign ? (int) written[i].charAt(1) : Integer.parseInt(written[i]);
        }
        return FibreBench.class.getMethod(name, kinds).invoke(bench, arguments);
    }

    /** An answer is written as a number or as the name of a constant. */
    private static String meaning(String answer) throws Exception {
        if (!Character.isLetter(answer.charAt(0))) {
            return answer;
        }
        return String.valueOf(FibreBench.class.getField(answer).getInt(null));
    }

    private static void namesEachCall(Set<String> called) {
        for (Method method : FibreBench.class.getDeclaredMethods()) {
            if (Modifier.isPublic(method.getModifiers())) {
                CHECK.holds("README.md shows " + method.getName(), called.contains(method.getName()));
            }
        }
    }

    private static void namesEachConstant(String page) {
        for (Field field : FibreBench.class.getFields()) {
            CHECK.holds("README.md explains " + field.getName(), page.contains("| `" + field.getName() + "` |"));
        }
    }

    private static void namesEachTest(String page) {
        File[] files = new File("src/test/java").listFiles((folder, name) -> name.endsWith(".java"));
        CHECK.holds("there are tests", files != null && files.length > 0);
        for (File file : files == null ? new File[0] : files) {
            String name = file.getName().replace(".java", "");
            CHECK.holds("README.md names " + name, page.contains("`" + name + "`"));
        }
        Matcher named = Pattern.compile("`(\\w+Test)`").matcher(page);
        while (named.find()) {
            CHECK.holds(named.group(1) + " is there", Files.exists(Path.of("src/test/java", named.group(1) + ".java")));
        }
    }
}
