import java.lang.reflect.Method;
import java.lang.reflect.Modifier;
import java.nio.file.Files;
import java.nio.file.Path;
import java.util.ArrayList;
import java.util.List;
import java.util.Set;
import java.util.TreeSet;
import java.util.regex.Matcher;
import java.util.regex.Pattern;
import javax.tools.ToolProvider;

/**
 * The calls that README.md shows: its Java blocks are compiled as they stand there, and each call must give the answer
 * that is told behind it. So the file can't tell what the class does not do.
 */
public final class ReadmeTest {
    private static final String NEW_OBJECT = "CodeCacheMachine machine = new CodeCacheMachine();";
    private static final Pattern CALL = Pattern.compile("(machine\\.(\\w+)\\(.*\\));\\s+// ([^:]+)(: .+)?");

    private static final Set<String> called = new TreeSet<>();

    public static void main(String[] args) throws Exception {
        List<List<String>> blocks = javaBlocks(Files.readAllLines(Path.of("README.md")));
        Due.due("README.md has blocks of Java", blocks.size() > 0, true);
        for (int i = 0; i < blocks.size(); i++) {
            runBlock("Block" + i, blocks.get(i));
        }
        for (Method method : CodeCacheMachine.class.getDeclaredMethods()) {
            if (Modifier.isPublic(method.getModifiers())) {
                Due.due("README.md shows " + method.getName(), called.contains(method.getName()), true);
            }
        }
        Due.finish();
    }

    private static List<List<String>> javaBlocks(List<String> lines) {
        List<List<String>> blocks = new ArrayList<>();
        boolean inside = false;
        for (String line : lines) {
            if (line.startsWith("```")) {
                inside = line.equals("```java");
                if (inside) {
                    blocks.add(new ArrayList<>());
                }
            } else if (inside) {
                blocks.get(blocks.size() - 1).add(line);
            }
        }
        return blocks;
    }

    /** The block becomes a class beside this one, so that it finds the machine and what counts the answers. */
    private static void runBlock(String name, List<String> lines) throws Exception {
        Path folder = Path.of(ReadmeTest.class.getProtectionDomain().getCodeSource().getLocation().toURI());
        StringBuilder source = new StringBuilder("final class " + name + " {\n    static void run() {\n");
        for (String line : lines) {
            source.append("        ").append(statement(line)).append('\n');
        }
        Path file = folder.resolve(name + ".java");
        Files.writeString(file, source.append("    }\n}\n"));
        String[] options = {"-cp", folder.toString(), "-d", folder.toString(), file.toString()};
        int compiled = ToolProvider.getSystemJavaCompiler().run(null, null, null, options);
        Due.due("exit code of the compiler for " + name, compiled, 0);
        if (compiled == 0) {
            Class.forName(name).getDeclaredMethod("run").invoke(null);
        }
    }

    private static String statement(String line) {
        Matcher call = CALL.matcher(line);
        if (line.equals(NEW_OBJECT)) {
            return line;
        }
        Due.due("README.md tells an answer: " + line, call.matches(), true);
        if (!call.matches()) {
            return "";
        }
        called.add(call.group(2));
        if (call.group(3).equals("no answer")) {
            return call.group(1) + ";";
        }
        return "Due.due(\"README.md: " + call.group(1) + "\", " + call.group(1) + ", " + call.group(3) + ");";
    }
}
