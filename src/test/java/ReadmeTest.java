import java.io.IOException;
import java.nio.file.Files;
import java.nio.file.Path;
import java.util.Set;
import java.util.TreeSet;
import java.util.regex.Matcher;
import java.util.regex.Pattern;

/** README.md's examples answer what it says, and it names each call of the class. */
public final class ReadmeTest {
    private static final Path README = Path.of("README.md");
    private static final Pattern NEW_OBJECT = Pattern.compile("CoastTiles map = new CoastTiles\\(\\);.*");
    private static final Pattern TYPED = Pattern.compile("for \\(char sign : \"(.*)\"\\.toCharArray\\(\\)\\) \\{");
    private static final Pattern CALL = Pattern.compile("map\\.(\\w+\\(.*\\)); +// .*: (-?\\d+)");
    private static final Set<String> REST_OF_TYPED = Set.of("    map.append(sign);", "}");

    public static void main(String[] args) throws IOException, ReflectiveOperationException {
        int examples = 0;
        boolean isExample = false;
        Script script = null;
        for (String line : Files.readAllLines(README)) {
            if (line.startsWith("```")) {
                isExample = line.equals("```java");
            } else if (isExample && NEW_OBJECT.matcher(line).matches()) {
                script = new Script("README.md");
                examples++;
            } else if (isExample) {
                exampleLine(script, line);
            }
        }
        Checks.due("examples", examples, 2);
        namesAllCalls();
        Checks.end();
    }

    private static void exampleLine(Script script, String line) throws ReflectiveOperationException {
        Matcher typed = TYPED.matcher(line);
        Matcher call = CALL.matcher(line);
        if (typed.matches()) {
            script.line("type(" + typed.group(1) + ") = " + typed.group(1).length());
        } else if (call.matches()) {
            script.line(call.group(1) + " = " + call.group(2));
        } else {
            Checks.holds("README.md's line is understood: " + line, REST_OF_TYPED.contains(line));
        }
    }

    private static void namesAllCalls() throws IOException {
        Set<String> named = new TreeSet<>();
        for (Matcher name = Pattern.compile("`(\\w+)`").matcher(Files.readString(README)); name.find();) {
            named.add(name.group(1));
        }
        for (java.lang.reflect.Method method : CoastTiles.class.getDeclaredMethods()) {
            boolean isFace = java.lang.reflect.Modifier.isPublic(method.getModifiers());
            Checks.holds("README.md names " + method.getName(), !isFace || named.contains(method.getName()));
        }
    }
}
