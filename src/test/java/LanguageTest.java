import java.io.IOException;
import java.lang.reflect.Constructor;
import java.lang.reflect.Field;
import java.lang.reflect.Method;
import java.lang.reflect.Modifier;
import java.nio.file.Files;
import java.nio.file.Path;
import java.util.ArrayList;
import java.util.List;
import java.util.Set;
import java.util.TreeSet;
import java.util.regex.Matcher;
import java.util.regex.Pattern;

/** What LANGUAGE.md asks and a program can see: the face, and words that the rules leave out. */
public final class LanguageTest {
    private static final Path SOURCE = Path.of("src/main/java/CoastTiles.java");
    private static final Path DOCUMENT = Path.of("../shared/DOC.md");
    private static final Pattern GROUP = Pattern.compile("Ahead of the calls (.*) the interface says: ---- (.*)\\.");
    private static final String CONSTANTS = "BAD_TEXT BAD_VALUE LIMIT NONE NOT_POSSIBLE NO_SUCH";
    private static final List<String> FACE = List.of(
            "begin(int,int)", "setOutside(boolean)", "set(int,int,boolean)", "fill(int,int,boolean)",
            "brush(int,int,int,boolean)", "smooth(int)", "turn(int)", "rows()", "columns()", "tile(int,int,int)",
            "pin(int,int,int)", "unpin(int,int)", "faults()", "firstFault()", "maskOf(int)", "shapeOf(int)",
            "turned(int,int)", "mirrored(int)", "count(int)", "shapes()", "land()", "landShare()", "coast()",
            "islands()", "lakes()", "region(int,int,boolean)", "largestIsland()", "way(int,int,int,int)",
            "coastIfChanged(int,int)", "needs(int,int,int)", "append(int)", "clearText()", "errorPosition()",
            "read()", "undo()", "save()", "restore()");

    public static void main(String[] args) throws IOException {
        Source source = new Source(SOURCE);
        face();
        groups(source);
        namesOfOwnMethods();
        sizes(source);
        words(source);
        objectsAreMadeInConstructorsAlone(source);
        Checks.end();
    }

    private static void face() {
        Checks.holds("the class is public and final", CoastTiles.class.getModifiers() == Modifier.PUBLIC + Modifier.FINAL);
        Set<String> methods = new TreeSet<>();
        for (Method method : CoastTiles.class.getDeclaredMethods()) {
            if (!Modifier.isPrivate(method.getModifiers())) {
                Checks.holds(method + " is public", method.getModifiers() == Modifier.PUBLIC);
                Checks.holds(method + " answers an int", method.getReturnType() == int.class);
                methods.add(signature(method));
            }
        }
        Checks.holds("the face's methods: " + methods, methods.equals(new TreeSet<>(FACE)));
        Set<String> constants = new TreeSet<>();
        for (Field field : CoastTiles.class.getDeclaredFields()) {
            if (!Modifier.isPrivate(field.getModifiers())) {
                Checks.holds(field + " is a public constant",
                        field.getModifiers() == Modifier.PUBLIC + Modifier.STATIC + Modifier.FINAL);
                constants.add(field.getName());
            }
        }
        Checks.holds("the face's constants: " + constants, String.join(" ", constants).equals(CONSTANTS));
        Constructor<?>[] constructors = CoastTiles.class.getDeclaredConstructors();
        Checks.holds("one public constructor", constructors.length == 1
                && constructors[0].getModifiers() == Modifier.PUBLIC && constructors[0].getParameterCount() == 0);
    }

    private static String signature(Method method) {
        List<String> types = new ArrayList<>();
        for (Class<?> type : method.getParameterTypes()) {
            types.add(type.getName());
        }
        return method.getName() + "(" + String.join(",", types) + ")";
    }

    private static void namesOfOwnMethods() {
        Set<String> names = new TreeSet<>();
        for (String signature : FACE) {
            names.add(signature.substring(0, signature.indexOf('(')));
        }
        List<Class<?>> own = new ArrayList<>(List.of(CoastTiles.class.getDeclaredClasses()));
        Checks.holds("at most twelve classes", own.size() <= 11);
        for (Class<?> inside : own) {
            Checks.holds(inside + " is static", Modifier.isStatic(inside.getModifiers()));
            for (Method method : inside.getDeclaredMethods()) {
                Checks.holds(method + " has a name of its own", !names.contains(method.getName()));
            }
        }
        for (Method method : CoastTiles.class.getDeclaredMethods()) {
            Checks.holds(method + " has a name of its own",
                    !Modifier.isPrivate(method.getModifiers()) || !names.contains(method.getName()));
        }
    }

    /** What the document says ahead of the calls stands there, and the calls stand under it in their order. */
    private static void groups(Source source) throws IOException {
        int told = 0;
        for (String line : Files.readAllLines(DOCUMENT)) {
            Matcher group = GROUP.matcher(line);
            if (group.matches()) {
                told++;
                List<String> calls = List.of(group.group(1).replace("`", "").split(", "));
                List<String> own = source.groups().get(group.group(2));
                Checks.holds("under " + group.group(2) + ": " + own, calls.equals(own));
            }
        }
        Checks.due("groups of calls in the document", told, 6);
    }

    private static void sizes(Source source) {
        Checks.holds("each method has a name of its own", !source.hasNamesAlike());
        source.bodies().forEach((name, body) -> {
            Checks.holds(name + " has at most sixty lines", body.size() <= 60);
            Checks.holds(name + " goes at most eight calls deep", source.depthOf(name) <= 8);
        });
        List<Class<?>> all = new ArrayList<>(List.of(CoastTiles.class.getDeclaredClasses()));
        all.add(CoastTiles.class);
        int methods = 0;
        for (Class<?> each : all) {
            int fields = 0;
            for (Field field : each.getDeclaredFields()) {
                fields += Modifier.isStatic(field.getModifiers()) ? 0 : 1;
            }
            Checks.holds(each + " has at most twenty fields", fields <= 20);
            for (Method method : each.getDeclaredMethods()) {
                methods++;
                Checks.holds(method + " takes at most seven parameters", method.getParameterCount() <= 7);
            }
        }
        Checks.due("methods found in the source", source.bodies().size(), methods);
    }

    private static void words(Source source) {
        String forbidden = ".*(\\b(try|catch|throw|throws|finally|synchronized|assert|package|String|Object|hashCode"
                + "|toString|protected|Float|Double|while|do)\\b|->|::|Exact|static \\{).*";
        for (String code : source.code()) {
            Checks.holds("the rules allow: " + code, !code.matches(forbidden));
            Checks.holds("only Arrays is imported: " + code,
                    !code.startsWith("import") || code.equals("import java.util.Arrays;"));
            Checks.holds("signs are 1 to 127: " + code, code.chars().allMatch(sign -> sign < 128));
        }
    }

    /** So no run of calls can make more objects than its constructors did. */
    private static void objectsAreMadeInConstructorsAlone(Source source) {
        for (String code : source.code()) {
            if (code.matches(".*\\b(new|clone|copyOf|copyOfRange)\\b.*")) {
                Checks.holds("only rows made once: " + code,
                        code.startsWith("private final ") || code.equals("states[index] = new State();"));
            }
        }
    }
}
