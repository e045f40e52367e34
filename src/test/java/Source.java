import java.io.IOException;
import java.nio.file.Files;
import java.nio.file.Path;
import java.util.ArrayList;
import java.util.LinkedHashMap;
import java.util.List;
import java.util.Map;
import java.util.regex.Matcher;
import java.util.regex.Pattern;

/** The lines of the program, its methods by their names, and which of them call which. */
final class Source {
    private static final Pattern METHOD = Pattern.compile(
            "( +)(?:public |private )?(?:static )?(?:int|boolean|void) (\\w+)\\(.*\\) \\{");
    /** The library's classes alone are named ahead of a call with a great letter. */
    private static final Pattern CALL = Pattern.compile("(?<![A-Z]\\w{0,20}\\.)\\b(\\w+)\\(");
    private static final Pattern GROUP = Pattern.compile(" +// ---- (.*)");
    private static final int TOO_DEEP = 20;

    private final List<String> lines;
    private final Map<String, List<String>> bodies = new LinkedHashMap<>();
    /** The names of public methods, by the heading they stand under. */
    private final Map<String, List<String>> groups = new LinkedHashMap<>();
    private boolean hasNamesAlike = false;

    Source(Path file) throws IOException {
        lines = Files.readAllLines(file);
        String group = "";
        for (int at = 0; at < lines.size(); at++) {
            Matcher heading = GROUP.matcher(lines.get(at));
            group = heading.matches() ? heading.group(1) : group;
            Matcher method = METHOD.matcher(lines.get(at));
            if (method.matches()) {
                hasNamesAlike |= bodies.put(method.group(2), body(at, method.group(1))) != null;
                if (lines.get(at).strip().startsWith("public ")) {
                    groups.computeIfAbsent(group, name -> new ArrayList<>()).add(method.group(2));
                }
            }
        }
    }

    private List<String> body(int first, String indentation) {
        int end = first + 1;
        while (!lines.get(end).equals(indentation + "}")) {
            end++;
        }
        return lines.subList(first + 1, end);
    }

    /** Without the lines of comments. */
    List<String> code() {
        List<String> code = new ArrayList<>();
        for (String line : lines) {
            String words = line.strip();
            if (!words.startsWith("//") && !words.startsWith("*") && !words.startsWith("/*")) {
                code.add(words);
            }
        }
        return code;
    }

    Map<String, List<String>> groups() {
        return groups;
    }

    Map<String, List<String>> bodies() {
        return bodies;
    }

    /** Whether two methods have one name: then depthOf does not know which of them is called. */
    boolean hasNamesAlike() {
        return hasNamesAlike;
    }

    /** How many calls are open at once at most, this one and the innermost one among them. */
    int depthOf(String method) {
        return depthOf(method, 1);
    }

    private int depthOf(String method, int open) {
        int deepest = open;
        for (String line : open < TOO_DEEP ? bodies.get(method) : List.<String>of()) {
            for (Matcher call = CALL.matcher(line); call.find();) {
                if (bodies.containsKey(call.group(1))) {
                    deepest = Math.max(deepest, depthOf(call.group(1), open + 1));
                }
            }
        }
        return deepest;
    }
}
