import java.io.PrintWriter;
import java.io.StringWriter;
import java.nio.file.Path;
import java.util.ArrayList;
import java.util.HashMap;
import java.util.LinkedHashMap;
import java.util.List;
import java.util.Map;
import java.util.TreeSet;
import java.util.regex.Matcher;
import java.util.regex.Pattern;
import java.util.spi.ToolProvider;

/** LANGUAGE.md, rules 8 and 11: no method calls itself, even by others, and calls go at most eight deep. */
public final class DepthTest {
    private static final int DEEPEST = 8;
    private static final Pattern CLASS = Pattern.compile("(?:\\w+ )*class (\\S+) .*");
    private static final Pattern METHOD = Pattern.compile(" {2}(?:\\S+ )*?(\\S+)\\(.*\\).*;");
    private static final Pattern CALL = Pattern.compile(".*// (?:Interface)?Method (\\S+):.*");

    /** Which methods each method calls, by the names of class and method. */
    private static final Map<String, TreeSet<String>> CALLS = new LinkedHashMap<>();
    private static final Map<String, List<String>> LONGEST = new HashMap<>();

    private static String listing() throws Exception {
        Path home = Path.of(SendHall.class.getProtectionDomain().getCodeSource().getLocation().toURI());
        List<String> asked = new ArrayList<>(List.of("-p", "-c", "-cp", home.toString(), "SendHall"));
        for (Class<?> inside : SendHall.class.getDeclaredClasses()) {
            asked.add(inside.getName());
        }
        StringWriter out = new StringWriter();
        int failed = ToolProvider.findFirst("javap").orElseThrow()
                .run(new PrintWriter(out), new PrintWriter(System.err), asked.toArray(new String[0]));
        Due.is("javap", 0, failed);
        return out.toString();
    }

    private static void readCalls(String listing) {
        String owner = "";
        String method = "";
        for (String line : listing.split("\\R")) {
            Matcher opens = CLASS.matcher(line);
            Matcher begins = METHOD.matcher(line);
            Matcher calls = CALL.matcher(line);
            if (opens.matches()) {
                owner = opens.group(1);
            } else if (!line.startsWith("   ") && begins.matches()) {
                String name = begins.group(1);
                method = owner + "." + (name.equals(owner) ? "<init>" : name);
                CALLS.put(method, new TreeSet<>());
            } else if (calls.matches()) {
                String name = calls.group(1).replace("\"", "");
                CALLS.get(method).add(name.contains(".") ? name : owner + "." + name);
            }
        }
    }

    /** The longest row of calls from a method on; those that stand open already are in path. */
    private static List<String> longest(String method, List<String> path) {
        Due.holds("no way back to " + method + " by " + path, false, path.contains(method));
        if (path.contains(method) || !CALLS.containsKey(method)) {
            return List.of();
        }
        List<String> known = LONGEST.get(method);
        if (known != null) {
            return known;
        }
        List<String> best = List.of();
        path.add(method);
        for (String next : CALLS.get(method)) {
            List<String> way = longest(next, path);
            best = way.size() > best.size() ? way : best;
        }
        path.remove(path.size() - 1);
        List<String> all = new ArrayList<>(List.of(method));
        all.addAll(best);
        LONGEST.put(method, all);
        return all;
    }

    public static void main(String[] args) throws Exception {
        readCalls(listing());
        Due.holds("methods were found: " + CALLS.size(), true, CALLS.size() > 100 && CALLS.containsKey("SendHall.<init>"));
        Due.holds("calls were found", true, CALLS.get("SendHall.play").contains("SendHall$Game.run"));
        for (String method : CALLS.keySet()) {
            List<String> way = longest(method, new ArrayList<>());
            Due.holds("at most " + DEEPEST + " deep: " + way, true, way.size() <= DEEPEST);
        }
        Due.end("DepthTest");
    }
}
