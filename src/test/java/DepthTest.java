import java.io.PrintWriter;
import java.io.StringWriter;
import java.net.URISyntaxException;
import java.nio.file.Path;
import java.util.ArrayList;
import java.util.HashSet;
import java.util.List;
import java.util.Map;
import java.util.Set;
import java.util.TreeMap;
import java.util.TreeSet;
import java.util.regex.Matcher;
import java.util.regex.Pattern;
import java.util.spi.ToolProvider;

/** Rules 11 and 4 of LANGUAGE.md: calls go at most eight deep, and which library; told from what javap says of the classes. */
final class DepthTest {
    private static final int MOST = 8;
    private static final Set<String> LIBRARY = Set.of("java/lang/Object.\"<init>\"", "java/lang/String.length",
        "java/lang/String.charAt", "java/lang/Integer.bitCount", "java/lang/Math.min", "java/lang/Math.max",
        "java/lang/Math.floorMod", "java/util/Arrays.fill", "java/lang/System.arraycopy");
    private static final Pattern CLASS = Pattern.compile("^[a-z ]*class (\\S+) .*\\{$");
    private static final Pattern METHOD = Pattern.compile("^  (?:[^ ].* )?([\\w$<>]+)\\([^)]*\\);$");
    private static final Pattern CALL = Pattern.compile("// (?:Interface)?Method ([^:]+):");

    private final Map<String, Set<String>> calls = new TreeMap<>();
    private final List<String> starts = new ArrayList<>();

    public static void main(String[] args) throws URISyntaxException {
        DepthTest test = new DepthTest();
        test.read(said());
        Check.due("(all calls of the face are found)", test.starts.size(), 42);
        for (String start : test.starts) {
            List<String> deepest = test.deepest(start, new HashSet<>());
            Check.due("more than " + MOST + " calls deep: " + deepest, deepest.size() > MOST ? 1 : 0, 0);
        }
        test.library();
        Check.end();
    }

    /** Each call is one of the program or of the few functions of the library that it needs. */
    private void library() {
        for (Set<String> called : calls.values()) {
            for (String name : called) {
                Check.due("no function of the program or the list: " + name,
                    calls.containsKey(name) || LIBRARY.contains(name) ? 0 : 1, 0);
            }
        }
    }

    private static String said() throws URISyntaxException {
        Path classes = Path.of(SmokeControl.class.getProtectionDomain().getCodeSource().getLocation().toURI());
        List<String> words = new ArrayList<>(List.of("-c", "-p"));
        words.add(classes.resolve("SmokeControl.class").toString());
        for (Class<?> c : SmokeControl.class.getDeclaredClasses()) {
            words.add(classes.resolve(c.getName() + ".class").toString());
        }
        StringWriter out = new StringWriter();
        PrintWriter writer = new PrintWriter(out);
        ToolProvider.findFirst("javap").orElseThrow().run(writer, writer, words.toArray(new String[0]));
        return out.toString();
    }

    private void read(String text) {
        String type = "";
        String method = "";
        for (String line : text.split("\n")) {
            Matcher c = CLASS.matcher(line);
            Matcher m = METHOD.matcher(line);
            Matcher call = CALL.matcher(line);
            if (c.find()) {
                type = c.group(1);
            } else if (m.find()) {
                method = type + "." + (m.group(1).equals(type) ? "\"<init>\"" : m.group(1));
                calls.putIfAbsent(method, new TreeSet<>());
                if (type.equals("SmokeControl") && line.startsWith("  public ") && !line.contains("=")) {
                    starts.add(method);
                }
            } else if (call.find()) {
                String name = call.group(1);
                calls.get(method).add(name.contains(".") ? name : type + "." + name);
            }
        }
    }

    /** The longest chain of calls that comes by no method twice. */
    private List<String> deepest(String method, Set<String> open) {
        List<String> best = new ArrayList<>();
        open.add(method);
        for (String next : calls.getOrDefault(method, Set.of())) {
            if (!open.contains(next)) {
                List<String> found = deepest(next, open);
                best = found.size() > best.size() ? found : best;
            }
        }
        open.remove(method);
        best = new ArrayList<>(best);
        best.add(0, method);
        return best;
    }
}
