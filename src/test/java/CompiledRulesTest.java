import java.io.File;
import java.io.PrintWriter;
import java.io.StringWriter;
import java.util.ArrayList;
import java.util.List;
import java.util.Map;
import java.util.Set;
import java.util.TreeMap;
import java.util.TreeSet;
import java.util.regex.Matcher;
import java.util.regex.Pattern;
import java.util.spi.ToolProvider;

/** The rules of LANGUAGE.md that the compiled class shows better than its source: what calls what, what is made where. */
public final class CompiledRulesTest {
    private static final Check check = new Check("CompiledRulesTest");
    private static final int MOST_DEEP = 8;
    private static final Set<String> LIBRARY = Set.of("java/util/Arrays.fill", "java/lang/Math.min", "java/lang/Math.max",
            "java/lang/Integer.bitCount", "java/lang/System.arraycopy", "java/lang/Object.<init>");
    private static final Pattern CLASS = Pattern.compile("^\\S.*\\bclass (DollCongress\\S*)");
    private static final Pattern METHOD = Pattern.compile("^  (?:\\S.* )?([\\w$]+)\\([^)]*\\);$");
    private static final Pattern STEP = Pattern.compile("^ +\\d+: (\\w+)(?:.*// Method (\\S+?):\\S*)?");

    // By method: the methods that it calls; and the machine's words in it.
    private static final Map<String, Set<String>> calls = new TreeMap<>();
    private static final Map<String, Set<String>> steps = new TreeMap<>();

    public static void main(String[] args) throws Exception {
        String listing = listing();
        check.holds("no exception is caught", !listing.contains("Exception table:"));
        read(listing);
        check.holds("the listing was read", calls.containsKey("DollCongress.goBack") && calls.size() > 80);
        words();
        library();
        depth();
        check.end();
    }

    private static String listing() throws Exception {
        File place = new File(DollCongress.class.getProtectionDomain().getCodeSource().getLocation().toURI());
        List<String> given = new ArrayList<>(List.of("-p", "-c"));
        File[] files = place.listFiles((dir, name) -> name.matches("DollCongress(\\$\\w+)?\\.class"));
        for (File file : files == null ? new File[0] : files) {
            given.add(file.getPath());
        }
        StringWriter said = new StringWriter();
        PrintWriter out = new PrintWriter(said);
        ToolProvider.findFirst("javap").orElseThrow().run(out, out, given.toArray(new String[0]));
        out.flush();
        return said.toString();
    }

    private static void read(String listing) {
        String inside = "";
        String method = "";
        for (String line : listing.split("\\R")) {
            Matcher m = CLASS.matcher(line);
            if (m.find()) {
                inside = m.group(1);
                continue;
            }
            m = METHOD.matcher(line);
            if (line.equals("  static {};") || m.find()) {
                String name = line.equals("  static {};") ? "<clinit>" : m.group(1);
                method = inside + "." + (name.equals(inside) ? "<init>" : name);
                calls.putIfAbsent(method, new TreeSet<>());
                steps.putIfAbsent(method, new TreeSet<>());
                continue;
            }
            m = STEP.matcher(line);
            if (m.find()) {
                steps.get(method).add(m.group(1));
                if (m.group(2) != null) {
                    String called = m.group(2).replace("\"", "");
                    calls.get(method).add(called.contains(".") ? called : inside + "." + called);
                }
            }
        }
    }

    private static void words() {
        for (Map.Entry<String, Set<String>> e : steps.entrySet()) {
            String method = e.getKey();
            for (String word : e.getValue()) {
                check.holds("no " + word + " in " + method, !Set.of("athrow", "monitorenter", "invokedynamic",
                        "invokeinterface", "checkcast", "jsr").contains(word));
                boolean makes = Set.of("new", "newarray", "anewarray", "multianewarray").contains(word);
                check.holds("all is made with the object, not in " + method,
                        !makes || method.endsWith(".<init>") || method.endsWith(".<clinit>"));
                check.holds("no static state is put in " + method, !word.equals("putstatic") || method.endsWith(".<clinit>"));
            }
        }
    }

    private static void library() {
        for (Map.Entry<String, Set<String>> e : calls.entrySet()) {
            for (String called : e.getValue()) {
                check.holds(e.getKey() + " may call " + called, calls.containsKey(called) || LIBRARY.contains(called));
            }
        }
    }

    private static void depth() {
        for (String method : calls.keySet()) {
            int deep = depthOf(method, new ArrayList<>());
            check.holds(method + " goes at most eight deep, without recursion, not " + deep, deep <= MOST_DEEP);
        }
    }

    /** Far too deep for a method that comes to itself again. */
    private static int depthOf(String method, List<String> open) {
        if (open.contains(method)) {
            return 1000;
        }
        open.add(method);
        int deepest = 0;
        for (String called : calls.getOrDefault(method, Set.of())) {
            deepest = Math.max(deepest, depthOf(called, open));
        }
        open.remove(open.size() - 1);
        return deepest + 1;
    }
}
