import java.io.File;
import java.io.PrintWriter;
import java.io.StringWriter;
import java.util.ArrayList;
import java.util.HashSet;
import java.util.List;
import java.util.Map;
import java.util.Set;
import java.util.TreeMap;
import java.util.TreeSet;
import java.util.regex.Matcher;
import java.util.regex.Pattern;
import java.util.spi.ToolProvider;

/** LANGUAGE.md, rules 8 and 11: calls go at most eight deep, the library's own too, and no method calls itself. */
public final class CallDepthTest {
    private static final Map<String, Set<String>> CALLS = new TreeMap<>();
    private static final Map<String, Integer> DEPTHS = new TreeMap<>();

    public static void main(String[] args) {
        Checks.part("calls");
        ToolProvider javap = ToolProvider.findFirst("javap").orElse(null);
        if (javap == null) {
            System.out.println("there is no javap here: nothing was looked at");
            return;
        }
        read(javap);
        Checks.due("methods were read", CALLS.size() > 150, true);
        for (String method : CALLS.keySet()) {
            int depth = depthOf(method, new HashSet<>());
            if (method.startsWith("QuarrelMiles.")) {
                Checks.due(method + " goes " + depth + " deep", depth <= 8, true);
            }
        }
        Checks.close();
    }

    private static void read(ToolProvider javap) {
        String folder = CallDepthTest.class.getProtectionDomain().getCodeSource().getLocation().getPath();
        List<String> arguments = new ArrayList<>(List.of("-c", "-p"));
        for (String file : new File(folder).list()) {
            if (file.startsWith("QuarrelMiles") && file.endsWith(".class") && !file.startsWith("QuarrelMilesRuns")) {
                arguments.add(folder + file);
            }
        }
        StringWriter told = new StringWriter();
        javap.run(new PrintWriter(told, true), new PrintWriter(System.out, true), arguments.toArray(new String[0]));
        Pattern head = Pattern.compile("^(?:[a-z ]*)class (QuarrelMiles\\S*) .*\\{$");
        Pattern method = Pattern.compile("^  \\S.*?([\\w$.]+)\\([^)]*\\);$");
        Pattern call = Pattern.compile("invoke.*Method ([^: ]+):");
        String type = "";
        String now = "";
        for (String line : told.toString().split("\n")) {
            Matcher heads = head.matcher(line);
            Matcher methods = method.matcher(line);
            Matcher calls = call.matcher(line);
            if (heads.find()) {
                type = heads.group(1);
            } else if (methods.find()) {
                String name = methods.group(1);
                now = type + "." + (name.equals(type) ? "<init>" : name);
                CALLS.putIfAbsent(now, new TreeSet<>());
            } else if (calls.find()) {
                String called = calls.group(1).replace("\"", "");
                CALLS.get(now).add(called.contains(".") ? called : type + "." + called);
            }
        }
    }

    private static int depthOf(String method, Set<String> open) {
        if (DEPTHS.containsKey(method)) {
            return DEPTHS.get(method);
        }
        if (!open.add(method)) {
            Checks.due(method + " calls itself", true, false);
            return 0;
        }
        int deepest = 0;
        for (String called : CALLS.getOrDefault(method, Set.of())) {
            deepest = Math.max(deepest, depthOf(called, open));
        }
        open.remove(method);
        DEPTHS.put(method, deepest + 1);
        return deepest + 1;
    }
}
