import java.lang.reflect.Constructor;
import java.lang.reflect.Field;
import java.lang.reflect.Method;
import java.lang.reflect.Modifier;
import java.nio.file.Files;
import java.nio.file.Path;
import java.util.Arrays;
import java.util.HashSet;
import java.util.List;
import java.util.Set;
import java.util.TreeSet;
import java.util.regex.Matcher;
import java.util.regex.Pattern;

/** The public face, and those rules of LANGUAGE.md that a look at the lines can tell. */
public final class SourceTest {
    private static final String[] FACE = {
        "int feed(int, int, int, int, int)", "int end(int)", "int land()", "int fault(int)", "int soul(int, int)",
        "int way(int, int)", "int quarrel(int, int, int)", "int heat(int, int, int, int)", "int setOut(int, int, int, int)",
        "int take(int)", "int words(int)", "int year()", "int walk(int)", "boolean undo()", "boolean redo()", "int start(int)",
        "int step(int)", "int walked(int, int, int, int)", "int shortest(int, int)", "int send(int, int)",
        "int measure(int, int, int, int, boolean)", "int adds(int, int)", "int fair()", "int cover()", "int turned()",
        "int loud(int, int, int, int)", "int home(int, int, int, int, int, int)", "int temper(int, int, int, int)",
        "int lies(int)", "int report(int, int, int, int)", "boolean untell(int)", "int later(int)", "long miles(int)",
        "int ask(int, int)", "int image(int)", "int back(int)", "int about(int)"};

    public static void main(String[] args) throws Exception {
        face();
        String file = System.getenv("QUARREL_MILES_SOURCE");
        Path path = Path.of(file == null ? "src/main/java/QuarrelMiles.java" : file);
        List<String> lines = Files.readAllLines(path);
        words(lines);
        methods(lines);
        Checks.close();
    }

    private static void face() {
        Checks.part("face");
        Set<String> due = new TreeSet<>(Arrays.asList(FACE));
        Set<String> got = new TreeSet<>();
        Set<String> names = new HashSet<>();
        for (Method m : QuarrelMiles.class.getDeclaredMethods()) {
            StringBuilder told = new StringBuilder(m.getReturnType() + " " + m.getName() + "(");
            for (Class<?> type : m.getParameterTypes()) {
                told.append(told.charAt(told.length() - 1) == '(' ? "" : ", ").append(type);
            }
            told.append(")");
            if (Modifier.isPublic(m.getModifiers())) {
                got.add(told.toString());
                names.add(m.getName());
                Checks.due(told + " is of an object", Modifier.isStatic(m.getModifiers()), false);
            } else {
                Checks.due(told + " is private", Modifier.isPrivate(m.getModifiers()), true);
            }
        }
        Checks.due("the methods: " + got, got.equals(due), true);
        int constants = 0;
        for (Field f : QuarrelMiles.class.getDeclaredFields()) {
            if (!Modifier.isPrivate(f.getModifiers())) {
                constants++;
                Checks.due(f + " is NONE", f.getName().equals("NONE") && Modifier.isPublic(f.getModifiers()), true);
            }
            if (Modifier.isStatic(f.getModifiers())) {
                Checks.due(f + " is final", Modifier.isFinal(f.getModifiers()), true);
            }
        }
        Checks.due("constants", constants, 1);
        Constructor<?>[] made = QuarrelMiles.class.getDeclaredConstructors();
        Checks.due("constructors", made.length, 1);
        Checks.due("public", Modifier.isPublic(made[0].getModifiers()) && made[0].getParameterCount() == 0, true);
        Checks.due("final", Modifier.isFinal(QuarrelMiles.class.getModifiers()), true);
        Class<?>[] inside = QuarrelMiles.class.getDeclaredClasses();
        Checks.due("classes: " + inside.length, inside.length <= 12, true);
        for (Class<?> c : inside) {
            Checks.due(c + " is static", Modifier.isStatic(c.getModifiers()), true);
            Checks.due(c + " is private", Modifier.isPrivate(c.getModifiers()), true);
            int fields = 0;
            for (Field f : c.getDeclaredFields()) {
                fields += Modifier.isStatic(f.getModifiers()) ? 0 : 1;
            }
            Checks.due(c + " has few fields: " + fields, fields <= 20, true);
            for (Method m : c.getDeclaredMethods()) {
                Checks.due(m + " has no name of the face", names.contains(m.getName()), false);
            }
        }
    }

    private static String bare(String line) {
        String bare = line.replaceAll("\"[^\"]*\"", "\"\"").replaceAll("'[^']'", "0");
        int comment = bare.indexOf("//");
        String told = comment < 0 ? bare : bare.substring(0, comment);
        return told.trim().startsWith("*") || told.trim().startsWith("/*") ? "" : told;
    }

    private static void words(List<String> lines) {
        Checks.part("words");
        Pattern forbidden = Pattern.compile("\\b(throw|throws|try|catch|finally|synchronized|assert|import|package|double|float|"
            + "native|volatile|transient|strictfp|Exact|System|Thread|Random|hashCode|equals|toString|Object|instanceof)\\b"
            + "|->|::|@|\\?\\?|Exact\\(");
        Set<String> classes = new HashSet<>();
        boolean isConstructor = false;
        for (int i = 0; i < lines.size(); i++) {
            String line = bare(lines.get(i));
            Matcher word = forbidden.matcher(line);
            Checks.due("line " + (i + 1) + ": " + line.trim(), word.find(), false);
            Matcher name = Pattern.compile("\\bclass (\\w+)").matcher(line);
            if (name.find()) {
                classes.add(name.group(1));
            }
            // What is made is made by a constructor or with a field.
            Matcher head = Pattern.compile("^ +(public )?(\\w+)\\(.*\\) \\{$").matcher(line);
            if (head.find() && classes.contains(head.group(2))) {
                isConstructor = true;
            } else if (line.matches("^ +[\\w<>\\[\\] ]+ \\w+\\(.*\\) \\{$")) {
                isConstructor = false;
            }
            if (line.contains("new ")) {
                boolean isField = line.matches("^ +(private )?final [\\w\\[\\]]+ \\w+ = new .*;$");
                Checks.due("line " + (i + 1) + " makes something: " + line.trim(), isConstructor || isField, true);
            }
            for (char c : lines.get(i).toCharArray()) {
                Checks.due("line " + (i + 1) + " has signs 1 to 127", c >= 1 && c <= 127, true);
            }
        }
    }

    private static void methods(List<String> lines) {
        Checks.part("methods");
        int start = -1;
        int depth = 0;
        for (int i = 0; i < lines.size(); i++) {
            String line = lines.get(i);
            Matcher head = Pattern.compile("^( +)(?!.*\\bclass\\b)[\\w<>\\[\\] ]+\\((.*)\\) \\{$").matcher(line);
            if (head.find() && !line.trim().matches("(if|for|while|switch|\\} else if).*")) {
                start = i;
                depth = head.group(1).length();
                int parameters = head.group(2).isEmpty() ? 0 : head.group(2).split(",").length;
                Checks.due("line " + (i + 1) + " has few parameters", parameters <= 7, true);
            } else if (start >= 0 && line.equals(" ".repeat(depth) + "}")) {
                Checks.due("the method at line " + (start + 1) + " is short: " + (i - start + 1), i - start + 1 <= 60, true);
                start = -1;
            }
        }
    }
}
