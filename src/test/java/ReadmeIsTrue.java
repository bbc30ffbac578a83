import java.lang.reflect.InvocationTargetException;
import java.lang.reflect.Method;
import java.lang.reflect.Modifier;
import java.nio.charset.StandardCharsets;
import java.nio.file.Files;
import java.nio.file.Path;
import java.util.List;
import java.util.regex.Matcher;
import java.util.regex.Pattern;

/** What README.md says of using the class: its example is run line by line, and its table must name each call. */
public final class ReadmeIsTrue {
    private static final Pattern TOLD = Pattern.compile("tell\\(x, (\\d), \"([^\"]*)\"\\);\\s+// (-?\\d+):.*");
    private static final Pattern CALL = Pattern.compile("x\\.(\\w+)\\(([^)]*)\\);\\s+// (-?\\d+|true|false|throws \\w+)(:.*)?");
    private static int wrong = 0;
    private static int lines = 0;

    private ReadmeIsTrue() {
    }

    public static void main(String[] args) throws Exception {
        List<String> readme = Files.readAllLines(Path.of("README.md"), StandardCharsets.UTF_8);
        helper(readme);
        example(readme);
        table(readme);
        due("the example has lines", lines > 20 ? "many" : "few", "many");
        System.out.println(wrong == 0 ? "README.md tells what is so" : wrong + " things in README.md are not so");
        if (wrong != 0) {
            System.exit(1);
        }
    }

    /** sort: 0 a house, 1 a law, 2 a plan. */
    static int tell(CraneCloth x, int sort, String text) {
        x.end(0);
        for (int from = 0; from < text.length(); from += 20) {
            int[] n = new int[5];
            for (int i = from; i < text.length() && i < from + 20; i++) {
                n[(i - from) / 4] |= (text.charAt(i) & 255) << 24 - 8 * ((i - from) % 4);
            }
            x.feed(n[0], n[1], n[2], n[3], n[4]);
        }
        return x.text(sort);
    }

    /** The method that README.md gives its readers is the one above, which the example is run with. */
    private static void helper(List<String> readme) throws Exception {
        List<String> source = Files.readAllLines(Path.of("src/test/java/ReadmeIsTrue.java"), StandardCharsets.UTF_8);
        int from = source.indexOf("    static int tell(CraneCloth x, int sort, String text) {");
        int at = readme.indexOf("static int tell(CraneCloth x, int sort, String text) {");
        due("the method tell", from < 0 || at < 0 ? "not there" : "there", "there");
        for (int i = 0; from >= 0 && at >= 0 && !source.get(from + i).isEmpty(); i++) {
            due("line " + i + " of tell", source.get(from + i).substring(4), readme.get(at + i));
        }
    }

    private static void due(String what, String got, String want) {
        if (!got.equals(want)) {
            wrong++;
            System.out.println(what + " answered " + got + ", README.md says " + want);
        }
    }

    private static void example(List<String> readme) throws Exception {
        int from = readme.indexOf("CraneCloth x = new CraneCloth();");
        CraneCloth x = new CraneCloth();
        for (int i = from + 1; from >= 0 && i < readme.size() && !readme.get(i).startsWith("```"); i++) {
            Matcher told = TOLD.matcher(readme.get(i));
            Matcher call = CALL.matcher(readme.get(i));
            lines++;
            if (told.matches()) {
                int sort = Integer.parseInt(told.group(1));
                due(readme.get(i), String.valueOf(tell(x, sort, told.group(2))), told.group(3));
            } else if (call.matches()) {
                due(readme.get(i), answer(x, call.group(1), call.group(2)), call.group(3));
            } else {
                due("a line of the example", readme.get(i), "a call and its answer");
            }
        }
    }

    private static String answer(CraneCloth x, String name, String numbers) throws Exception {
        String[] told = numbers.isEmpty() ? new String[0] : numbers.split(", ");
        Object[] arguments = new Object[told.length];
        for (int i = 0; i < told.length; i++) {
            arguments[i] = Integer.parseInt(told[i]);
        }
        for (Method method : CraneCloth.class.getMethods()) {
            if (method.getName().equals(name) && method.getParameterCount() == arguments.length) {
                try {
                    return String.valueOf(method.invoke(x, arguments));
                } catch (InvocationTargetException e) {
                    return "throws " + e.getCause().getClass().getSimpleName();
                }
            }
        }
        return "no such call";
    }

    private static void table(List<String> readme) {
        StringBuilder rows = new StringBuilder();
        for (String line : readme) {
            rows.append(line.startsWith("| `") ? line : "");
        }
        for (Method method : CraneCloth.class.getDeclaredMethods()) {
            if (Modifier.isPublic(method.getModifiers())) {
                Matcher row = Pattern.compile("`" + method.getName() + "\\(([^)]*)\\)`").matcher(rows);
                boolean found = row.find();
                due("the table: " + method.getName(), found ? "named" : "not named", "named");
                int parts = !found || row.group(1).isEmpty() ? 0 : row.group(1).split(", ").length;
                due("the table: arguments of " + method.getName(), String.valueOf(parts), String.valueOf(method.getParameterCount()));
            }
        }
    }
}
