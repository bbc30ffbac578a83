import java.lang.reflect.Constructor;
import java.lang.reflect.Field;
import java.lang.reflect.Method;
import java.lang.reflect.Modifier;
import java.nio.file.Files;
import java.nio.file.Path;
import java.util.ArrayList;
import java.util.Arrays;
import java.util.HashSet;
import java.util.List;
import java.util.Set;
import java.util.TreeSet;

/** The public face as the document tells it, and what of LANGUAGE.md can be seen from outside. */
public final class FaceAndRules {
    private static final String[] FACE = {
        "int feed(int,int,int,int,int)", "boolean end(int)", "int fault(int)", "int text(int)", "int rule(int)",
        "int debt(int,int)", "int buyer(int,int)", "boolean law(int)", "boolean lazy(int)", "int week(int)", "int cut()",
        "int sell(int,int)", "int pay(int)", "boolean iron(boolean)", "int give(int)", "int lives(int,long)", "int undo()",
        "int log(int,int)", "int book(int,int)", "int step(int,int,int)", "int run(int,int)", "int perform(int)",
        "int weaving(int,int,int)", "int stands()", "int soonest(int)", "int paying(int)", "int moon()", "int market(int)",
        "int ring(int)", "int pieces(int)", "int game(int,int,int)", "int rests(int)", "int test(int,boolean)",
        "int crane()", "int sign(int,int,boolean)", "int from(int)", "int ask()", "int odds(int,int)", "int owed(int)",
        "int bears(int)", "int best()", "int thin()", "int weaves()", "int image()", "int back()", "int count(int)"};
    private static int wrong = 0;

    public static void main(String[] args) throws Exception {
        face();
        classesInside();
        source();
        System.out.println(wrong == 0 ? "the face and the rules are kept" : wrong + " rules are not kept");
        if (wrong != 0) {
            System.exit(1);
        }
    }

    private static void hold(boolean holds, String what) {
        if (!holds) {
            wrong++;
            System.out.println("not kept: " + what);
        }
    }

    private static String told(Method m) {
        List<String> types = new ArrayList<>();
        for (Class<?> type : m.getParameterTypes()) {
            types.add(type.getSimpleName());
        }
        return m.getReturnType().getSimpleName() + " " + m.getName() + "(" + String.join(",", types) + ")";
    }

    private static void face() throws Exception {
        Class<?> c = CraneCloth.class;
        hold(Modifier.isPublic(c.getModifiers()) && Modifier.isFinal(c.getModifiers()), "public and final");
        Set<String> names = new HashSet<>();
        Set<String> found = new TreeSet<>();
        for (Method m : c.getDeclaredMethods()) {
            if (Modifier.isPublic(m.getModifiers())) {
                found.add(told(m));
                names.add(m.getName());
                hold(!Modifier.isStatic(m.getModifiers()), "no public static method");
            }
        }
        hold(found.equals(new TreeSet<>(Arrays.asList(FACE))), "the face: " + found);
        for (Method m : c.getDeclaredMethods()) {
            if (!Modifier.isPublic(m.getModifiers())) {
                hold(Modifier.isPrivate(m.getModifiers()) || m.isSynthetic(), "private: " + m);
                hold(!names.contains(m.getName()), "a private method with a public one's name: " + m);
            }
        }
        for (Class<?> inside : c.getDeclaredClasses()) {
            for (Method m : inside.getDeclaredMethods()) {
                hold(!names.contains(m.getName()), "a method inside with a public one's name: " + m);
            }
        }
        for (Constructor<?> made : c.getDeclaredConstructors()) {
            hold(Modifier.isPublic(made.getModifiers()) && made.getParameterCount() == 0, "one constructor");
        }
        for (Field f : c.getDeclaredFields()) {
            boolean constant = f.getName().equals("NONE") || f.getName().equals("HIDDEN");
            hold(constant ? Modifier.isPublic(f.getModifiers()) : Modifier.isPrivate(f.getModifiers()), "field " + f);
            hold(!Modifier.isStatic(f.getModifiers()) || Modifier.isFinal(f.getModifiers()), "static and final " + f);
        }
        hold(CraneCloth.NONE == -1 && CraneCloth.HIDDEN == -1000000, "the constants");
    }

    private static void classesInside() {
        Class<?>[] inside = CraneCloth.class.getDeclaredClasses();
        hold(inside.length < 12, "twelve classes at most");
        List<Class<?>> all = new ArrayList<>(Arrays.asList(inside));
        all.add(CraneCloth.class);
        for (Class<?> c : all) {
            int fields = 0;
            for (Field f : c.getDeclaredFields()) {
                boolean fixed = Modifier.isStatic(f.getModifiers());
                fields += fixed ? 0 : 1;
                hold(!fixed || Modifier.isFinal(f.getModifiers()), "static and final " + f);
            }
            hold(fields <= 20, "twenty fields at most: " + c);
            hold(c == CraneCloth.class || Modifier.isStatic(c.getModifiers()), "static: " + c);
            for (Method m : c.getDeclaredMethods()) {
                hold(m.getParameterCount() <= 7, "seven parameters at most: " + m);
            }
        }
    }

    private static void source() throws Exception {
        Path path = Path.of("src/main/java/CraneCloth.java");
        hold(Files.exists(path), "the source is found");
        List<String> lines = Files.readAllLines(path);
        String[] refused = {"->", "::", "catch", "finally", "try {", "synchronized", "assert ", "System.out", "package ",
            "Exact(", "while (true)", "for (;;)", "getMessage", "instanceof", "double ", "float "};
        Set<String> imports = new TreeSet<>();
        int began = -1;
        for (int i = 0; i < lines.size(); i++) {
            String line = lines.get(i);
            hold(line.matches("[ -~]*"), "line " + (i + 1) + " has signs 32 to 126 alone");
            for (String sign : refused) {
                hold(!line.contains(sign), "line " + (i + 1) + " has " + sign);
            }
            if (line.startsWith("import ")) {
                imports.add(line);
            }
            // methods stand at four signs in the class and at eight within the classes inside
            if (line.matches("( {4}| {8})[a-z][^=;]*\\) (throws \\w+ )?\\{") && !line.matches(" +(if|for|while|switch|else).*")) {
                began = i;
            } else if (began >= 0 && line.matches("( {4}| {8})\\}")) {
                hold(i - began <= 60, "sixty lines at most: line " + (began + 1));
                began = -1;
            }
        }
        hold(imports.equals(new TreeSet<>(List.of("import java.util.Arrays;", "import java.util.NoSuchElementException;"))),
            "imports: " + imports);
    }
}
