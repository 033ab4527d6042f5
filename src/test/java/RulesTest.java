import java.io.IOException;
import java.lang.reflect.Field;
import java.lang.reflect.Method;
import java.lang.reflect.Modifier;
import java.nio.file.Files;
import java.nio.file.Path;
import java.util.Arrays;
import java.util.List;
import java.util.Set;
import java.util.TreeSet;
import java.util.regex.Matcher;
import java.util.regex.Pattern;

/** What of ../shared/LANGUAGE.md can be seen in the class and in its text; -Droot tells where the project is. */
public final class RulesTest {
    private static final TestHelp HELP = new TestHelp();
    private static final String FACE = "feed end book fault chap leans reader plan make drawn act run why known after all best"
        + " bestOf cut cutAt net netSide chain chainAt alone leave extra ask asked seen ill sentence said image restore count";

    private static final Pattern LIBRARY = Pattern.compile("\\b([A-Z]\\w*\\.\\w+)\\(");
    private static final Set<String> OPEN = Set.of("Math.max", "Math.min", "Integer.bitCount", "System.arraycopy",
        "SPELLED.length", "SPELLED.charAt");
    private static final Set<String> INSIDE = new TreeSet<>();

    static {
        for (Class<?> one : NineReaders.class.getDeclaredClasses()) {
            INSIDE.add(one.getSimpleName());
        }
    }

    public static void main(String[] args) throws IOException {
        face();
        Path file = Path.of(System.getProperty("root", "."), "src", "main", "java", "NineReaders.java");
        List<String> lines = Files.readAllLines(file);
        words(lines);
        methods(lines);
        HELP.finish();
    }

    private static void face() {
        Set<String> want = new TreeSet<>(Arrays.asList(FACE.split(" ")));
        Set<String> open = new TreeSet<>();
        for (Method method : NineReaders.class.getDeclaredMethods()) {
            if (Modifier.isPrivate(method.getModifiers())) {
                HELP.due("a private method with a public one's name: " + method, want.contains(method.getName()), false);
            } else {
                open.add(method.getName());
                HELP.due("public: " + method, Modifier.isPublic(method.getModifiers()), true);
            }
        }
        HELP.due("the face is " + open, open.equals(want), true);
        HELP.due("final", Modifier.isFinal(NineReaders.class.getModifiers()), true);
        HELP.due("one constructor", NineReaders.class.getDeclaredConstructors().length, 1);
        for (Field field : NineReaders.class.getDeclaredFields()) {
            boolean isOpen = !Modifier.isPrivate(field.getModifiers());
            HELP.due("a field that is seen: " + field, isOpen, field.getName().equals("NONE"));
        }
        Class<?>[] inside = NineReaders.class.getDeclaredClasses();
        HELP.due("at most twelve classes", inside.length < 12, true);
        fields(NineReaders.class);
        for (Class<?> one : inside) {
            fields(one);
            HELP.due("static: " + one, Modifier.isStatic(one.getModifiers()), true);
            for (Method method : one.getDeclaredMethods()) {
                HELP.due("a public one's name: " + method, want.contains(method.getName()), false);
            }
            for (Field field : one.getDeclaredFields()) {
                boolean stays = !Modifier.isStatic(field.getModifiers()) || Modifier.isFinal(field.getModifiers());
                HELP.due("static and not final: " + field, stays, true);
            }
        }
    }

    /** Numbers, truth and own classes, in one dimension, numbers in two; a constant may be a text. */
    private static void fields(Class<?> one) {
        int fields = 0;
        for (Field field : one.getDeclaredFields()) {
            boolean constant = Modifier.isStatic(field.getModifiers());
            Class<?> type = field.getType();
            boolean rows = type.isArray() && type.getComponentType().isArray();
            Class<?> part = rows ? type.getComponentType().getComponentType() : type.isArray() ? type.getComponentType() : type;
            boolean own = part.getDeclaringClass() == NineReaders.class;
            HELP.due("of a type that may be: " + field, part.isPrimitive() || own && !rows || constant && part == String.class, true);
            HELP.due("a constant that is an object: " + field, constant && (own || type.isArray()), false);
            fields += constant ? 0 : 1;
        }
        HELP.due("at most some twenty fields: " + one, fields <= 20, true);
    }

    private static void words(List<String> lines) {
        String[] never = {"->", "::", "\\bfinally\\b", "\\bcatch\\b", "\\bsynchronized\\b", "\\bassert\\b", "static \\{",
            "Exact\\(", "\"\\s*\\+", "\\+\\s*\"", "\\bdouble\\b", "\\bfloat\\b", "while \\(true\\)", "for \\(;;",
            "System\\.(?!arraycopy)", "Math\\.(?!max|min)", "^import (?!java\\.util\\.NoSuchElementException;)"};
        for (int i = 0; i < lines.size(); i++) {
            String line = lines.get(i);
            for (String one : never) {
                HELP.due("line " + (i + 1) + " has " + one, Pattern.compile(one).matcher(line).find(), false);
            }
            Matcher call = LIBRARY.matcher(line);
            while (call.find()) {
                boolean known = OPEN.contains(call.group(1)) || INSIDE.contains(call.group(1).split("\\.")[0]);
                HELP.due("line " + (i + 1) + " calls " + call.group(1), known, true);
            }
            for (int at = 0; at < line.length(); at++) {
                HELP.due("line " + (i + 1) + " has a sign above 127", line.charAt(at) < 128, true);
            }
            HELP.due("line " + (i + 1) + " throws another", line.contains("throw new")
                && !line.contains("throw new NoSuchElementException()"), false);
        }
    }

    /** A method or constructor begins with a line that ends in a brace behind its parameters. */
    private static void methods(List<String> lines) {
        Pattern head = Pattern.compile("^( {4}| {8})(?!if|for|while|switch|else)(\\S.*)\\(([^()]*)\\)( throws \\w+)? \\{$");
        boolean inConstructor = false;
        int since = 0;
        String name = "";
        for (int i = 0; i < lines.size(); i++) {
            String line = lines.get(i);
            Matcher found = head.matcher(line);
            if (found.matches()) {
                since = i;
                name = found.group(2);
                inConstructor = Character.isUpperCase(name.replace("public ", "").charAt(0));
                HELP.due(name + " takes at most seven", found.group(3).split(",").length <= 7, true);
            }
            HELP.due(name + " is short", i - since < 60 || line.isBlank() || !line.startsWith("            "), true);
            boolean makes = line.contains("new ") && !line.contains("throw new") && !line.trim().startsWith("/**");
            HELP.due("line " + (i + 1) + " makes an object in a call", makes && !inConstructor, false);
        }
    }
}
