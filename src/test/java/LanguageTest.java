import java.lang.reflect.Field;
import java.lang.reflect.Method;
import java.lang.reflect.Modifier;
import java.nio.file.Files;
import java.nio.file.Path;
import java.util.HashMap;
import java.util.HashSet;
import java.util.Map;
import java.util.Set;
import java.util.TreeSet;
import java.util.regex.Matcher;
import java.util.regex.Pattern;

/** Looks at the class and its source for the rules of LANGUAGE.md that can be seen by machine. */
public final class LanguageTest {
    private static final String FACE = "add/4 check/0 displayed/0 drop/0 edited/4 index/0 number/6 output/1 peek/1 place/0 "
        + "poke/2 run/0 size/0 steps/0 text/4 value/2";
    private static int wrong = 0;

    public static void main(String[] args) throws Exception {
        face();
        String source = Files.readString(Path.of("src/main/java/LedgerProgram.java"));
        // Comments become blanks, so that the lines keep their numbers.
        String code = source.replaceAll("//[^\n]*", "");
        Matcher comment = Pattern.compile("/\\*.*?\\*/", Pattern.DOTALL).matcher(code);
        code = comment.replaceAll(found -> found.group().replaceAll("[^\n]", ""));
        words(code);
        arrays(code);
        methods(code);
        System.out.println(wrong == 0 ? "the rules that can be seen are kept" : wrong + " rules broken");
        if (wrong != 0) {
            System.exit(1);
        }
    }

    private static void rule(int number, boolean kept, String what) {
        if (!kept) {
            wrong++;
            System.out.println("rule " + number + ": " + what);
        }
    }

    private static void face() {
        Class<?> program = LedgerProgram.class;
        rule(1, Modifier.isPublic(program.getModifiers()) && Modifier.isFinal(program.getModifiers()), "public and final");
        rule(1, program.getDeclaredClasses().length == 0, "a nested class");
        rule(1, program.getDeclaredConstructors().length == 1 && program.getConstructors().length == 1, "constructors");
        Set<String> open = new TreeSet<>();
        Set<String> openNames = new HashSet<>();
        for (Method method : program.getDeclaredMethods()) {
            if (Modifier.isPublic(method.getModifiers())) {
                open.add(method.getName() + "/" + method.getParameterCount());
                openNames.add(method.getName());
            }
        }
        rule(1, String.join(" ", open).equals(FACE), "the public methods are " + open);
        for (Method method : program.getDeclaredMethods()) {
            boolean isOpen = Modifier.isPublic(method.getModifiers());
            rule(1, isOpen || Modifier.isPrivate(method.getModifiers()), method + " is neither public nor private");
            rule(1, isOpen || !openNames.contains(method.getName()), method + " bears a public name");
            rule(10, method.getParameterCount() <= 7, method + " takes too many parameters");
            rule(4, !method.getReturnType().isArray(), method + " answers an array");
        }
        int fields = 0;
        Set<String> constants = new TreeSet<>();
        for (Field field : program.getDeclaredFields()) {
            int is = field.getModifiers();
            Class<?> type = field.getType();
            Class<?> plain = type.isArray() ? type.getComponentType() : type;
            rule(2, plain.isPrimitive() && plain != float.class && plain != double.class, field + " has a wrong type");
            rule(5, !Modifier.isStatic(is) || (Modifier.isFinal(is) && (type == int.class || type == long.class)),
                field + " is static");
            if (Modifier.isPublic(is)) {
                constants.add(field.getName());
            } else {
                rule(1, Modifier.isPrivate(is), field + " is neither public nor private");
            }
            rule(4, !type.isArray() || Modifier.isFinal(is), field + " could be assigned");
            fields += Modifier.isStatic(is) ? 0 : 1;
        }
        rule(1, constants.toString().equals("[DEEP, LONG, OK, RANGE, UNCHECKED]"), "the constants are " + constants);
        rule(10, fields <= 40, fields + " fields");
    }

    private static void words(String code) {
        String[] forbidden = {"import", "package", "String", "Math", "Integer", "Long", "System", "Arrays", "Object", "null",
            "throw", "throws", "try", "catch", "finally", "synchronized", "assert", "instanceof", "float", "double",
            "interface", "enum", "record", "protected", "var", "native", "volatile", "transient", "hashCode", "equals",
            "getClass", "toString", "super"};
        for (String word : forbidden) {
            rule(6, !Pattern.compile("\\b" + word + "\\b").matcher(code).find(), "the word " + word);
        }
        rule(6, !code.contains("->") && !code.contains("::"), "a lambda or a method reference");
        rule(2, !code.contains("\"") && !code.contains("[]["), "a string or an array of arrays");
        rule(1, code.split("\\bclass\\b", -1).length == 2, "one class");
    }

    private static void arrays(String code) {
        Pattern made = Pattern.compile("(?m)^    private final (int|boolean)\\[\\] \\w+ = new \\1\\[[A-Z_]+\\];$");
        String rest = made.matcher(code).replaceAll("");
        rule(4, !Pattern.compile("\\bnew\\b").matcher(rest).find(), "something is made outside of a field's initialiser");
    }

    private static void methods(String code) {
        Matcher head = Pattern.compile("(?m)^    (?:public|private) (?:static )?(?:\\w+ )?(\\w+)\\([^)]*\\) \\{$").matcher(code);
        Map<String, String> bodies = new HashMap<>();
        while (head.find()) {
            int end = code.indexOf("\n    }\n", head.end());
            String body = code.substring(head.end(), end);
            bodies.put(head.group(1), body);
            long lines = body.lines().count() + 1;
            rule(10, lines <= 65, head.group(1) + " has " + lines + " lines");
        }
        rule(1, bodies.size() == LedgerProgram.class.getDeclaredMethods().length + 1, "methods found: " + bodies.size());
        for (Map.Entry<String, String> entry : bodies.entrySet()) {
            rule(10, !hasCallInCall(entry.getValue(), bodies.keySet()), entry.getKey() + " has a call inside a call");
            int deep = depth(entry.getKey(), bodies, 0);
            rule(8, deep <= 30, entry.getKey() + " is recursive");
            rule(10, deep <= 6, entry.getKey() + " goes " + deep + " calls deep");
        }
    }

    private static Matcher calls(String text) {
        return Pattern.compile("\\b(\\w+)\\(").matcher(text);
    }

    private static int depth(String name, Map<String, String> bodies, int above) {
        if (above > 30) {
            return 100;
        }
        int deepest = 0;
        Matcher call = calls(bodies.get(name));
        while (call.find()) {
            if (bodies.containsKey(call.group(1))) {
                deepest = Math.max(deepest, depth(call.group(1), bodies, above + 1));
            }
        }
        return deepest + 1;
    }

    private static boolean hasCallInCall(String body, Set<String> names) {
        Matcher call = calls(body);
        while (call.find()) {
            if (!names.contains(call.group(1))) {
                continue;
            }
            int open = 1;
            int i = call.end();
            for (; open > 0; i++) {
                open += body.charAt(i) == '(' ? 1 : body.charAt(i) == ')' ? -1 : 0;
            }
            Matcher inner = calls(body.substring(call.end(), i));
            while (inner.find()) {
                if (names.contains(inner.group(1))) {
                    return true;
                }
            }
        }
        return false;
    }
}
