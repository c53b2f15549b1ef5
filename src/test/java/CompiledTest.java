import java.io.File;
import java.io.PrintWriter;
import java.io.StringWriter;
import java.lang.reflect.Field;
import java.lang.reflect.Method;
import java.lang.reflect.Modifier;
import java.util.ArrayList;
import java.util.HashMap;
import java.util.HashSet;
import java.util.LinkedHashMap;
import java.util.List;
import java.util.Map;
import java.util.Optional;
import java.util.Set;
import java.util.TreeSet;
import java.util.regex.Matcher;
import java.util.regex.Pattern;
import java.util.spi.ToolProvider;

/** What of LANGUAGE.md can be read off the compiled class: members, fields, the library, how deep calls go. */
public final class CompiledTest extends Checks {
    private static final int DEEPEST = 8;
    private static final Set<String> LIBRARY = Set.of("java/lang/Object.<init>", "java/lang/System.arraycopy",
        "java/util/Arrays.fill", "java/util/Arrays.copyOf", "java/util/Arrays.copyOfRange",
        "java/lang/Math.max", "java/lang/Math.min", "java/lang/Math.abs");

    public static void main(String[] args) {
        List<Class<?>> all = List.of(MarkToBoard.class.getNestMembers());
        about("rule 1: the face");
        face();
        about("rule 2: classes inside");
        inside(all);
        about("rules 3, 5, 11: fields and parameters");
        for (Class<?> c : all) fields(c);
        Optional<ToolProvider> javap = ToolProvider.findFirst("javap");
        if (javap.isPresent()) {
            Calls calls = new Calls(javap.get(), all);
            about("rule 4: the library");
            for (String asked : calls.library()) due(asked, LIBRARY.contains(asked) ? 1 : 0, 1);
            about("rules 8, 11: no recursion, calls at most eight deep");
            for (String m : calls.methods()) due(m + " goes too deep", Math.max(DEEPEST, calls.depth(m, 1)), DEEPEST);
        }
        end();
    }

    private static void face() {
        Class<?> c = MarkToBoard.class;
        due("public final", c.getModifiers() & (Modifier.PUBLIC | Modifier.FINAL), Modifier.PUBLIC | Modifier.FINAL);
        due("constructors", c.getDeclaredConstructors().length, 1);
        due("public constructors", c.getConstructors().length, 1);
        int shown = 0;
        for (Method m : c.getDeclaredMethods()) {
            shown += Modifier.isPublic(m.getModifiers()) ? 1 : 0;
            due(m.getName() + " is public or private", m.getModifiers() & (Modifier.PUBLIC | Modifier.PRIVATE), Modifier.isPublic(m.getModifiers()) ? Modifier.PUBLIC : Modifier.PRIVATE);
        }
        due("public methods, one for each promise but the first", shown, 49);
        for (Field f : c.getDeclaredFields()) due(f.getName() + " is private", Modifier.isPrivate(f.getModifiers()) ? 1 : 0, 1);
    }

    private static void inside(List<Class<?>> all) {
        due("classes, some twelve", Math.max(12, all.size()), 12);
        for (Class<?> c : all) {
            if (c == MarkToBoard.class) continue;
            due(c.getName() + " is static", Modifier.isStatic(c.getModifiers()) ? 1 : 0, 1);
            due(c.getName() + " stands in the class itself", c.getDeclaringClass() == MarkToBoard.class ? 1 : 0, 1);
            due(c.getName() + " is hidden", c.getModifiers() & (Modifier.PUBLIC | Modifier.PROTECTED), 0);
        }
    }

    private static void fields(Class<?> c) {
        int own = 0;
        for (Field f : c.getDeclaredFields()) {
            String name = c.getName() + "." + f.getName();
            boolean fixed = Modifier.isStatic(f.getModifiers());
            own += fixed ? 0 : 1;
            due(name + ": a static field is final", !fixed || Modifier.isFinal(f.getModifiers()) ? 1 : 0, 1);
            due(name + ": its type", allowed(f.getType(), fixed) ? 1 : 0, 1);
        }
        due(c.getName() + ": some twenty fields", Math.max(20, own), 20);
        for (Method m : c.getDeclaredMethods()) due(m + ": seven parameters", Math.max(7, m.getParameterCount()), 7);
    }

    private static boolean allowed(Class<?> type, boolean fixed) {
        if (type.isArray()) {
            Class<?> part = type.getComponentType();
            if (part.isArray()) return !fixed && part.getComponentType().isPrimitive();
            return part.isPrimitive() || !fixed && part.getNestHost() == MarkToBoard.class;
        }
        return type.isPrimitive() || type == String.class || !fixed && type.getNestHost() == MarkToBoard.class;
    }

    /** Who calls whom, as javap tells it; a call through a class may land in each class under it. */
    private static final class Calls {
        private static final Pattern HEAD = Pattern.compile("  (?:[^=]* )?([\\w$]+)\\(.*\\);");
        private static final Pattern CALL = Pattern.compile(".*invoke(\\w+).*// (?:Interface)?Method (?:([\\w/$]+|\"\\S+?\")\\.)?\"?([\\w<>]+)\"?:.*");
        private final Map<String, Set<String>> calls = new LinkedHashMap<>();
        private final Map<String, Class<?>> classes = new HashMap<>();
        private final Set<String> library = new TreeSet<>();

        Calls(ToolProvider javap, List<Class<?>> all) {
            String from = new File(MarkToBoard.class.getProtectionDomain().getCodeSource().getLocation().getPath()).getPath();
            for (Class<?> c : all) classes.put(c.getName(), c);
            Map<Class<?>, String> texts = new LinkedHashMap<>();
            for (Class<?> c : all) {
                StringWriter text = new StringWriter();
                PrintWriter to = new PrintWriter(text);
                javap.run(to, to, "-c", "-p", from + File.separator + c.getName() + ".class");
                texts.put(c, text.toString());
            }
            texts.forEach((c, text) -> read(c, text, false));
            texts.forEach((c, text) -> read(c, text, true));
        }

        private void read(Class<?> c, String text, boolean withCalls) {
            String method = "";
            for (String line : text.split("\n")) {
                Matcher head = HEAD.matcher(line);
                Matcher call = CALL.matcher(line);
                if (head.matches()) {
                    String name = head.group(1).equals(c.getName()) ? "<init>" : head.group(1);
                    method = c.getName() + "." + name;
                    calls.computeIfAbsent(method, m -> new HashSet<>());
                } else if (withCalls && call.matches()) {
                    String owner = call.group(2) == null ? c.getName() : call.group(2);
                    add(method, call.group(1), owner, call.group(3));
                }
            }
        }

        private void add(String method, String kind, String owner, String name) {
            Class<?> c = classes.get(owner);
            if (c == null) {
                library.add(owner + "." + name);
                calls.get(method).add(owner + "." + name);
                return;
            }
            for (Class<?> d : classes.values()) {
                if (d == c || kind.equals("virtual") && c.isAssignableFrom(d)) calls.get(method).add(landing(d, name));
            }
        }

        private String landing(Class<?> c, String name) {
            Class<?> d = c;
            while (d != null && !calls.containsKey(d.getName() + "." + name)) d = d.getSuperclass();
            return (d == null ? c : d).getName() + "." + name;
        }

        Set<String> library() {
            return library;
        }

        List<String> methods() {
            due("methods were found", calls.size() > 100 ? 1 : 0, 1);
            return new ArrayList<>(calls.keySet());
        }

        /** One that calls itself goes deeper than any bound. */
        int depth(String method, int open) {
            int most = open;
            if (open > DEEPEST) return open;
            for (String next : calls.getOrDefault(method, Set.of())) most = Math.max(most, depth(next, open + 1));
            return most;
        }
    }
}
