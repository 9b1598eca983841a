import java.io.IOException;
import java.lang.management.ManagementFactory;
import java.lang.reflect.Array;
import java.lang.reflect.Executable;
import java.lang.reflect.Field;
import java.lang.reflect.Method;
import java.lang.reflect.Modifier;
import java.nio.file.Files;
import java.nio.file.Path;
import java.util.ArrayList;
import java.util.IdentityHashMap;
import java.util.List;
import java.util.Map;
import java.util.Set;
import java.util.TreeSet;
import java.util.regex.Matcher;
import java.util.regex.Pattern;

/** The rules of ../shared/LANGUAGE.md that can be seen in the source, in the classes or in the room they take. */
public final class LanguageTest {
    private static final Path SOURCE = Path.of("src/main/java/ProgramGate.java");

    public static void main(String[] args) throws IOException, ReflectiveOperationException {
        List<String> code = withoutComments(Files.readString(SOURCE));
        classesInside();
        names();
        wordsLeftOut(code);
        libraryUsed(code);
        staticFields();
        loops(code);
        sizes(code);
        roomOfAnObject();
        roomOfCalls();
        Due.finish();
    }

    private static List<String> withoutComments(String text) {
        String bare = text.replaceAll("(?s)/\\*.*?\\*/", "").replaceAll("//[^\n]*", "");
        // Written texts are no code; none of them holds a quote.
        return List.of(bare.replaceAll("\"[^\"\n]*\"", "\"\"").split("\n"));
    }

    private static List<Class<?>> allClasses() {
        List<Class<?>> all = new ArrayList<>();
        all.add(ProgramGate.class);
        for (int i = 0; i < all.size(); i++) {
            all.addAll(List.of(all.get(i).getDeclaredClasses()));
        }
        return all;
    }

    private static void classesInside() {
        Due.says("but for the classes inside it, which are private or package-visible and static");
        for (Class<?> c : allClasses()) {
            if (c != ProgramGate.class) {
                int how = c.getModifiers();
                Due.due(c + " is open", Modifier.isPublic(how) || Modifier.isProtected(how), false);
                Due.due(c + " is static", Modifier.isStatic(how), true);
            }
        }
        Due.due("without a package line", ProgramGate.class.getPackageName(), "");
    }

    private static void names() {
        Due.says("No private method bears the name of a public one.");
        Set<String> face = new TreeSet<>();
        for (Method m : ProgramGate.class.getDeclaredMethods()) {
            if (Modifier.isPublic(m.getModifiers())) {
                face.add(m.getName());
            }
        }
        for (Class<?> c : allClasses()) {
            for (Method m : c.getDeclaredMethods()) {
                boolean ofTheFace = Modifier.isPublic(m.getModifiers());
                Due.due(m + " bears a name of the face", !ofTheFace && face.contains(m.getName()), false);
            }
        }
    }

    private static void wordsLeftOut(List<String> code) {
        Due.says("the part of it that these rules leave");
        Pattern left = Pattern.compile("\\b(import|finally|synchronized|assert|try|catch|volatile|native|yield|var)\\b"
            + "|->|::|static\\s*\\{|@\\w");
        for (String line : code) {
            Due.due("left out: " + line.strip(), left.matcher(line).find(), false);
        }
    }

    private static void libraryUsed(List<String> code) {
        Due.says("The library: only what stands here.");
        Set<String> used = new TreeSet<>();
        Pattern call = Pattern.compile("\\b(System|Arrays|Integer|Long|Math|String|StringBuilder|List|Thread|Object)"
            + "\\.(\\w+)");
        for (String line : code) {
            Matcher found = call.matcher(line);
            while (found.find()) {
                used.add(found.group());
            }
        }
        Due.due("used", used.toString(),
            "[Integer.MAX_VALUE, Integer.MIN_VALUE, Long.numberOfLeadingZeros, Math.max, Math.min]");
        Due.says("throw new E() or throw new E(\"a written text\")");
        Pattern thrown = Pattern.compile("throw new (IllegalState|IndexOutOfBounds|Arithmetic)Exception\\(\"\"\\);");
        for (String line : code) {
            boolean throwing = line.matches(".*\\bthrow\\b.*");
            Due.due("throws: " + line.strip(), throwing && !thrown.matcher(line).find(), false);
        }
    }

    private static void staticFields() {
        Due.says("Static fields are final: constants of int, long, boolean, char or String");
        Set<Class<?>> plain = Set.of(int.class, long.class, boolean.class, char.class, String.class);
        for (Class<?> c : allClasses()) {
            for (Field f : c.getDeclaredFields()) {
                if (Modifier.isStatic(f.getModifiers())) {
                    Due.due(f + " is final", Modifier.isFinal(f.getModifiers()), true);
                    Due.due(f + " is plain", plain.contains(f.getType()), true);
                }
            }
        }
    }

    private static void loops(List<String> code) {
        Due.says("Every loop has an end that can be seen from its own lines");
        Pattern counted = Pattern.compile("for \\(int (\\w+) = .*;.*\\b\\1 (<|<=|>|>=) .*; \\1(\\+\\+|--)\\)");
        for (String line : code) {
            boolean loop = line.matches("\\s*(for|while|do)\\b.*");
            boolean bounded = counted.matcher(line).find() || line.contains("stepsMade <= MOST_STEPS");
            Due.due("loop: " + line.strip(), loop && !bounded, false);
        }
    }

    private static void sizes(List<String> code) {
        Due.says("the file has at most some twelve classes, and a class some twenty fields beside its constants.");
        Due.due("classes", allClasses().size() <= 12, true);
        for (Class<?> c : allClasses()) {
            int fields = 0;
            for (Field f : c.getDeclaredFields()) {
                fields += Modifier.isStatic(f.getModifiers()) ? 0 : 1;
            }
            Due.due("fields of " + c, fields <= 20, true);
        }
        Due.says("A method takes at most seven parameters.");
        for (Class<?> c : allClasses()) {
            List<Executable> made = new ArrayList<>(List.of(c.getDeclaredMethods()));
            made.addAll(List.of(c.getDeclaredConstructors()));
            for (Executable e : made) {
                Due.due("parameters of " + e, e.getParameterCount() <= 7, true);
            }
        }
        Due.says("Methods stay short (some sixty lines)");
        Pattern head = Pattern.compile("( {4}| {8})\\w.*\\).* \\{");
        String end = "";
        int length = 0;
        int methods = 0;
        for (String line : code) {
            Matcher begins = head.matcher(line);
            if (end.isEmpty() && begins.matches()) {
                end = begins.group(1) + "}";
                length = 0;
                methods++;
            }
            length++;
            Due.due("lines up to: " + line.strip(), end.isEmpty() || length <= 60, true);
            end = line.equals(end) ? "" : end;
        }
        Due.due("methods were found", methods > 50, true);
    }

    /** The room is 600,000 objects and arrays with 7.3 million fields and elements for a run of at most 512 calls. */
    private static void roomOfAnObject() throws ReflectiveOperationException {
        Due.says("What a run makes is counted");
        ProgramGate gate = Due.gate(Due.number(Due.MOVE, 0, 1), Due.end());
        long[] before = room(gate);
        gate.walk();
        gate.run(0);
        long[] after = room(gate);
        Due.due("objects", before[0] <= 500, true);
        Due.due("fields and elements", before[1] <= 4000, true);
        Due.due("objects after a walk and a run", after[0], before[0]);
        Due.due("fields and elements after a walk and a run", after[1], before[1]);
    }

    private static long[] room(Object root) throws ReflectiveOperationException {
        Map<Object, Object> seen = new IdentityHashMap<>();
        List<Object> all = new ArrayList<>();
        seen.put(root, root);
        all.add(root);
        long parts = 0;
        for (int i = 0; i < all.size(); i++) {
            for (Object part : parts(all.get(i))) {
                parts++;
                if (part != null && !(part instanceof Number || part instanceof Boolean)
                    && seen.put(part, part) == null) {
                    all.add(part);
                }
            }
        }
        return new long[] {all.size(), parts};
    }

    private static List<Object> parts(Object x) throws ReflectiveOperationException {
        List<Object> parts = new ArrayList<>();
        if (x.getClass().isArray()) {
            for (int i = 0; i < Array.getLength(x); i++) {
                parts.add(Array.get(x, i));
            }
            return parts;
        }
        for (Field f : x.getClass().getDeclaredFields()) {
            if (!Modifier.isStatic(f.getModifiers())) {
                f.setAccessible(true);
                parts.add(f.get(x));
            }
        }
        return parts;
    }

    /** As the README says, only the making of a gate and the exceptions of its runs make objects. */
    private static void roomOfCalls() {
        Due.says("An object may be made by any method, and none in a loop without a bound.");
        ProgramGate gate = new ProgramGate();
        long sum = 0;
        long least = Long.MAX_VALUE;
        // The first rounds load what Java itself needs, so the round that makes least counts.
        for (int round = 0; round < 5; round++) {
            long before = bytesMade();
            sum += calls(gate);
            least = Math.min(least, bytesMade() - before);
        }
        // The smallest object takes 16 bytes, and a round has 1000 programs.
        Due.due("objects are made", least >= 1000 * 16, false);
        Due.due("the calls were made", sum != 0, true);
    }

    private static long calls(ProgramGate gate) {
        long sum = 0;
        for (int k = 0; k < 1000; k++) {
            gate.packet(k, k, 16);
            gate.add(Due.MOVE, 0, -1, k, 0);
            gate.add(Due.BEYOND, 0, 0, 4, 2);
            gate.add(Due.LOAD, 0, 0, 0, 4);
            gate.add(Due.EQUAL, 0, 2, 0, 1);
            gate.add(Due.END, 0, -1, 0, 0);
            gate.add(Due.END, 0, -1, 0, 0);
            sum += gate.walk() + gate.run(k) + gate.steps() + gate.ran() + gate.known(0, 3);
            sum += gate.size() + gate.clear();
        }
        return sum;
    }

    private static long bytesMade() {
        return ((com.sun.management.ThreadMXBean) ManagementFactory.getThreadMXBean()).getCurrentThreadAllocatedBytes();
    }
}
