import java.io.IOException;
import java.lang.reflect.Field;
import java.lang.reflect.InvocationTargetException;
import java.lang.reflect.Method;
import java.lang.reflect.Modifier;
import java.nio.file.Files;
import java.nio.file.Path;
import java.util.ArrayDeque;
import java.util.ArrayList;
import java.util.Arrays;
import java.util.HashMap;
import java.util.IdentityHashMap;
import java.util.List;
import java.util.Map;
import java.util.Random;
import java.util.Set;
import java.util.TreeSet;
import java.util.regex.Matcher;
import java.util.regex.Pattern;
import java.util.stream.Collectors;

/** The rules of LANGUAGE.md that can be seen from outside or by the words of the source; not all of them can. */
final class LanguageTest {
    private static final Check CHECK = new Check();
    private static final Path SOURCE = Path.of("src/main/java/QuarterMasks.java");
    private static final List<String> FACE = List.of(
        "int all(int,int)", "int back()", "int band(int,int,int)", "int block(int,int,int,int)", "int blocks(int,int)",
        "int both(int,int,int)", "int cell(int,int,int)", "int copy(int,int,int,int,int)", "int count(int)",
        "int dots(int,int,int)", "int fill(int,int,int,int,int,int)", "int get(int,int,int)", "int join(int,int,int,int)",
        "int label(int,int,int)", "int lay(int,int,int,int)", "int lose(int)", "int move(int,int,int,int)",
        "int near(int,int,int)", "int over(int,int)", "int part(int,int,int)", "int pick(int,int,int,int)",
        "int read(int,int)", "int sheet(int,int,int)", "int shown(int,int)", "int turn(int,int,int)",
        "int write(int,int,int)", "long digest()");

    public static void main(String[] args) throws IOException, IllegalAccessException {
        face();
        insideClasses();
        words(withoutComments(Files.readString(SOURCE)));
        depthAndLength(withoutComments(Files.readString(SOURCE)));
        callsMakeNothing();
        neverThrows();
        CHECK.end("LanguageTest");
    }

    private static String told(Method m) {
        String types = Arrays.stream(m.getParameterTypes()).map(Class::getName).collect(Collectors.joining(","));
        return m.getReturnType().getName() + " " + m.getName() + "(" + types + ")";
    }

    private static void face() {
        Class<QuarterMasks> c = QuarterMasks.class;
        CHECK.holds("1: public and final", Modifier.isPublic(c.getModifiers()) && Modifier.isFinal(c.getModifiers()));
        Set<String> open = new TreeSet<>();
        for (Method m : c.getDeclaredMethods()) if (!Modifier.isPrivate(m.getModifiers())) open.add(told(m));
        CHECK.holds("1: the face is " + open, open.equals(new TreeSet<>(FACE)));
        for (Field f : c.getDeclaredFields()) {
            boolean told = List.of("NONE", "BAD", "NOT").contains(f.getName());
            boolean asDue = told ? Modifier.isPublic(f.getModifiers()) : Modifier.isPrivate(f.getModifiers());
            CHECK.holds("1: who sees " + f.getName(), asDue);
        }
        CHECK.due("1: constructors", c.getDeclaredConstructors().length, 1);
        CHECK.due("1: its parameters", c.getDeclaredConstructors()[0].getParameterCount(), 0);
    }

    private static void insideClasses() {
        Set<String> names = FACE.stream().map(f -> f.substring(f.indexOf(' ') + 1, f.indexOf('('))).collect(Collectors.toSet());
        Class<?>[] inside = QuarterMasks.class.getDeclaredClasses();
        CHECK.holds("11: some twelve classes", inside.length <= 12);
        for (Class<?> c : inside) {
            CHECK.holds("2: static " + c.getName(), Modifier.isStatic(c.getModifiers()));
            for (Method m : c.getDeclaredMethods()) {
                CHECK.holds("1: a name of the face, " + m, !names.contains(m.getName()));
                CHECK.holds("11: seven parameters, " + m, m.getParameterCount() <= 7);
            }
        }
        for (Method m : QuarterMasks.class.getDeclaredMethods()) {
            boolean own = Modifier.isPublic(m.getModifiers()) || !names.contains(m.getName());
            CHECK.holds("1: a name of the face, " + m, own && m.getParameterCount() <= 7);
        }
    }

    private static String withoutComments(String text) {
        return text.replaceAll("(?s)/\\*.*?\\*/", "").replaceAll("//[^\n]*", "");
    }

    private static void words(String code) {
        String[] never = {"throw", "throws", "try", "catch", "synchronized", "assert", "package", "protected", "Object",
            "Exact", "equals", "hashCode", "toString", "Random", "Thread", "currentTimeMillis", "nanoTime", "while"};
        for (String word : never) {
            CHECK.holds("6: the word " + word, !Pattern.compile("\\b" + word + "\\b").matcher(code).find());
        }
        CHECK.holds("2: lambda or method reference", !code.contains("->") && !code.contains("::"));
        Matcher dotted = Pattern.compile("\\b([A-Z][a-z]\\w*)\\.(\\w+)").matcher(code);
        Set<String> library = Set.of("System.arraycopy", "Arrays.fill", "Integer.bitCount", "Math.max", "Math.min", "Math.abs",
            "Math.floorMod");
        while (dotted.find()) CHECK.holds("4: the library's " + dotted.group(), library.contains(dotted.group()));
        CHECK.holds("4: one import", code.split("\\bimport\\b").length == 2 && code.contains("import java.util.Arrays;"));
        CHECK.holds("signs 1 to 127", code.chars().allMatch(c -> c > 0 && c < 128));
    }

    /** The lines of each method by its name; methods of one name, in two classes, are taken as one that does both. */
    private static Map<String, String> bodies(String code) {
        Map<String, String> bodies = new HashMap<>();
        Matcher head = Pattern.compile("(?m)^( +)(?:[\\w\\[\\]]+ )+(\\w+)\\([^()]*\\) \\{$").matcher(code);
        while (head.find()) {
            if (head.group().matches("(?s) *(else|return|new|switch|for|if) .*")) continue;
            int end = code.indexOf("\n" + head.group(1) + "}", head.end());
            String body = code.substring(head.end(), end);
            CHECK.holds("11: some sixty lines, " + head.group(2), body.lines().count() <= 60);
            bodies.merge(head.group(2), body, String::concat);
        }
        return bodies;
    }

    /** How deep the calls go from a method on, itself too; a method that calls itself counts once, as recursion is free. */
    private static int depth(String name, Map<String, String> bodies, int guard) {
        int below = 0;
        Matcher call = Pattern.compile("(?<!Arrays\\.)\\b(\\w+)\\(").matcher(bodies.get(name));
        while (call.find() && guard > 0) {
            boolean other = bodies.containsKey(call.group(1)) && !call.group(1).equals(name);
            if (other) below = Math.max(below, depth(call.group(1), bodies, guard - 1));
        }
        return below + 1;
    }

    private static void depthAndLength(String code) {
        Map<String, String> bodies = bodies(code);
        Arrays.stream(QuarterMasks.class.getDeclaredMethods()).map(Method::getName)
            .forEach(name -> CHECK.holds("the source has a method " + name, bodies.containsKey(name)));
        for (String name : bodies.keySet()) {
            int deep = depth(name, bodies, 12);
            CHECK.holds("11: eight deep, but " + name + " goes " + deep, deep <= 8);
        }
        List<Class<?>> classes = new ArrayList<>(List.of(QuarterMasks.class.getDeclaredClasses()));
        classes.add(QuarterMasks.class);
        for (Class<?> c : classes) {
            long fields = Arrays.stream(c.getDeclaredFields()).filter(f -> !Modifier.isStatic(f.getModifiers())).count();
            CHECK.holds("11: some twenty fields, " + c.getName(), fields <= 20);
            for (Field f : c.getDeclaredFields()) {
                boolean constant = Modifier.isFinal(f.getModifiers()) && f.getType().isPrimitive();
                CHECK.holds("5: a static field, " + f, !Modifier.isStatic(f.getModifiers()) || constant);
            }
        }
    }

    /** All objects that an object holds, and their fields and elements. */
    private static long[] room(Object root) throws IllegalAccessException {
        Map<Object, Boolean> seen = new IdentityHashMap<>();
        ArrayDeque<Object> open = new ArrayDeque<>(List.of(root));
        long slots = 0;
        while (!open.isEmpty()) {
            Object o = open.pop();
            if (seen.put(o, true) != null) continue;
            if (o instanceof int[] row) {
                slots += row.length;
            } else if (o instanceof Object[] row) {
                slots += row.length;
                open.addAll(Arrays.asList(row));
            } else {
                for (Field f : o.getClass().getDeclaredFields()) {
                    if (Modifier.isStatic(f.getModifiers())) continue;
                    slots++;
                    f.setAccessible(true);
                    if (!f.getType().isPrimitive()) open.add(f.get(o));
                }
            }
        }
        return new long[] {seen.size(), slots};
    }

    /** The room for all calls of a run has 600,000 objects and 7.3 million slots, so only the constructor makes any. */
    private static void callsMakeNothing() throws IOException, IllegalAccessException {
        String code = withoutComments(Files.readString(SOURCE));
        CHECK.due("12: new is written in fields' initialisers and in the constructor alone",
            Pattern.compile("\\bnew\\b").matcher(code).results().count(),
            Pattern.compile("(?m)^ {4,8}private final \\S+ \\w+ = new |^ {12}(masks|sheets)\\[i\\] = new ")
                .matcher(code).results().count());
        QuarterMasks q = new QuarterMasks();
        long[] before = room(q);
        for (int i = 0; i < 100; i++) {
            q.dots(i % 4, i, 100);
            q.sheet(i % 4, i % 3, i % 61);
            q.write(0, 0, i % 4);
            q.digest();
        }
        CHECK.due("12: objects held", room(q)[0], before[0]);
        CHECK.due("12: slots held", room(q)[1], before[1]);
        CHECK.holds("12: 512 new objects find room, with " + before[0] + " objects and " + before[1] + " slots each",
            before[0] * 512 < 600_000 && before[1] * 512 < 7_300_000);
    }

    /** Mostly a number that some call takes, so that calls come far, else one of the odd ones, or any. */
    private static int anyNumber(Random chance) {
        int[] odd = {Integer.MIN_VALUE, Integer.MIN_VALUE + 1, -32769, -129, -17, -16, -2, -1, 16, 17, 30, 31, 32, 40, 59,
            60, 61, 64, 127, 128, 255, 256, 340, 341, 32768, 65536, Integer.MAX_VALUE - 1, Integer.MAX_VALUE};
        int kind = chance.nextInt(20);
        if (kind < 17) return chance.nextInt(kind < 14 ? 4 : 16);
        return kind < 19 ? odd[chance.nextInt(odd.length)] : chance.nextInt();
    }

    /** Also after an object's 512th call: what it answers then is free, but rule 7 has no end. */
    private static void neverThrows() throws IllegalAccessException {
        List<Method> calls = Arrays.stream(QuarterMasks.class.getDeclaredMethods())
            .filter(m -> Modifier.isPublic(m.getModifiers())).sorted((a, b) -> told(a).compareTo(told(b))).toList();
        CHECK.due("7: calls of the face", calls.size(), FACE.size());
        for (int run = 0; run < 20; run++) {
            Random chance = new Random(run);
            QuarterMasks q = new QuarterMasks();
            for (int i = 0; i < 4000; i++) {
                Method call = calls.get(chance.nextInt(calls.size()));
                Object[] numbers = new Object[call.getParameterCount()];
                for (int k = 0; k < numbers.length; k++) numbers[k] = anyNumber(chance);
                try {
                    call.invoke(q, numbers);
                } catch (InvocationTargetException e) {
                    CHECK.holds("7: " + call.getName() + Arrays.toString(numbers) + " threw " + e.getCause(), false);
                }
            }
        }
    }
}
