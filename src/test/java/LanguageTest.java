import java.lang.reflect.Constructor;
import java.lang.reflect.Field;
import java.lang.reflect.Method;
import java.lang.reflect.Modifier;
import java.nio.file.Files;
import java.nio.file.Path;
import java.util.ArrayDeque;
import java.util.ArrayList;
import java.util.Deque;
import java.util.List;
import java.util.Random;
import java.util.Set;
import java.util.TreeSet;
import java.util.regex.Matcher;
import java.util.regex.Pattern;

/** The face of the class, what ../shared/LANGUAGE.md rules out as far as a look shows it, and that no call throws. */
public final class LanguageTest {
    private static final Check CHECK = new Check("LanguageTest");
    private static final String FACE = """
            int later(int) int born() int copied(int,int,int,int,boolean) int wake(int) int join(int,int) int end(int)
            int person(int,int) int kin(int) int common(int,int) int feed(long,int) int law() int says(int,int)
            int claim(int,int,int) int claimOf(int,int) long share(int,int,int) long total(int,int,int) int deed(int)
            int remembers(int,int) int blame(int) int wed(int,int) int wedTo(int) int votes(int,int) int rooted(int)
            int apart(int,int) int fewest(int) long pays(int,int) long lender(int,int,int) int seed(int) int call()
            int prove(int) long row(int,int) long alterRow(int,int,long) int judge(int) int sheet(int,int,int)
            int put(int,int,int) int item(int,int,int) int debts(int,int,int,int) int shelf(int,int,int)
            int taken(int,int) int act(int,int,int) int trace(int) int many(int) int keep() int again()""";
    private static final int[] EDGES = {Integer.MIN_VALUE, -2, -1, 0, 0, 1, 1, 2, 3, 4, 5, 7, 9, 10, 11, 12, 14, 17, 40,
            99, 222, 9999, Integer.MAX_VALUE};

    public static void main(String[] args) throws Exception {
        theFace();
        theClassesInside();
        theSource();
        nothingMadeByCalls();
        nothingThrows();
        CHECK.close();
    }

    private static void theFace() throws Exception {
        Set<String> due = new TreeSet<>(List.of(FACE.replaceAll("\\)\\s+", ")\n").split("\n")));
        Set<String> is = new TreeSet<>();
        Set<String> names = new TreeSet<>();
        for (Method m : OneIsTwo.class.getDeclaredMethods()) {
            if (m.isSynthetic() || !Modifier.isPublic(m.getModifiers())) continue;
            names.add(m.getName());
            StringBuilder line = new StringBuilder(m.getReturnType() + " " + m.getName() + "(");
            for (Class<?> type : m.getParameterTypes()) line.append(line.toString().endsWith("(") ? "" : ",").append(type);
            is.add(line + ")");
        }
        CHECK.isTrue("face: " + is, is.equals(due));
        CHECK.isTrue("class is final", Modifier.isFinal(OneIsTwo.class.getModifiers()));
        CHECK.due("constructors", OneIsTwo.class.getConstructors().length, 1);
        String[] constants = {"BAD", "FULL", "NONE", "STATE"};
        for (int i = 0; i < 4; i++) CHECK.due(constants[i], OneIsTwo.class.getField(constants[i]).getInt(null), -1 - i);
        for (Field f : OneIsTwo.class.getDeclaredFields()) {
            boolean isConstant = List.of(constants).contains(f.getName());
            CHECK.isTrue("field " + f, isConstant == Modifier.isPublic(f.getModifiers()));
            CHECK.isTrue("field " + f, isConstant || Modifier.isPrivate(f.getModifiers()));
        }
        for (Class<?> inside : everyClass()) {
            for (Method m : inside.getDeclaredMethods()) {
                if (m.isSynthetic() || inside == OneIsTwo.class && Modifier.isPublic(m.getModifiers())) continue;
                CHECK.isTrue("rule 1, the name of a public one: " + m, !names.contains(m.getName()));
                CHECK.isTrue("rule 1, a method to be seen: " + m,
                        inside != OneIsTwo.class || Modifier.isPrivate(m.getModifiers()));
                CHECK.isTrue("rule 11, parameters: " + m, m.getParameterCount() <= 7);
            }
        }
    }

    private static List<Class<?>> everyClass() {
        List<Class<?>> all = new ArrayList<>(List.of(OneIsTwo.class));
        all.addAll(List.of(OneIsTwo.class.getDeclaredClasses()));
        return all;
    }

    private static void theClassesInside() {
        CHECK.isTrue("rule 11, classes", everyClass().size() <= 12);
        for (Class<?> inside : everyClass()) {
            int fields = 0;
            for (Field f : inside.getDeclaredFields()) {
                boolean isStatic = Modifier.isStatic(f.getModifiers());
                if (isStatic) CHECK.isTrue("rule 5, " + f, Modifier.isFinal(f.getModifiers()));
                else fields++;
            }
            CHECK.isTrue("rule 11, fields of " + inside, fields <= 20);
            if (inside == OneIsTwo.class) continue;
            CHECK.isTrue("rule 2, static " + inside, Modifier.isStatic(inside.getModifiers()));
            CHECK.isTrue("rule 1, " + inside, !Modifier.isPublic(inside.getModifiers()));
        }
    }

    private static void theSource() throws Exception {
        String source = Files.readString(Path.of("src/main/java/OneIsTwo.java"));
        for (int i = 0; i < source.length(); i++) CHECK.isTrue("a sign at " + i, source.charAt(i) < 128);
        String code = source.replaceAll("(?s)/\\*.*?\\*/", "").replaceAll("//[^\n]*", "");
        for (String word : new String[] {"throws?", "try", "catch", "synchronized", "assert", "import", "package", "double",
                "float", "System\\.(?!arraycopy)\\w+", "toString", "hashCode", "equals", "\\w+Exact", "->", "::", "enum"}) {
            String pattern = Character.isLetter(word.charAt(0)) ? "(?s).*\\b" + word + "\\b.*" : "(?s).*" + word + ".*";
            CHECK.isTrue("the language: " + word, !code.matches(pattern));
        }
        Matcher used = Pattern.compile("\\b(Integer|Long|Math|Arrays|List)\\.\\w+").matcher(code);
        Set<String> listed = Set.of("Math.max", "Math.min", "Integer.bitCount");
        while (used.find()) CHECK.isTrue("rule 4, the library: " + used.group(), listed.contains(used.group()));
        int longest = 0;
        for (String line : source.split("\n")) longest = Math.max(longest, line.length());
        CHECK.isTrue("no line above 120 signs", longest <= 120);
        // With the constructors alone making objects, the room that a run takes is what one object takes.
        String[] made = code.split("\\bnew\\b");
        for (int i = 0; i + 1 < made.length; i++) {
            String line = made[i].substring(made[i].lastIndexOf('\n') + 1);
            CHECK.isTrue("made at a field or in the constructor of World: " + line,
                    line.contains("final") || line.contains("for (int i = 0"));
        }
    }

    /** Counts what one object holds, the arrays too. */
    private static void nothingMadeByCalls() throws Exception {
        OneIsTwo x = new OneIsTwo();
        long[] before = held(x);
        x.born();
        Check.law(x, "owes shared;");
        x.claim(0, 0, 5);
        x.sheet(0, 3, 40);
        x.keep();
        x.again();
        x.pays(0, 0);
        long[] behind = held(x);
        CHECK.due("objects", behind[0], before[0]);
        CHECK.isTrue("objects are few: " + before[0], before[0] < 400);
        CHECK.isTrue("fields and elements are few: " + before[1], before[1] < 5000);
    }

    private static long[] held(Object root) throws Exception {
        Set<Object> seen = java.util.Collections.newSetFromMap(new java.util.IdentityHashMap<>());
        Deque<Object> open = new ArrayDeque<>(List.of(root));
        long elements = 0;
        while (!open.isEmpty()) {
            Object one = open.pop();
            if (!seen.add(one)) continue;
            if (one.getClass().isArray()) {
                int length = java.lang.reflect.Array.getLength(one);
                elements += length;
                if (one instanceof Object[] parts) for (Object part : parts) open.push(part);
                continue;
            }
            for (Field f : one.getClass().getDeclaredFields()) {
                if (Modifier.isStatic(f.getModifiers())) continue;
                elements++;
                f.setAccessible(true);
                if (!f.getType().isPrimitive()) open.push(f.get(one));
            }
        }
        return new long[] {seen.size(), elements};
    }

    private static void nothingThrows() throws Exception {
        List<Method> calls = new ArrayList<>();
        for (Method m : OneIsTwo.class.getDeclaredMethods()) if (Modifier.isPublic(m.getModifiers())) calls.add(m);
        calls.sort(java.util.Comparator.comparing(Method::getName));
        Constructor<OneIsTwo> maker = OneIsTwo.class.getConstructor();
        for (int run = 0; run < 200; run++) {
            Random random = new Random(1000 + run);
            OneIsTwo x = maker.newInstance();
            for (int i = 0; i < 700; i++) {
                if (random.nextInt(20) == 0) Check.law(x, RandomTexts.text(random));
                Method call = calls.get(random.nextInt(calls.size()));
                Object[] with = new Object[call.getParameterCount()];
                for (int k = 0; k < with.length; k++) with[k] = argument(call.getParameterTypes()[k], random);
                try {
                    call.invoke(x, with);
                } catch (java.lang.reflect.InvocationTargetException thrown) {
                    CHECK.isTrue(call + " threw " + thrown.getCause(), false);
                }
            }
        }
    }

    private static Object argument(Class<?> type, Random random) {
        if (type == boolean.class) return random.nextBoolean();
        if (type == long.class) return random.nextLong();
        return random.nextInt(3) == 0 ? EDGES[random.nextInt(EDGES.length)] : random.nextInt(4);
    }
}
