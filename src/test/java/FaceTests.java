import java.io.IOException;
import java.lang.management.ManagementFactory;
import java.lang.reflect.Constructor;
import java.lang.reflect.Field;
import java.lang.reflect.Member;
import java.lang.reflect.Method;
import java.lang.reflect.Modifier;
import java.nio.charset.StandardCharsets;
import java.nio.file.Files;
import java.nio.file.Path;
import java.util.ArrayList;
import java.util.Arrays;
import java.util.HashSet;
import java.util.List;
import java.util.Random;
import java.util.Set;
import java.util.TreeSet;
import java.util.regex.Matcher;
import java.util.regex.Pattern;

/** The face, LANGUAGE.md as far as it can be seen from outside, and calls with any arguments at all. */
public final class FaceTests {
    private static final String SOURCE = "src/main/java/LetByTheDegree.java";

    public static void main(String[] args) throws IOException {
        face();
        inside();
        source();
        anyArguments();
        room();
        headings();
        Due.end();
    }

    /** The document's lines of the face, as reflection tells them. */
    private static Set<String> promised() throws IOException {
        Set<String> lines = new TreeSet<>();
        String doc = Files.readString(Path.of("../shared/DOC.md"), StandardCharsets.UTF_8);
        String face = doc.substring(doc.indexOf("public final class"), doc.indexOf("## Terms"));
        Matcher m = Pattern.compile("public (static final )?(\\w+ )?(\\w+)(\\((.*)\\)( throws (\\w+))?| = -1);").matcher(face);
        while (m.find()) {
            String parameters = m.group(5) == null ? "" : m.group(5).replaceAll("(\\w+) \\w+", "$1");
            lines.add((m.group(2) == null ? "" : m.group(2)) + m.group(3) + (m.group(5) == null ? "" : "(" + parameters + ")")
                + (m.group(7) == null ? "" : " " + m.group(7)));
        }
        return lines;
    }

    private static String types(Class<?>[] all) {
        StringBuilder b = new StringBuilder();
        for (Class<?> c : all) {
            b.append(b.length() == 0 ? "" : ", ").append(c.getSimpleName());
        }
        return b.toString();
    }

    private static void face() throws IOException {
        Due.promise("the public face");
        Class<?> c = LetByTheDegree.class;
        Set<String> got = new TreeSet<>();
        for (Field f : c.getDeclaredFields()) {
            if (!Modifier.isPrivate(f.getModifiers()) && !f.isSynthetic()) {
                got.add(f.getType().getSimpleName() + " " + f.getName());
                Due.is(f + " is public static final", f.getModifiers(), Modifier.PUBLIC | Modifier.STATIC | Modifier.FINAL);
            }
        }
        for (Method m : c.getDeclaredMethods()) {
            if (!Modifier.isPrivate(m.getModifiers()) && !m.isSynthetic()) {
                got.add(m.getReturnType().getSimpleName() + " " + m.getName() + "(" + types(m.getParameterTypes()) + ")"
                    + (m.getExceptionTypes().length == 0 ? "" : " " + types(m.getExceptionTypes())));
                Due.is(m + " is public", m.getModifiers(), Modifier.PUBLIC);
            }
        }
        for (Constructor<?> k : c.getDeclaredConstructors()) {
            got.add(k.getDeclaringClass().getSimpleName() + "(" + types(k.getParameterTypes()) + ")");
            Due.is(k + " is public", k.getModifiers(), Modifier.PUBLIC);
        }
        Set<String> want = promised();
        Due.is("how many the document promises", want.size(), 42);
        if (!got.equals(want)) {
            Due.wrong("the face is " + got + ", due is " + want);
        }
        Due.is("the class is public and final", c.getModifiers() & (Modifier.PUBLIC | Modifier.FINAL),
            Modifier.PUBLIC | Modifier.FINAL);
        Due.is("NONE", LetByTheDegree.NONE, -1);
    }

    private static void inside() {
        Due.promise("LANGUAGE.md: what is inside");
        Set<String> told = new HashSet<>();
        for (Method m : LetByTheDegree.class.getDeclaredMethods()) {
            if (Modifier.isPublic(m.getModifiers())) {
                told.add(m.getName());
            }
        }
        List<Class<?>> all = new ArrayList<>(Arrays.asList(LetByTheDegree.class.getDeclaredClasses()));
        Due.is("some twelve classes", all.size() <= 12, true);
        all.add(LetByTheDegree.class);
        for (Class<?> c : all) {
            Due.is(c + " is final", Modifier.isFinal(c.getModifiers()), true);
            int fields = 0;
            for (Field f : c.getDeclaredFields()) {
                boolean constant = Modifier.isStatic(f.getModifiers());
                fields += constant ? 0 : 1;
                Due.is(f + ": what is static is final", !constant || Modifier.isFinal(f.getModifiers()), true);
            }
            Due.is("fields of " + c, fields <= 20, true);
            for (Method m : c.getDeclaredMethods()) {
                Due.is("parameters of " + m, m.getParameterCount() <= 7, true);
                Due.is(m + " bears the name of a public one",
                    told.contains(m.getName()) && !Modifier.isPublic(m.getModifiers()), false);
                Due.is(m + " is not forbidden", Set.of("equals", "hashCode", "toString").contains(m.getName()), false);
            }
            for (Member m : c.getDeclaredConstructors()) {
                Due.is(m + " has seven parameters at most", ((Constructor<?>) m).getParameterCount() <= 7, true);
            }
        }
    }

    private static void source() throws IOException {
        Due.promise("LANGUAGE.md: the source");
        String whole = Files.readString(Path.of(SOURCE), StandardCharsets.UTF_8);
        for (int k = 0; k < whole.length(); k++) {
            if (whole.charAt(k) > 126) {
                Due.wrong("sign " + (int) whole.charAt(k) + " at " + k);
            }
        }
        String code = whole.replaceAll("(?s)/\\*.*?\\*/", "").replaceAll("//[^\n]*", "");
        for (String word : new String[] {"->", "::", "Exact", "catch", "finally", "synchronized", "assert", "float", "double",
            "package ", "System.out", "Random", "currentTime", "nanoTime", "Thread", "toString", "hashCode", ".equals",
            "instanceof", "while (true)", "for (;;)", "abstract", "protected", "Object", "null;", "static {"}) {
            Due.is("'" + word + "' in the source", code.contains(word), false);
        }
        Matcher imports = Pattern.compile("import ([^;]*);").matcher(code);
        while (imports.find()) {
            Due.is("import " + imports.group(1), imports.group(1).equals("java.util.NoSuchElementException"), true);
        }
        Matcher thrown = Pattern.compile("throw (?!new NoSuchElementException\\()").matcher(code);
        Due.is("another exception thrown", thrown.find(), false);
        Matcher library = Pattern.compile("\\b(Math|Integer|Long|System|Arrays|String)\\.(\\w+)").matcher(code);
        while (library.find()) {
            Due.is(library.group(), Set.of("Math.max", "Math.min", "Math.floorMod", "Integer.bitCount", "Long.bitCount",
                "System.arraycopy").contains(library.group()), true);
        }
        methodsAreShort(whole);
        divisorsAreTested(code);
    }

    /** What divides is a number, a constant, or is compared with 0 or 1 ahead of it. */
    private static void divisorsAreTested(String code) {
        Matcher m = Pattern.compile("[/%]=? (\\w*)([\\[.(]?)").matcher(code.replaceAll("'.'", "' '"));
        while (m.find()) {
            boolean constant = m.group(1).matches("[A-Z0-9_]+") && m.group(2).isEmpty();
            String ahead = code.substring(Math.max(0, m.start() - 200), m.start());
            boolean tested = Pattern.compile("\\b" + m.group(1) + " (==|!=|<) [01]\\b").matcher(ahead).find();
            if (!constant && (m.group(1).isEmpty() || !tested)) {
                Due.wrong("a divisor that isn't tested: " + code.substring(m.start(), Math.min(code.length(), m.start() + 40)));
            }
        }
    }

    private static void methodsAreShort(String whole) {
        String[] lines = whole.split("\n");
        int begin = -1;
        String indent = "";
        for (int k = 0; k < lines.length; k++) {
            if (begin == -1 && lines[k].matches(" {4,8}[a-zA-Z].*\\) (throws \\w+ )?\\{") && !lines[k].contains(" class ")) {
                begin = k;
                indent = lines[k].replaceAll("\\S.*", "");
            } else if (begin >= 0 && lines[k].equals(indent + "}")) {
                Due.is("lines of " + lines[begin].trim(), k - begin <= 60, true);
                begin = -1;
            }
        }
    }

    /** The document's "Ahead of the calls .. the interface says: ---- ..", in the source's order of calls. */
    private static void headings() throws IOException {
        Due.promise("what stands ahead of the calls");
        String doc = Files.readString(Path.of("../shared/DOC.md"), StandardCharsets.UTF_8);
        List<String> want = new ArrayList<>();
        Matcher said = Pattern.compile("Ahead of the calls (.*) the interface says: (---- .*)\\.\n").matcher(doc);
        while (said.find()) {
            want.add(said.group(2));
            want.addAll(Arrays.asList(said.group(1).replace("`", "").split(", ")));
        }
        List<String> got = new ArrayList<>();
        String source = Files.readString(Path.of(SOURCE), StandardCharsets.UTF_8);
        Matcher told = Pattern.compile("(?m)^    (?:// (---- .*)|public (?:int|long|boolean) (\\w+)\\(.*)$").matcher(source);
        while (told.find()) {
            got.add(told.group(1) != null ? told.group(1) : told.group(2));
        }
        if (!got.equals(want)) {
            Due.wrong("the source has " + got + ", due is " + want);
        }
    }

    private static int any(Random random) {
        switch (random.nextInt(6)) {
            case 0: return random.nextInt();
            case 1: return Integer.MIN_VALUE + random.nextInt(3);
            case 2: return Integer.MAX_VALUE - random.nextInt(3);
            default: return random.nextInt(14) - 2;
        }
    }

    /** Whatever a call is given: it ends, and nothing but a NoSuchElementException of three calls comes of it. */
    private static void anyArguments() {
        Due.promise("any arguments in any state");
        Random random = new Random(11);
        for (int run = 0; run < 400; run++) {
            LetByTheDegree x = new LetByTheDegree();
            for (int k = 0; k < 120; k++) {
                String call = "nothing";
                Method m = LetByTheDegree.class.getMethods()[0];
                try {
                    m = anyMethod(random);
                    if (random.nextInt(4) == 0) {
                        Due.type(x, anyText(random));
                    }
                    Object[] given = new Object[m.getParameterCount()];
                    for (int i = 0; i < given.length; i++) {
                        given[i] = any(random);
                    }
                    call = m.getName() + Arrays.toString(given);
                    m.invoke(x, given);
                } catch (java.lang.reflect.InvocationTargetException e) {
                    boolean told = e.getCause() instanceof java.util.NoSuchElementException && m.getExceptionTypes().length > 0;
                    Due.is(call + " threw " + e.getCause(), told, true);
                } catch (IllegalAccessException e) {
                    Due.wrong(call + " can't be called");
                }
            }
        }
    }

    private static Method anyMethod(Random random) {
        Method[] all = LetByTheDegree.class.getDeclaredMethods();
        Arrays.sort(all, (a, b) -> a.toString().compareTo(b.toString()));
        for (int k = 0; k < 10000; k++) {
            Method m = all[random.nextInt(all.length)];
            if (Modifier.isPublic(m.getModifiers())) {
                return m;
            }
        }
        throw new IllegalStateException("no public method");
    }

    private static String anyText(Random random) {
        String[] texts = {"10,4/6,8", "3,3,3/2,2,2/1,1,1", "0", "99,99/0,0", "a1:405060;a1:222222;b2:900000", "a1:999999",
            "w+i*0-n", "h;m0b2;h2;sa1;f9", "((((w))))/h", "w<i", "-"};
        StringBuilder b = new StringBuilder(texts[random.nextInt(texts.length)]);
        if (random.nextInt(3) == 0) {
            b.setCharAt(random.nextInt(b.length()), (char) random.nextInt(256));
        }
        return b.toString();
    }

    /** The dearest calls make nothing: all is made with the object. */
    private static void room() {
        Due.promise("room for objects");
        com.sun.management.ThreadMXBean memory = (com.sun.management.ThreadMXBean) ManagementFactory.getThreadMXBean();
        long self = Thread.currentThread().getId();
        dearest();
        long ahead = memory.getThreadAllocatedBytes(self);
        dearest();
        long taken = memory.getThreadAllocatedBytes(self) - ahead;
        Due.is("bytes taken by an object and 512 of the dearest calls: " + taken, taken < 100_000, true);
    }

    private static void dearest() {
        LetByTheDegree x = new LetByTheDegree();
        x.sign('9' << 24 | ',' << 16 | '9' << 8 | ',');
        x.sign('9' << 24 | '/' << 16 | '9' << 8 | ',');
        x.sign('9' << 24 | ',' << 16 | '9' << 8);
        x.end(11);
        x.house();
        x.stove(0);
        for (int k = 0; k < 500; k++) {
            switch (k % 10) {
                case 0: x.lodge(40); break;
                case 1: x.longest(); break;
                case 2: x.quiet(40); break;
                case 3: x.carry(5); break;
                case 4: x.thaw(8, 5); break;
                case 5: x.season(k, 60); break;
                case 6: x.hours(60); break;
                case 7: x.hearth(60); break;
                case 8: x.look(); break;
                default: x.leave(5, 50);
            }
        }
    }
}
