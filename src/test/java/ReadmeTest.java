import java.io.File;
import java.io.IOException;
import java.lang.reflect.InvocationTargetException;
import java.lang.reflect.Method;
import java.lang.reflect.Modifier;
import java.nio.file.Files;
import java.nio.file.Path;
import java.util.ArrayList;
import java.util.List;
import java.util.Map;
import java.util.Set;
import java.util.TreeMap;
import java.util.TreeSet;
import java.util.regex.Matcher;
import java.util.regex.Pattern;

/** README.md tells what is so: its examples, its tables of calls and constants, its list of tests. Run at the project's root. */
public final class ReadmeTest {
    private static final String CONSTANTS = "BAD|NO|FULL|NONE";
    private static final int[] TRIED = {Integer.MIN_VALUE, -1, 0, 1, 2, 3, 4, 5, 7, 10, 30, 31, 41, 10000, Integer.MAX_VALUE};
    private static long drawn = 3;

    public static void main(String[] args) throws IOException, ReflectiveOperationException {
        List<String> lines = Files.readAllLines(Path.of("README.md"));
        List<List<String>> examples = new ArrayList<>();
        for (List<String> block : javaBlocks(lines)) {
            if (String.join("\n", block).contains("static int writeText")) {
                isThisFilesOwn(block);
            } else {
                examples.add(block);
            }
        }
        run(examples);
        Map<String, Set<String>> told = callsAreTheFace(lines);
        Check.due("what constants mean, " + meanings(lines) + " as in the table of calls, " + told,
                meanings(lines).equals(told) ? 1 : 0, 1);
        Check.due("constants that calls answer, " + answered() + " as in the table of calls, " + told,
                answered().equals(told) ? 1 : 0, 1);
        constantsAreTold(lines);
        testsAreTold(lines);
        Check.end();
    }

    private static List<List<String>> javaBlocks(List<String> lines) {
        List<List<String>> blocks = new ArrayList<>();
        List<String> block = null;
        for (String line : lines) {
            if (line.equals("```java")) {
                block = new ArrayList<>();
                blocks.add(block);
            } else if (line.equals("```")) {
                block = null;
            } else if (block != null) {
                block.add(line.strip());
            }
        }
        return blocks;
    }

    /** Behind THE TEXT: how long it is then, or FULL, if not all of it has room. */
    static int writeText(BallAndName x, String text) {
        int length = x.count(6);
        for (int at = 0; at < text.length() && length >= 0; at += 8) {
            int n = Math.min(8, text.length() - at);
            long v = 0;
            for (int i = at; i < at + n; i++) {
                v = v << 8 | text.charAt(i) & 255;
            }
            length = x.write(n, v);
        }
        return length;
    }

    /** The README's writeText is the one above, word for word: so it can be compiled and does what the examples need. */
    private static void isThisFilesOwn(List<String> block) throws IOException {
        StringBuilder own = new StringBuilder();
        for (String line : Files.readAllLines(Path.of("src/test/java/ReadmeTest.java"))) {
            own.append(line.strip()).append('\n');
        }
        Check.due("writeText is as in ReadmeTest", own.indexOf(String.join("\n", block)) >= 0 ? 1 : 0, 1);
        BallAndName x = new BallAndName();
        Check.due("writeText of 301 bytes", writeText(x, "n5;".repeat(100) + "d"), BallAndName.FULL);
        Check.due("writeText of 300 bytes", writeText(new BallAndName(), "n5;".repeat(100)), 300);
        Check.due("writeText of none", writeText(x, ""), x.count(6));
    }

    private static void run(List<List<String>> examples) throws ReflectiveOperationException {
        Pattern call = Pattern.compile("(?:x\\.)?(\\w+)\\((.*)\\); *// (-?\\d+|" + CONSTANTS + "): .+");
        BallAndName x = null;
        Set<String> used = new TreeSet<>();
        for (List<String> block : examples) {
            for (String line : block) {
                Matcher told = call.matcher(line);
                if (line.endsWith("x = new BallAndName();")) {
                    x = new BallAndName();
                } else if (x != null && told.matches()) {
                    Check.due("README: " + line, answer(x, told.group(1), told.group(2)), number(told.group(3)));
                    used.add(told.group(1));
                } else {
                    Check.due("README, can't be run: " + line, 1, 0);
                }
            }
        }
        used.remove("writeText");
        Check.due("each call has an example: " + used, used.size(), 24);
    }

    private static long number(String told) throws ReflectiveOperationException {
        return told.matches(CONSTANTS) ? BallAndName.class.getField(told).getInt(null) : Long.parseLong(told);
    }

    private static long answer(BallAndName x, String name, String told) throws ReflectiveOperationException {
        if (name.equals("writeText")) {
            return writeText(x, told.substring(told.indexOf('"') + 1, told.lastIndexOf('"')));
        }
        String[] words = told.isEmpty() ? new String[0] : told.split(", *");
        long[] numbers = new long[words.length];
        for (int w = 0; w < words.length; w++) {
            numbers[w] = Long.decode(words[w].replace("L", ""));
        }
        return answer(x, method(name), numbers);
    }

    private static Method method(String name) {
        for (Method method : BallAndName.class.getDeclaredMethods()) {
            if (method.getName().equals(name) && Modifier.isPublic(method.getModifiers())) {
                return method;
            }
        }
        throw new IllegalArgumentException("no call " + name);
    }

    private static long answer(BallAndName x, Method method, long[] numbers) throws ReflectiveOperationException {
        Class<?>[] types = method.getParameterTypes();
        Object[] arguments = new Object[types.length];
        for (int i = 0; i < types.length; i++) {
            if (types[i] == long.class) {
                arguments[i] = numbers[i];
            } else {
                arguments[i] = (int) numbers[i];
            }
        }
        try {
            return ((Number) method.invoke(x, arguments)).longValue();
        } catch (InvocationTargetException e) {
            throw new IllegalStateException(method.getName() + " threw", e.getCause());
        }
    }

    /** The calls of the README's table, by the names of their numbers, are those of the document. Which constants each answers. */
    private static Map<String, Set<String>> callsAreTheFace(List<String> lines) throws IOException {
        Map<String, Set<String>> told = new TreeMap<>();
        List<String> calls = new ArrayList<>();
        Pattern row = Pattern.compile("\\| `(\\w+)(\\([a-z, ]*\\))` \\| [^|]+ \\| ([A-Z, ]*)\\|");
        for (String line : lines) {
            Matcher call = row.matcher(line);
            if (call.matches()) {
                calls.add(call.group(1) + call.group(2));
                addAll(told, call.group(1), call.group(3));
            }
        }
        List<String> face = new ArrayList<>();
        Pattern method = Pattern.compile(" +public (?:int|long) (\\w+\\(.*\\));");
        for (String line : Files.readAllLines(Path.of("../shared/DOC.md"))) {
            Matcher call = method.matcher(line);
            if (call.matches()) {
                face.add(call.group(1).replaceAll("(?:int|long) ", ""));
            }
        }
        Check.due("calls of the document", face.size(), 24);
        Check.due("README's calls are " + calls + ", the document's " + face, calls.equals(face) ? 1 : 0, 1);
        return told;
    }

    private static void addAll(Map<String, Set<String>> told, String call, String constants) {
        Matcher constant = Pattern.compile("\\b(?:" + CONSTANTS + ")\\b").matcher(constants);
        while (constant.find()) {
            told.computeIfAbsent(call, key -> new TreeSet<>()).add(constant.group());
        }
    }

    /** The README's table of what each constant means behind which call. */
    private static Map<String, Set<String>> meanings(List<String> lines) {
        Map<String, Set<String>> told = new TreeMap<>();
        Pattern row = Pattern.compile("\\| (`\\w+`(?:, `\\w+`)*) \\| (" + CONSTANTS + ") \\| [^|]+ \\|");
        for (String line : lines) {
            Matcher calls = row.matcher(line);
            if (calls.matches()) {
                for (String call : calls.group(1).replace("`", "").split(", ")) {
                    addAll(told, call, calls.group(2));
                }
            }
        }
        return told;
    }

    /** What the calls answer by all kinds of numbers, in all kinds of states. */
    private static Map<String, Set<String>> answered() throws ReflectiveOperationException {
        Map<String, Set<String>> answered = new TreeMap<>();
        String[] texts = {"p4,1,1,1,0;p9,1,1,1,0;", "p4,1,5,1,1;p9,1,1,1,0;p6,1,5,1,1;", "n4;", "",
            "n5;".repeat(100)};
        List<Method> methods = new ArrayList<>();
        for (Method method : BallAndName.class.getDeclaredMethods()) {
            if (Modifier.isPublic(method.getModifiers())) {
                methods.add(method);
            }
        }
        methods.sort((one, other) -> one.getName().compareTo(other.getName()));
        for (int run = 0; run < 200; run++) {
            BallAndName x = new BallAndName();
            writeText(x, texts[run % texts.length]);
            for (int n = 0; n < 8; n++) {
                x.seen(0, 0, n);
            }
            for (int n = 0; n < 400; n++) {
                Method method = methods.get(draw(methods.size()));
                long[] numbers = {tried(), tried(), tried(), tried()};
                long answer = answer(x, method, numbers);
                if (answer < 0) {
                    String constant = answer == -1 ? "BAD" : answer == -2 ? "NO" : answer == -3 ? "FULL" : answer == -4 ? "NONE" : "?";
                    answered.computeIfAbsent(method.getName(), key -> new TreeSet<>()).add(constant);
                }
            }
        }
        return answered;
    }

    private static int draw(int below) {
        drawn = drawn * 6364136223846793005L + 1442695040888963407L;
        return (int) ((drawn >>> 33) % below);
    }

    private static int tried() {
        return draw(3) == 0 ? TRIED[draw(TRIED.length)] : draw(3);
    }

    /** The README's table of the constants and their values. */
    private static void constantsAreTold(List<String> lines) throws ReflectiveOperationException {
        Pattern row = Pattern.compile("\\| `(" + CONSTANTS + ")` \\| (-\\d) \\| [^|]+ \\|");
        int found = 0;
        for (String line : lines) {
            Matcher constant = row.matcher(line);
            if (constant.matches()) {
                found++;
                Check.due("README: " + constant.group(1), Long.parseLong(constant.group(2)), number(constant.group(1)));
            }
        }
        Check.due("README: constants", found, 4);
    }

    /** Each file of src/test/java is in the README's list, and no other. */
    private static void testsAreTold(List<String> lines) {
        Set<String> told = new TreeSet<>();
        for (String line : lines) {
            Matcher names = Pattern.compile("`(\\w+)`").matcher(line.startsWith("- `") ? line.replaceAll("`: .*|`, and .*", "`") : "");
            while (names.find()) {
                told.add(names.group(1) + ".java");
            }
        }
        Set<String> found = new TreeSet<>();
        File[] files = new File("src/test/java").listFiles();
        for (File file : files == null ? new File[0] : files) {
            found.add(file.getName());
        }
        Check.due("README's tests are " + told + ", there are " + found, told.equals(found) ? 1 : 0, 1);
    }
}
