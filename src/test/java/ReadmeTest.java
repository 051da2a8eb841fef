import java.io.ByteArrayOutputStream;
import java.io.IOException;
import java.io.PrintStream;
import java.lang.reflect.InvocationTargetException;
import java.lang.reflect.Method;
import java.lang.reflect.Modifier;
import java.net.URL;
import java.net.URLClassLoader;
import java.nio.file.Files;
import java.nio.file.Path;
import java.util.ArrayList;
import java.util.List;
import java.util.Set;
import java.util.TreeSet;
import java.util.regex.Matcher;
import java.util.regex.Pattern;
import java.util.stream.Stream;
import javax.tools.ToolProvider;

/** What README.md says is so: its example, its run of calls (promises 1 to 38), its list of tests. Runs in the project's folder. */
public final class ReadmeTest {
    private static final Pattern BLOCK = Pattern.compile("(?ms)^```(\\w+)\n(.*?)^```$");
    private static final Pattern ROW = Pattern.compile("(?m)^\\| `(\\w+)\\(([^)]*)\\)` \\| (.*) \\| (.*) \\|$");
    private static final Pattern INSTANCE = Pattern.compile("`(\\w+)\\(([^)]*)\\)` (is|throws) ([-\\w]+)(, |$)");

    private static TinNation nation;

    public static void main(String[] args) throws Exception {
        String readme = Files.readString(Path.of("README.md"));
        Path folder = Files.createTempDirectory("readme");
        try {
            example(readme, folder);
            calls(readme);
        } finally {
            remove(folder);
        }
        tests(readme);
        Check.end("ReadmeTest");
    }

    /** The example compiles, and prints what stands behind it. */
    private static void example(String readme, Path folder) throws Exception {
        List<String> blocks = new ArrayList<>();
        for (Matcher block = BLOCK.matcher(readme); block.find(); ) {
            blocks.add(block.group(2));
        }
        int at = 0;
        while (at < blocks.size() && !blocks.get(at).contains("class Example ")) {
            at++;
        }
        if (at + 1 >= blocks.size()) {
            Check.due("there is an example, and what it prints", true, false);
            return;
        }
        Path source = Files.writeString(folder.resolve("Example.java"), blocks.get(at));
        int compiled = ToolProvider.getSystemJavaCompiler().run(null, null, null, "-Xlint:all", "-Werror", "-d", folder.toString(),
                "-cp", System.getProperty("java.class.path"), source.toString());
        Check.due("the example compiles", 0, compiled);
        if (compiled != 0) {
            return;
        }
        try (URLClassLoader loader = new URLClassLoader(new URL[] {folder.toUri().toURL()})) {
            Class<?> example = loader.loadClass("Example");
            String printed = printed(example);
            Check.due("the example prints <" + printed + ">", true, printed.equals(blocks.get(at + 1)));
            Method made = example.getDeclaredMethod("nation");
            made.setAccessible(true);
            nation = (TinNation) made.invoke(null);
        }
    }

    private static String printed(Class<?> example) throws Exception {
        PrintStream own = System.out;
        ByteArrayOutputStream bytes = new ByteArrayOutputStream();
        System.setOut(new PrintStream(bytes, true));
        try {
            example.getMethod("main", String[].class).invoke(null, (Object) new String[0]);
        } finally {
            System.setOut(own);
        }
        return bytes.toString().replace(System.lineSeparator(), "\n");
    }

    /** Every call of the face has its row, and its instances are so, from top to bottom. */
    private static void calls(String readme) throws Exception {
        Set<String> face = new TreeSet<>();
        for (Method method : TinNation.class.getDeclaredMethods()) {
            if (Modifier.isPublic(method.getModifiers())) {
                face.add(method.getName());
            }
        }
        Set<String> told = new TreeSet<>();
        int made = 0;
        for (Matcher row = ROW.matcher(readme); row.find(); ) {
            String name = row.group(1);
            Check.due("a row of " + name, true, told.add(name) && face.contains(name));
            Check.due("parameters of " + name, named(name).getParameterCount(), split(row.group(2)).length);
            Matcher instance = INSTANCE.matcher(row.group(4));
            int end = 0;
            boolean isOwn = false;
            while (instance.find() && instance.start() == end) {
                end = instance.end();
                isOwn |= instance.group(1).equals(name);
                instance(instance);
                made++;
            }
            Check.due("all instances of " + name + " can be read", row.group(4).length(), end);
            Check.due("one of them is of " + name, true, isOwn);
        }
        face.removeAll(told);
        Check.due("without a row: " + face, true, face.isEmpty());
        Check.due("no more than 512 calls: " + made, true, made <= 512);
    }

    private static void instance(Matcher instance) throws Exception {
        String due = instance.group(3).equals("is") ? instance.group(4).replace("NONE", "-1") : instance.group(4);
        String got = answer(instance.group(1), split(instance.group(2)));
        Check.due(instance.group() + ": it answered " + got, true, got.equals(due));
    }

    private static String answer(String name, String[] arguments) throws Exception {
        Method method = named(name);
        Object[] values = new Object[method.getParameterCount()];
        for (int i = 0; i < values.length && i < arguments.length; i++) {
            boolean isTruth = method.getParameterTypes()[i] == boolean.class;
            values[i] = isTruth ? (Object) Boolean.valueOf(arguments[i]) : (Object) Integer.valueOf(arguments[i]);
        }
        try {
            return String.valueOf(method.invoke(nation, values));
        } catch (InvocationTargetException e) {
            return e.getCause().getClass().getSimpleName();
        }
    }

    private static Method named(String name) {
        for (Method method : TinNation.class.getDeclaredMethods()) {
            if (method.getName().equals(name) && Modifier.isPublic(method.getModifiers())) {
                return method;
            }
        }
        throw new IllegalStateException("README.md names a call that is none of the face: " + name);
    }

    private static String[] split(String list) {
        return list.isEmpty() ? new String[0] : list.split(", ");
    }

    /** The tests that it lists are those that there are; the files that it names are there. */
    private static void tests(String readme) throws IOException {
        Set<String> told = new TreeSet<>();
        for (Matcher row = Pattern.compile("(?m)^\\| (\\w+Test) \\|").matcher(readme); row.find(); ) {
            told.add(row.group(1));
        }
        Set<String> there = new TreeSet<>();
        try (Stream<Path> files = Files.list(Path.of("src/test/java"))) {
            files.map(file -> file.getFileName().toString()).filter(name -> name.endsWith("Test.java"))
                    .forEach(name -> there.add(name.substring(0, name.length() - 5)));
        }
        Check.due("tests told " + told + ", there " + there, true, told.equals(there));
        for (Matcher file = Pattern.compile("`(Edge\\w+|Model\\.java)`").matcher(readme); file.find(); ) {
            String name = file.group(1).replace(".java", "") + ".java";
            Check.due(name + " is there", true, Files.exists(Path.of("src/test/java", name)));
        }
        Check.due(".ci/run can be run", true, Files.isExecutable(Path.of(".ci/run")));
    }

    private static void remove(Path folder) throws IOException {
        try (Stream<Path> files = Files.walk(folder)) {
            for (Path file : files.sorted((one, other) -> other.compareTo(one)).toList()) {
                Files.delete(file);
            }
        }
    }
}
