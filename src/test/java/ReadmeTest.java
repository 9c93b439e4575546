import java.io.File;
import java.io.IOException;
import java.lang.management.ManagementFactory;
import java.lang.reflect.Method;
import java.lang.reflect.Modifier;
import java.net.URL;
import java.net.URLClassLoader;
import java.nio.file.Files;
import java.nio.file.Path;
import java.util.Set;
import java.util.TreeSet;
import java.util.regex.Matcher;
import java.util.regex.Pattern;
import javax.tools.ToolProvider;

/** README.md, held against the class and the tests as they stand. */
public final class ReadmeTest {
    private static final int MARK = 0x6d61726b;
    private static final Path TESTS = Path.of("src", "test", "java");

    private final Check check = new Check("ReadmeTest");
    private final String readme;

    private ReadmeTest(String readme) {
        this.readme = readme;
    }

    public static void main(String[] args) throws Exception {
        ReadmeTest test = new ReadmeTest(Files.readString(Path.of("README.md")));
        test.exampleRuns();
        test.callsAreNamed();
        test.classesAreNamed();
        test.testsAreNamed();
        test.onlyTheConstructorMakesObjects();
        test.check.end();
    }

    private void exampleRuns() throws Exception {
        Path made = Files.createTempDirectory("readme");
        Path source = made.resolve("Example.java");
        try {
            Files.writeString(source, "public final class Example {\n"
                    + "public static int[] run(int[] words) {\n" + block("java")
                    + "return new int[] {lookups, glyphs, right, on};\n}\n}\n");
            int failed = ToolProvider.getSystemJavaCompiler().run(null, null, null,
                    "-cp", System.getProperty("java.class.path"), "-d", made.toString(),
                    source.toString());
            check.due("the example does not compile", failed, 0);
            if (failed == 0) {
                int[] got = run(made, words(markFont()));
                check.due("example: lookups", got[0], 1);
                check.due("example: glyphs", got[1], 2);
                check.due("example: right", got[2], 250 - 20 - 600);
                check.due("example: on", got[3], 0);
            }
        } finally {
            remove(made);
        }
    }

    /** What stands in the first block of a language. */
    private String block(String language) {
        Matcher block = Pattern.compile("```" + language + "\n(.*?)```", Pattern.DOTALL)
                .matcher(readme);
        check.due("a block of " + language, block.find() ? 1 : 0, 1);
        return block.group(1);
    }

    private static int[] run(Path made, int[] words) throws Exception {
        URL[] places = {made.toUri().toURL()};
        try (URLClassLoader loader = new URLClassLoader(places)) {
            return (int[]) loader.loadClass("Example").getMethod("run", int[].class)
                    .invoke(null, (Object) words);
        }
    }

    private static void remove(Path directory) {
        File[] files = directory.toFile().listFiles();
        for (File file : files == null ? new File[0] : files) {
            file.delete();
        }
        directory.toFile().delete();
    }

    /** The font of the example: mark 60 stands on base 50, under latn and the feature mark. */
    private static byte[] markFont() {
        Part subtable = Fonts.marksOn(Fonts.covers(60), Fonts.covers(50), 1,
                Fonts.marks(0, Fonts.anchor(20, 0)), Fonts.bases(1, Fonts.anchor(250, 700)));
        Part scripts = Fonts.tagged(new Part(), Fonts.LATN,
                Fonts.script(Fonts.language(65535, 0), MARK, Fonts.language(65535)));
        return Fonts.head(scripts, Fonts.tagged(new Part(), MARK, Fonts.feature(0)),
                Fonts.lookups(Fonts.lookup(4, 0, subtable))).bytes();
    }

    private static int[] words(byte[] bytes) {
        int[] words = new int[(bytes.length + 3) / 4];
        for (int i = 0; i < bytes.length; i++) {
            words[i / 4] |= (bytes[i] & 255) << 24 - 8 * (i % 4);
        }
        return words;
    }

    /** Each call has a row of the table, with the exceptions that its face lists. */
    private void callsAreNamed() {
        int calls = 0;
        for (Method method : GlyphPositions.class.getDeclaredMethods()) {
            if (Modifier.isPublic(method.getModifiers())) {
                calls++;
                Matcher row = Pattern.compile("(?m)^\\| `" + method.getName() + "\\(.*\\|(.*)\\|$")
                        .matcher(readme);
                boolean found = row.find();
                check.due("a row for " + method.getName(), found ? 1 : 0, 1);
                check.due("what " + method.getName() + " throws", found
                        && namesIn(row.group(1)).equals(thrownBy(method)) ? 1 : 0, 1);
            }
        }
        check.due("rows of calls", count("(?m)^\\| `"), calls);
    }

    private static Set<String> thrownBy(Method method) {
        Set<String> names = new TreeSet<>();
        for (Class<?> thrown : method.getExceptionTypes()) {
            names.add(thrown.getSimpleName());
        }
        return names;
    }

    private static Set<String> namesIn(String text) {
        Set<String> names = new TreeSet<>();
        Matcher name = Pattern.compile("`([A-Z][A-Za-z]*)`").matcher(text);
        while (name.find()) {
            names.add(name.group(1));
        }
        return names;
    }

    private int count(String pattern) {
        Matcher found = Pattern.compile(pattern).matcher(readme);
        int many = 0;
        while (found.find()) {
            many++;
        }
        return many;
    }

    private String section(String heading) {
        int from = readme.indexOf("## " + heading);
        int end = readme.indexOf("\n## ", from + 1);
        check.due("a section " + heading, from >= 0 ? 1 : 0, 1);
        return readme.substring(Math.max(from, 0), end < 0 ? readme.length() : end);
    }

    private void classesAreNamed() {
        Set<String> classes = new TreeSet<>();
        for (Class<?> inside : GlyphPositions.class.getDeclaredClasses()) {
            classes.add(inside.getSimpleName());
        }
        Set<String> named = namesIn(section("How it is built"));
        check.due("the classes are " + classes + ", named are " + named,
                named.equals(classes) ? 1 : 0, 1);
    }

    private void testsAreNamed() throws IOException {
        Set<String> tests = new TreeSet<>();
        try (var files = Files.list(TESTS)) {
            files.forEach(file -> tests.add(file.getFileName().toString().replace(".java", "")));
        }
        Set<String> named = namesIn(section("How to run its tests"));
        check.due("the tests are " + tests + ", named are " + named,
                named.equals(tests) ? 1 : 0, 1);
    }

    private void onlyTheConstructorMakesObjects() {
        var threads = (com.sun.management.ThreadMXBean) ManagementFactory.getThreadMXBean();
        GlyphPositions x = new GlyphPositions();
        int[] words = words(markFont());
        long least = Long.MAX_VALUE;
        for (int round = 0; round < 50; round++) {
            long before = threads.getCurrentThreadAllocatedBytes();
            everyCall(x, words);
            // The first rounds may make what the machine itself needs.
            least = Math.min(least, threads.getCurrentThreadAllocatedBytes() - before);
        }
        check.due("bytes made by calls, in the best round", least, 0);
    }

    private static void everyCall(GlyphPositions x, int[] words) {
        x.cut(0);
        for (int word : words) {
            x.feed(word);
        }
        x.put(0, 255);
        x.load();
        x.put(0, 0);
        x.load();
        x.forget();
        x.kind(60, 61, 3, 1);
        x.choose(Fonts.LATN, 0);
        x.feature(MARK, true);
        x.clear();
        x.add(50, 600, 0);
        x.add(60, 0, 0);
        x.set(true);
        x.set(false);
        for (int what = 0; what <= 5; what++) {
            x.place(1, what);
        }
    }
}
