import java.io.ByteArrayOutputStream;
import java.io.IOException;
import java.io.OutputStream;
import java.io.PrintStream;
import java.lang.reflect.InvocationTargetException;
import java.net.URI;
import java.nio.charset.StandardCharsets;
import java.nio.file.Files;
import java.nio.file.Path;
import java.util.ArrayList;
import java.util.HashMap;
import java.util.List;
import java.util.Map;
import java.util.concurrent.ExecutorService;
import java.util.concurrent.Executors;
import java.util.concurrent.Future;
import java.util.regex.Matcher;
import java.util.regex.Pattern;
import javax.tools.FileObject;
import javax.tools.ForwardingJavaFileManager;
import javax.tools.JavaCompiler;
import javax.tools.JavaFileManager;
import javax.tools.JavaFileObject;
import javax.tools.SimpleJavaFileObject;
import javax.tools.StandardJavaFileManager;
import javax.tools.ToolProvider;

/**
 * Breaks the class in one spot at a time and runs tests over it: a change that
 * no test tells is printed. It tests the tests, so .ci/run does not run it.
 *
 *   java tools/Mutants.java TermsEdgeTest PromiseEdgeTest RefusedTest
 */
public final class Mutants {
    private static final Path SOURCE = Path.of("src/main/java/UsedUp.java");
    private static final long PATIENCE_MILLIS = 20000;
    /** What stands there, and what is put in its stead. */
    private static final String[][] SWAPS = {
        {" <= ", " < "}, {" >= ", " > "}, {" < ", " <= "}, {" > ", " >= "}, {" == ", " != "}, {" != ", " == "},
        {" && ", " || "}, {" || ", " && "}, {" \\+ ", " - "}, {" - ", " + "}, {"\\+\\+;", "--;"}, {"--;", "++;"},
        {"Math\\.min", "Math.max"}, {"Math\\.max", "Math.min"}, {"\\btrue\\b", "false"}, {"\\bfalse\\b", "true"},
        {"!(?=[a-z(])", ""}, {"\\bcontinue;", "break;"}, {"\\bbreak;", ""}, {" & ~", " & "}, {" \\| ", " & "},
        {"\\|= ", "= "}, {"\\+= ", "= "}, {" \\* ", " + "}, {" % ", " / "}, {"BAD_NUMBER", "BAD_TEXT"},
        {"BAD_TEXT", "BAD_NUMBER"}, {"NO_PLACE", "BAD_TEXT"}, {"NO_SPACE", "BAD_NUMBER"}};

    private record Mutant(int line, String before, String after, String source) {
    }

    private static final class Bytes extends SimpleJavaFileObject {
        final ByteArrayOutputStream out = new ByteArrayOutputStream();
        private final String text;

        Bytes(String name, Kind kind, String text) {
            super(URI.create("memory:///" + name + kind.extension), kind);
            this.text = text;
        }

        @Override
        public CharSequence getCharContent(boolean ignoreEncodingErrors) {
            return text;
        }

        @Override
        public OutputStream openOutputStream() {
            return out;
        }
    }

    private static final class Memory extends ForwardingJavaFileManager<JavaFileManager> {
        final Map<String, Bytes> made = new HashMap<>();

        Memory(JavaFileManager under) {
            super(under);
        }

        @Override
        public JavaFileObject getJavaFileForOutput(Location at, String name, JavaFileObject.Kind kind, FileObject sibling) {
            Bytes bytes = new Bytes(name, kind, null);
            made.put(name, bytes);
            return bytes;
        }
    }

    private static final class Loader extends ClassLoader {
        private final Map<String, Bytes> classes;

        Loader(Map<String, Bytes> classes) {
            super(ClassLoader.getPlatformClassLoader());
            this.classes = classes;
        }

        @Override
        protected Class<?> findClass(String name) throws ClassNotFoundException {
            Bytes bytes = classes.get(name);
            if (bytes == null) {
                throw new ClassNotFoundException(name);
            }
            byte[] code = bytes.out.toByteArray();
            return defineClass(name, code, 0, code.length);
        }
    }

    public static void main(String[] args) throws Exception {
        String source = Files.readString(SOURCE);
        Map<String, Bytes> tests = compiled(testSources());
        PrintStream out = System.out;
        System.setOut(new PrintStream(OutputStream.nullOutputStream()));
        String sound = verdict(compiled(List.of(new Bytes("UsedUp", JavaFileObject.Kind.SOURCE, source))), tests, args);
        if (sound != null) {
            out.println("the tests fail on the class as it stands: " + sound);
            System.exit(1);
        }
        List<Mutant> mutants = mutantsOf(source);
        ExecutorService pool = Executors.newFixedThreadPool(Runtime.getRuntime().availableProcessors());
        List<Future<String>> verdicts = new ArrayList<>();
        for (Mutant mutant : mutants) {
            verdicts.add(pool.submit(() -> tried(mutant, tests, args)));
        }
        int alive = 0;
        int wild = 0;
        for (int i = 0; i < mutants.size(); i++) {
            String verdict = verdicts.get(i).get();
            wild += "does not compile".equals(verdict) ? 1 : 0;
            if (verdict == null) {
                alive++;
                Mutant mutant = mutants.get(i);
                out.println(mutant.line() + ": " + mutant.before().trim() + "\n      -> " + mutant.after().trim());
            }
        }
        out.println(mutants.size() - wild + " changes, " + alive + " of them not told by " + String.join(", ", args));
        System.exit(0);
    }

    private static List<Bytes> testSources() throws IOException {
        List<Bytes> all = new ArrayList<>();
        all.add(new Bytes("UsedUp", JavaFileObject.Kind.SOURCE, Files.readString(SOURCE)));
        try (var paths = Files.list(Path.of("src/test/java"))) {
            for (Path path : paths.toList()) {
                String name = path.getFileName().toString().replace(".java", "");
                all.add(new Bytes(name, JavaFileObject.Kind.SOURCE, Files.readString(path)));
            }
        }
        return all;
    }

    private static Map<String, Bytes> compiled(List<Bytes> sources) {
        JavaCompiler compiler = ToolProvider.getSystemJavaCompiler();
        StandardJavaFileManager standard = compiler.getStandardFileManager(null, null, StandardCharsets.UTF_8);
        Memory memory = new Memory(standard);
        boolean fine = compiler.getTask(new java.io.StringWriter(), memory, d -> { }, List.of("-proc:none"), null, sources).call();
        return fine ? memory.made : null;
    }

    private static String tried(Mutant mutant, Map<String, Bytes> tests, String[] names) throws InterruptedException {
        Map<String, Bytes> classes = compiled(List.of(new Bytes("UsedUp", JavaFileObject.Kind.SOURCE, mutant.source())));
        if (classes == null) {
            return "does not compile";
        }
        String[] verdict = {"does not end"};
        Thread thread = new Thread(() -> verdict[0] = verdict(classes, tests, names));
        thread.setDaemon(true);
        thread.start();
        thread.join(PATIENCE_MILLIS);
        return verdict[0];
    }

    /** What tells the change; null if nothing does. */
    private static String verdict(Map<String, Bytes> classes, Map<String, Bytes> tests, String[] names) {
        Map<String, Bytes> all = new HashMap<>(tests);
        all.keySet().removeIf(name -> name.equals("UsedUp") || name.startsWith("UsedUp$"));
        all.putAll(classes);
        for (String name : names) {
            try {
                var main = new Loader(all).loadClass(name).getDeclaredMethod("main", String[].class);
                main.setAccessible(true);
                main.invoke(null, (Object) new String[0]);
            } catch (InvocationTargetException e) {
                return name + ": " + e.getCause();
            } catch (ReflectiveOperationException e) {
                throw new IllegalArgumentException("no such test: " + name, e);
            }
        }
        return null;
    }

    private static List<Mutant> mutantsOf(String source) {
        List<Mutant> all = new ArrayList<>();
        String[] lines = source.split("\n", -1);
        boolean comment = false;
        for (int i = 0; i < lines.length; i++) {
            String line = lines[i];
            String bare = line.trim();
            comment |= bare.startsWith("/*");
            boolean code = !comment && !bare.startsWith("//") && !bare.isEmpty();
            comment &= !bare.endsWith("*/");
            if (!code) {
                continue;
            }
            for (String[] swap : SWAPS) {
                Matcher m = Pattern.compile(swap[0]).matcher(line);
                while (m.find()) {
                    add(all, lines, i, line.substring(0, m.start()) + swap[1] + line.substring(m.end()));
                }
            }
            numbers(all, lines, i);
            drops(all, lines, i);
        }
        return all;
    }

    private static void numbers(List<Mutant> all, String[] lines, int i) {
        String line = lines[i];
        Matcher m = Pattern.compile("(?<![\\w.])\\d+(?=L?\\b)").matcher(line);
        while (m.find()) {
            long number = Long.parseLong(m.group());
            for (long other : new long[] {number + 1, number - 1}) {
                add(all, lines, i, line.substring(0, m.start()) + other + line.substring(m.end()));
            }
        }
        Matcher used = Pattern.compile("(?<=[ (\\[])(MAX_\\w+|NAMES|LOCK_COUNT|FED_BYTES|FIRST_ABOVE_MUCH|NONE|MUCH)\\b(?! =)").matcher(line);
        while (used.find()) {
            for (String other : new String[] {" + 1", " - 1"}) {
                add(all, lines, i, line.substring(0, used.start()) + "(" + used.group() + other + ")" + line.substring(used.end()));
            }
        }
        Matcher sign = Pattern.compile("'(.)'").matcher(line);
        while (sign.find()) {
            for (int step = -1; step <= 1; step += 2) {
                char other = (char) (sign.group(1).charAt(0) + step);
                add(all, lines, i, line.substring(0, sign.start()) + "'" + other + "'" + line.substring(sign.end()));
            }
        }
    }

    /** Leaves a line out, or makes a test of it always so or never. */
    private static void drops(List<Mutant> all, String[] lines, int i) {
        String line = lines[i];
        String bare = line.trim();
        if (bare.matches("[a-z][\\w.\\[\\]]*(\\(.*\\)| [-+|&]?= .*|\\+\\+|--);")) {
            add(all, lines, i, "");
        }
        Matcher test = Pattern.compile("^(\\s*(?:\\} else )?if \\()(.*)(\\) \\{)$").matcher(line);
        if (test.matches()) {
            for (String other : new String[] {"Boolean.parseBoolean(\"true\") || ", "Boolean.parseBoolean(\"false\") && "}) {
                add(all, lines, i, test.group(1) + other + "(" + test.group(2) + ")" + test.group(3));
            }
        }
    }

    private static void add(List<Mutant> all, String[] lines, int i, String after) {
        String before = lines[i];
        lines[i] = after;
        all.add(new Mutant(i + 1, before, after, String.join("\n", lines)));
        lines[i] = before;
    }
}
