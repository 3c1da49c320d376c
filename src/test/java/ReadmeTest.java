import java.io.IOException;
import java.lang.invoke.MethodHandles;
import java.lang.reflect.Method;
import java.lang.reflect.Modifier;
import java.nio.file.Files;
import java.nio.file.Path;
import java.util.ArrayList;
import java.util.Comparator;
import java.util.List;
import java.util.Set;
import java.util.TreeSet;
import java.util.regex.Matcher;
import java.util.regex.Pattern;
import java.util.stream.Stream;

/**
 * What README.md says of the class's use is so: its Java is compiled as it stands there, and each line
 * "call; // number: .." becomes a call whose answer is due to be that number. It is run from the project's root.
 */
public final class ReadmeTest {
    private static final Due due = new Due();
    private static final Pattern SHOWN = Pattern.compile("\\s*(\\S.*);\\s*// (-?\\d+): .*");
    private static final Pattern TEXT = Pattern.compile("\\s*// \"(.*)\"");

    public static void main(String[] args) throws Exception {
        String page = Files.readString(Path.of("README.md"));
        String built = classOf(blocksOf(page));
        due.that("README.md shows calls", built.contains("due.is("));
        run(built);
        stepsCanBeRead(page);
        callsAreWhole(page);
        testsAreWhole(page);
        due.finish();
    }

    private static List<String> blocksOf(String page) {
        List<String> blocks = new ArrayList<>();
        Matcher m = Pattern.compile("(?s)```java\n(.*?)```").matcher(page);
        while (m.find()) {
            blocks.add(m.group(1));
        }
        return blocks;
    }

    /** A block with methods becomes part of the class, each other one a method of its own. */
    private static String classOf(List<String> blocks) {
        StringBuilder members = new StringBuilder();
        StringBuilder shows = new StringBuilder();
        int count = 0;
        for (String block : blocks) {
            if (block.startsWith("static ")) {
                members.append(block);
            } else {
                members.append("static void show").append(count).append("() {\n").append(bodyOf(block)).append("}\n");
                shows.append("show").append(count).append("();\n");
                count++;
            }
        }
        return "final class Shown {\nstatic Due due;\nstatic void all(Due given) {\ndue = given;\n" + shows + "}\n" + members
            + "}\n";
    }

    private static String bodyOf(String block) {
        StringBuilder body = new StringBuilder();
        String text = null;
        for (String line : block.split("\n")) {
            Matcher told = TEXT.matcher(line);
            Matcher shown = SHOWN.matcher(line);
            if (told.matches()) {
                text = told.group(1);
            } else if (shown.matches()) {
                body.append("due.is(").append(quoted("README.md: " + shown.group(1))).append(", ")
                    .append(shown.group(1)).append(", ").append(shown.group(2)).append("L);\n");
            } else {
                body.append(line).append('\n');
            }
        }
        if (text != null) {
            fedBytesAre(block, text);
        }
        return body.toString();
    }

    /** The numbers that a block feeds are the text that it names. */
    private static void fedBytesAre(String block, String text) {
        List<Integer> fed = new ArrayList<>();
        Matcher m = Pattern.compile("0x([0-9a-f]{8})").matcher(block);
        while (m.find()) {
            fed.add(Integer.parseUnsignedInt(m.group(1), 16));
        }
        int[] rows = Due.rows(text);
        due.is("numbers that README.md feeds", fed.size(), rows.length);
        for (int i = 0; i < Math.min(fed.size(), rows.length); i++) {
            due.is("README.md, number " + i + " that is fed", fed.get(i), rows[i]);
        }
    }

    private static String quoted(String text) {
        return "\"" + text.replace("\\", "\\\\").replace("\"", "\\\"") + "\"";
    }

    private static void run(String built) throws Exception {
        Path folder = Files.createTempDirectory("readme");
        try {
            Path source = folder.resolve("Shown.java");
            Files.writeString(source, built);
            Process javac = new ProcessBuilder("javac", "--release", "17", "-d", folder.toString(),
                "-cp", System.getProperty("java.class.path"), source.toString()).redirectErrorStream(true).start();
            String said = new String(javac.getInputStream().readAllBytes());
            boolean compiled = javac.waitFor() == 0;
            due.that("what README.md shows compiles: " + said, compiled);
            if (compiled) {
                call(folder);
            }
        } finally {
            remove(folder);
        }
    }

    private static void call(Path folder) throws Exception {
        // Due and its methods are seen inside their package alone, so this test's own loader must make the class.
        byte[] code = Files.readAllBytes(folder.resolve("Shown.class"));
        Class<?> shown = MethodHandles.lookup().defineClass(code);
        Method all = shown.getDeclaredMethod("all", Due.class);
        all.invoke(null, due);
    }

    private static void remove(Path folder) throws IOException {
        try (Stream<Path> within = Files.walk(folder)) {
            for (Path one : within.sorted(Comparator.reverseOrder()).toList()) {
                Files.delete(one);
            }
        }
    }

    private static void stepsCanBeRead(String page) {
        Matcher row = Pattern.compile("(?m)^\\| `([^`]*[;}])` \\|").matcher(page);
        int rows = 0;
        while (row.find()) {
            String step = row.group(1).replace("AMOUNT", "2*a*b+double c").replace("..", "spend 1;");
            due.good("def f { spend 1; } " + step);
            rows++;
        }
        due.is("README.md, rows of steps", rows, 6);
    }

    private static void callsAreWhole(String page) {
        for (Method m : UsedUp.class.getDeclaredMethods()) {
            if (Modifier.isPublic(m.getModifiers())) {
                Matcher row = Pattern.compile("(?m)^\\| `" + m.getName() + "\\(([^)]*)\\)` \\|").matcher(page);
                boolean told = row.find();
                due.that("README.md has a row for " + m.getName(), told);
                if (told) {
                    int parameters = row.group(1).isEmpty() ? 0 : row.group(1).split(",").length;
                    due.is("README.md, parameters of " + m.getName(), parameters, m.getParameterCount());
                }
            }
        }
    }

    private static void testsAreWhole(String page) throws IOException {
        Set<String> told = new TreeSet<>();
        Matcher row = Pattern.compile("(?m)^\\| (\\w+Test) \\|").matcher(page);
        while (row.find()) {
            told.add(row.group(1) + ".java");
        }
        Set<String> there = new TreeSet<>();
        try (Stream<Path> files = Files.list(Path.of("src/test/java"))) {
            files.map(f -> f.getFileName().toString()).filter(f -> f.endsWith("Test.java")).forEach(there::add);
        }
        due.that("README.md tells of the tests that there are: " + there, told.equals(there));
    }
}
