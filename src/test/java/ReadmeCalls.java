import java.io.IOException;
import java.lang.reflect.Method;
import java.lang.reflect.Modifier;
import java.net.URL;
import java.net.URLClassLoader;
import java.nio.file.Files;
import java.nio.file.Path;
import java.util.ArrayList;
import java.util.Comparator;
import java.util.HashSet;
import java.util.List;
import java.util.Set;
import java.util.TreeSet;
import java.util.regex.Matcher;
import java.util.regex.Pattern;
import java.util.stream.Stream;
import javax.tools.JavaCompiler;
import javax.tools.ToolProvider;

/** README.md holds as it stands: its Java answers what it says, its commands work, no call and no test is missing. */
public final class ReadmeCalls {
    private static final Pattern CALL = Pattern.compile("(\\w[\\w.]*\\(.*\\));\\s*// (true|false|NONE(?: - [0-9]+)?|-?[0-9]+)(?:$|[:;,] .*)");
    private static final Pattern TEST = Pattern.compile("`([A-Z]\\w+)`(?=[,:])");
    private static final String HEAD = "public final class ReadmeProgram {\n"
            + "    private static final int NONE = HearsayOrchestra.NONE;\n"
            + "    private static int answers = 0;\n"
            + "    private static int wrong = 0;\n"
            + "    private static void due(String call, Object got, Object want) {\n"
            + "        answers++;\n"
            + "        if (!got.equals(want)) {\n"
            + "            wrong++;\n"
            + "            System.out.println(\"README.md: \" + call + \" answered \" + got + \", there it is \" + want);\n"
            + "        }\n"
            + "    }\n";
    private static int wrong = 0;

    private static void no(boolean broken, String what) {
        if (broken) {
            wrong++;
            System.out.println("README.md: " + what);
        }
    }

    /** What stands between two fences, of which the first names the language. */
    private static List<List<String>> blocks(List<String> lines, String language) {
        List<List<String>> blocks = new ArrayList<>();
        List<String> block = null;
        for (String line : lines) {
            if (line.equals("```" + language)) {
                block = new ArrayList<>();
                blocks.add(block);
            } else if (line.startsWith("```")) {
                block = null;
            } else if (block != null) {
                block.add(line);
            }
        }
        return blocks;
    }

    /** The program as it stands, and the same with each call that has an answer behind it asked for it. */
    private static String program(List<List<String>> blocks, boolean asked) {
        StringBuilder methods = new StringBuilder(asked ? HEAD : "public final class ReadmePlain {\n");
        StringBuilder main = new StringBuilder("    public static void main(String[] args) {\n");
        for (List<String> block : blocks) {
            boolean isMethod = block.get(0).startsWith("static ");
            for (String line : block) {
                Matcher call = CALL.matcher(line);
                String told = line;
                if (asked && call.matches()) {
                    String text = call.group(1);
                    told = "due(\"" + text.replace("\\", "\\\\").replace("\"", "\\\"") + "\", " + text + ", " + call.group(2) + ");";
                }
                (isMethod ? methods : main).append("        ").append(told).append('\n');
            }
        }
        if (asked) {
            main.append("        System.out.println(answers + \" answers of README.md, \" + wrong + \" not as due\");\n");
            main.append("        if (wrong != 0) {\n            System.exit(1);\n        }\n");
        }
        return methods.append(main).append("    }\n}\n").toString();
    }

    /** Each call of the blocks has an answer behind it, and each call of the face is among them and in the table. */
    private static void calls(List<String> readme, List<List<String>> blocks) {
        Set<String> shown = new HashSet<>();
        int answered = 0;
        for (List<String> block : blocks) {
            for (String line : block) {
                Matcher call = CALL.matcher(line);
                boolean isCall = line.startsWith("x.") || line.startsWith("feed(");
                no(isCall && !call.matches(), "there is no answer behind " + line);
                answered += call.matches() ? 1 : 0;
                Matcher name = Pattern.compile("\\bx\\.(\\w+)\\(").matcher(line);
                while (name.find()) {
                    shown.add(name.group(1));
                }
            }
        }
        no(answered < 100, "few calls have an answer: " + answered);
        for (Method m : HearsayOrchestra.class.getDeclaredMethods()) {
            if (Modifier.isPublic(m.getModifiers())) {
                no(!shown.contains(m.getName()), "the call is not shown: " + m.getName());
                String row = "| `" + m.getName() + "(";
                long rows = readme.stream().filter(line -> line.startsWith(row)).count();
                no(rows != 1, "the table has the call " + rows + " times: " + m.getName());
                readme.stream().filter(line -> line.startsWith(row)).forEach(line -> parameters(m, line));
            }
        }
    }

    private static void parameters(Method m, String row) {
        String told = row.replaceAll("^\\| `\\w+\\((.*?)\\)`.*", "$1");
        int many = told.isEmpty() ? 0 : told.split(", ").length;
        no(many != m.getParameterCount(), "the call has " + m.getParameterCount() + " numbers: " + row);
    }

    private static void compileAndRun(Path folder, String name, String source) throws Exception {
        Path file = folder.resolve(name + ".java");
        Files.writeString(file, source);
        JavaCompiler compiler = ToolProvider.getSystemJavaCompiler();
        int failed = compiler.run(null, null, null, "-d", folder.toString(), "-cp", System.getProperty("java.class.path"), file.toString());
        no(failed != 0, "its Java is none");
        if (failed == 0) {
            try (URLClassLoader loader = new URLClassLoader(new URL[] {folder.toUri().toURL()})) {
                loader.loadClass(name).getMethod("main", String[].class).invoke(null, (Object) new String[0]);
            }
        }
    }

    /** The commands, but for the one that runs this test itself; what they make goes to another folder. */
    private static void commands(Path root, Path folder, List<List<String>> blocks) throws Exception {
        int run = 0;
        for (List<String> block : blocks) {
            for (String line : block) {
                if (line.equals(".ci/run")) {
                    no(!Files.isExecutable(root.resolve(line)), "there is no " + line);
                    continue;
                }
                String command = line.replaceAll("(?<= )out(?= )", folder.toString());
                Process process = new ProcessBuilder("sh", "-c", command).directory(root.toFile()).redirectErrorStream(true).start();
                String told = new String(process.getInputStream().readAllBytes());
                no(process.waitFor() != 0, line + " fails: " + told);
                run++;
            }
        }
        no(run == 0, "there are no commands");
    }

    /** The tests that are there are named, and those that are named are there. */
    private static void tests(Path root, List<String> readme) throws IOException {
        Set<String> there = new TreeSet<>();
        try (Stream<Path> files = Files.list(root.resolve("src/test/java"))) {
            files.forEach(file -> there.add(file.getFileName().toString().replace(".java", "")));
        }
        Set<String> named = new TreeSet<>();
        for (String line : readme) {
            Matcher test = TEST.matcher(line.startsWith("- ") ? line : "");
            while (test.find()) {
                named.add(test.group(1));
            }
        }
        no(!there.equals(named), "it names the tests " + named + ", there are " + there);
        for (String path : List.of("src/main/java/HearsayOrchestra.java", "src/test/support", "../shared/tests", "../shared/DOC.md", "../shared/LANGUAGE.md")) {
            no(!String.join("\n", readme).contains(path) || !Files.exists(root.resolve(path)), "it does not lead to " + path);
        }
    }

    private static void delete(Path folder) throws IOException {
        try (Stream<Path> files = Files.walk(folder)) {
            for (Path file : files.sorted(Comparator.reverseOrder()).toList()) {
                Files.delete(file);
            }
        }
    }

    public static void main(String[] args) throws Exception {
        Path root = Path.of(args.length > 0 ? args[0] : ".");
        List<String> readme = Files.readAllLines(root.resolve("README.md"));
        Path folder = Files.createTempDirectory("readme");
        List<List<String>> java = blocks(readme, "java");
        calls(readme, java);
        tests(root, readme);
        commands(root, folder, blocks(readme, "sh"));
        compileAndRun(folder, "ReadmePlain", program(java, false));
        compileAndRun(folder, "ReadmeProgram", program(java, true));
        delete(folder);
        System.out.println(wrong + " things of README.md do not hold");
        if (wrong != 0) {
            System.exit(1);
        }
    }
}
