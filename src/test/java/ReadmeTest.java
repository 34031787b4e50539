import java.io.ByteArrayOutputStream;
import java.io.PrintStream;
import java.lang.reflect.Method;
import java.net.URL;
import java.net.URLClassLoader;
import java.nio.file.Files;
import java.nio.file.Path;
import java.util.ArrayList;
import java.util.Comparator;
import java.util.List;
import java.util.TreeSet;
import java.util.regex.Matcher;
import java.util.regex.Pattern;
import java.util.stream.Stream;
import javax.tools.ToolProvider;

/** What README.md says: its program compiles and prints what stands beside its lines, and its tables hold. */
final class ReadmeTest {
    static void run(Check c, String readme) throws Exception {
        example(c, readme);
        exceptions(c, readme);
        reasons(c, readme);
        commands(c, readme);
    }

    // ---- the program

    private static void example(Check c, String readme) throws Exception {
        Matcher block = Pattern.compile("(?s)```java\n(.*?)```").matcher(readme);
        c.due("README: a program", true, block.find());
        String program = block.group(1);
        c.due("README: another program", false, block.find());
        Path folder = Files.createTempDirectory("readme");
        try {
            Path file = Files.writeString(folder.resolve("Example.java"), program);
            int code = ToolProvider.getSystemJavaCompiler().run(null, null, null, "-Xlint:all", "-Werror", "-cp",
                System.getProperty("java.class.path"), "-d", folder.toString(), file.toString());
            c.due("README: exit code of the compiler", 0, code);
            if (code == 0) {
                c.due("README: what the program prints", saidToPrint(program), printed(folder));
            }
        } finally {
            remove(folder);
        }
    }

    private static List<String> saidToPrint(String program) {
        List<String> said = new ArrayList<>();
        for (String line : program.split("\n")) {
            if (line.contains("println")) {
                said.add(line.replaceFirst(".*; +// ([^,]*).*", "$1"));
            }
        }
        return said;
    }

    private static List<String> printed(Path folder) throws Exception {
        PrintStream usual = System.out;
        ByteArrayOutputStream bytes = new ByteArrayOutputStream();
        try (URLClassLoader loader = new URLClassLoader(new URL[] {folder.toUri().toURL()})) {
            System.setOut(new PrintStream(bytes, true));
            loader.loadClass("Example").getMethod("main", String[].class).invoke(null, (Object) new String[0]);
        } finally {
            System.setOut(usual);
        }
        return bytes.toString().lines().toList();
    }

    private static void remove(Path folder) throws Exception {
        try (Stream<Path> paths = Files.walk(folder)) {
            for (Path path : paths.sorted(Comparator.reverseOrder()).toList()) {
                Files.delete(path);
            }
        }
    }

    // ---- the tables

    /** The cells of each row, without the signs for code. */
    private static List<String[]> table(String readme, String heading) {
        List<String[]> rows = new ArrayList<>();
        int start = readme.indexOf(heading);
        String[] lines = start < 0 ? new String[0] : readme.substring(start).split("\n");
        for (int i = 2; i < lines.length && lines[i].startsWith("|"); i++) {
            rows.add(lines[i].replace("`", "").replaceFirst("^\\| ", "").split(" \\| | \\|$"));
        }
        return rows;
    }

    private static void exceptions(Check c, String readme) {
        TreeSet<String> thrown = new TreeSet<>();
        for (Method method : CutleryOrchestra.class.getMethods()) {
            for (Class<?> type : method.getExceptionTypes()) {
                if (method.getDeclaringClass() == CutleryOrchestra.class) {
                    thrown.add(type.getSimpleName());
                }
            }
        }
        TreeSet<String> said = new TreeSet<>();
        for (String[] row : table(readme, "| Exception |")) {
            said.add(row[0]);
        }
        c.due("README: exceptions", thrown, said);
    }

    private static void reasons(Check c, String readme) throws Exception {
        List<String[]> rows = table(readme, "| Reason |");
        c.due("README: reasons", 9, rows.size());
        for (String[] row : rows) {
            int value = CutleryOrchestra.class.getField(row[0]).getInt(null);
            c.due("README: " + row[0], row[1], String.valueOf(value));
        }
    }

    private static CutleryOrchestra forCommands() {
        CutleryOrchestra x = Check.withParts(3);
        x.addNote(0, 5, 1);
        x.setCue(1, 2);
        return x;
    }

    private static void commands(Check c, String readme) throws Exception {
        List<String[]> rows = table(readme, "| Command |");
        c.due("README: commands", 11, rows.size());
        String before = States.told(forCommands());
        for (String[] row : rows) {
            CutleryOrchestra commanded = forCommands();
            c.due("README: " + row[0], 1, Check.run(commanded, row[0]));
            CutleryOrchestra called = forCommands();
            call(called, row[1]);
            c.due("README: " + row[0] + " does something", false, before.equals(States.told(called)));
            c.due("README: " + row[0] + " does the same", States.told(called), States.told(commanded));
        }
    }

    /** Calls what is written so: "setTuning(0, 3, 2)". */
    private static void call(CutleryOrchestra x, String written) throws Exception {
        String[] words = written.split("[(), ]+");
        Class<?>[] types = new Class<?>[words.length - 1];
        Object[] arguments = new Object[words.length - 1];
        for (int i = 0; i < arguments.length; i++) {
            types[i] = int.class;
            arguments[i] = Integer.valueOf(words[i + 1]);
        }
        CutleryOrchestra.class.getMethod(words[0], types).invoke(x, arguments);
    }
}
