import java.io.File;
import java.lang.reflect.Method;
import java.lang.reflect.Modifier;
import java.net.URL;
import java.net.URLClassLoader;
import java.nio.file.Files;
import java.nio.file.Path;
import java.util.regex.Matcher;
import java.util.regex.Pattern;
import javax.tools.ToolProvider;

/** README.md: its example answers as it says there, and it has each call of the class and each file of the tests. */
public final class ReadmeTests {
    private static final Path PAGE = Path.of("README.md");
    private static final Pattern BLOCK = Pattern.compile("```java\n(.*?)```", Pattern.DOTALL);
    private static final Pattern ANSWERED =
            Pattern.compile("^\\s*(?:int (\\w+) = )?(office\\.(\\w+)\\(.*\\)); *// -> (-?\\d+|true|false)(\\s.*)?$");
    private static int asked;
    private static int wrong;

    /** The example calls this for each answer that it tells. */
    public static void due(String call, Object got, Object want) {
        asked++;
        tell(got.equals(want), call + " answered " + got + ", README.md says " + want);
    }

    private static void tell(boolean so, String what) {
        if (!so) {
            wrong++;
            System.out.println(what);
        }
    }

    /** The example with a question in the place of each line that tells an answer. */
    private static String asking(String example) {
        StringBuilder out = new StringBuilder();
        for (String line : example.split("\n")) {
            Matcher told = ANSWERED.matcher(line);
            boolean isTold = told.matches();
            tell(isTold || !line.contains("->"), "an answer that isn't looked at: " + line);
            if (!isTold) {
                out.append(line).append('\n');
                continue;
            }
            String got = told.group(1) == null ? told.group(2) : told.group(1);
            if (told.group(1) != null) {
                out.append("int ").append(got).append(" = ").append(told.group(2)).append(";\n");
            }
            out.append("ReadmeTests.due(\"").append(told.group(2)).append("\", ").append(got).append(", ")
                    .append(told.group(4)).append(");\n");
        }
        return out.toString();
    }

    private static void runExample(String page) throws Exception {
        Matcher block = BLOCK.matcher(page);
        tell(block.find(), "README.md has no example");
        Path place = Files.createTempDirectory("readme");
        try {
            Path file = place.resolve("Example.java");
            Files.writeString(file, asking(block.group(1)));
            String classes = System.getProperty("java.class.path");
            int failed = ToolProvider.getSystemJavaCompiler().run(null, null, null, "-proc:none", "-cp", classes, "-d",
                    place.toString(), file.toString());
            tell(failed == 0, "the example can't be compiled");
            try (URLClassLoader loader = new URLClassLoader(new URL[] {place.toUri().toURL()})) {
                loader.loadClass("Example").getMethod("main", String[].class).invoke(null, (Object) new String[0]);
            }
        } finally {
            for (File left : place.toFile().listFiles()) {
                left.delete();
            }
            Files.delete(place);
        }
        tell(asked >= 30, "the example tells " + asked + " answers alone");
    }

    /** Each call has its row, with as many arguments as it takes. */
    private static void callsAreThere(String page) {
        for (Method call : WarrantWeather.class.getDeclaredMethods()) {
            if (Modifier.isPublic(call.getModifiers())) {
                int count = call.getParameterCount();
                String arguments = count == 0 ? "" : "\\w+" + ", \\w+".repeat(count - 1);
                Pattern row = Pattern.compile("^\\| `" + call.getName() + "\\(" + arguments + "\\)` \\|", Pattern.MULTILINE);
                tell(row.matcher(page).find(), "README.md has no row for " + call.getName());
            }
        }
    }

    private static void testsAreThere(String page) {
        File[] files = new File("src/test/java").listFiles();
        tell(files != null && files.length > 0, "there are no tests");
        for (File file : files == null ? new File[0] : files) {
            tell(page.contains("`" + file.getName() + "`") || page.contains("`src/test/java/" + file.getName() + "`"),
                    "README.md doesn't tell of " + file.getName());
        }
        for (String way : new String[] {".ci/run", "../shared/tests", "../shared/DOC.md", "src/main/java/WarrantWeather.java"}) {
            tell(page.contains(way), "README.md doesn't tell of " + way);
        }
    }

    public static void main(String[] args) throws Exception {
        String page = Files.readString(PAGE);
        runExample(page);
        callsAreThere(page);
        testsAreThere(page);
        System.out.println(asked + " answers of README.md, " + wrong + " things not as due");
        if (wrong != 0) {
            System.exit(1);
        }
    }
}
