import java.nio.charset.StandardCharsets;
import java.nio.file.Files;
import java.nio.file.Path;
import java.util.regex.Matcher;
import java.util.regex.Pattern;
import javax.tools.ToolProvider;

/** The Java of README.md is one program: it must compile, and each call answer what stands behind it. */
public final class ReadmeTest {
    private static final Pattern BLOCK = Pattern.compile("(?s)```java\\n(.*?)```");
    private static final Pattern ASKED = Pattern.compile("(?m)^(x\\..*\\)); +// (\\S+)$");

    public static void main(String[] args) throws Exception {
        String readme = Files.readString(Path.of(System.getProperty("readme", "README.md")), StandardCharsets.US_ASCII);
        Path dir = Files.createTempDirectory("readme");
        Path source = dir.resolve("Example.java");
        Files.writeString(source, program(readme));
        boolean holds = compiles(source, dir) && runs(dir);
        Files.delete(source);
        Files.deleteIfExists(dir.resolve("Example.class"));
        Files.delete(dir);
        if (!holds) {
            System.exit(1);
        }
    }

    /** Blocks that begin with static are methods, the others what main does; an answer told is asked for. */
    private static String program(String readme) {
        StringBuilder methods = new StringBuilder();
        StringBuilder lines = new StringBuilder();
        int asked = 0;
        Matcher blocks = BLOCK.matcher(readme);
        while (blocks.find()) {
            String block = blocks.group(1);
            if (block.startsWith("static ")) {
                methods.append(block);
                continue;
            }
            Matcher m = ASKED.matcher(block);
            while (m.find()) {
                m.appendReplacement(lines, Matcher.quoteReplacement(due(m.group(1), m.group(2))));
                asked++;
            }
            m.appendTail(lines);
        }
        if (asked < 30 || lines.indexOf("//") >= 0) {
            System.out.println("README.md tells answers in another way than this test reads them");
            System.exit(1);
        }
        return "final class Example {\n" + methods + "public static void main(String[] args) {\nCheck check = new Check();\n"
                + lines + "check.end();\n}\n}\n";
    }

    private static String due(String call, String want) {
        String name = call.replace("\"", "\\\"");
        return "check.due(\"README: " + name + "\", " + call + ", " + want.replace("NONE", "LicensedVoice.NONE") + ");";
    }

    private static boolean compiles(Path source, Path dir) {
        String[] command = {"-Xlint:all", "-Werror", "-cp", System.getProperty("java.class.path"), "-d", dir.toString(), source.toString()};
        boolean is = ToolProvider.getSystemJavaCompiler().run(null, null, null, command) == 0;
        if (!is) {
            System.out.println("the program of README.md does not compile");
        }
        return is;
    }

    private static boolean runs(Path dir) throws Exception {
        String path = dir + System.getProperty("path.separator") + System.getProperty("java.class.path");
        String java = Path.of(System.getProperty("java.home"), "bin", "java").toString();
        return new ProcessBuilder(java, "-cp", path, "Example").inheritIO().start().waitFor() == 0;
    }
}
