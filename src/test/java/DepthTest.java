import java.io.PrintWriter;
import java.io.StringWriter;
import java.nio.file.Files;
import java.nio.file.Path;
import java.util.ArrayList;
import java.util.HashMap;
import java.util.LinkedHashSet;
import java.util.List;
import java.util.Map;
import java.util.Set;
import java.util.regex.Matcher;
import java.util.regex.Pattern;
import java.util.spi.ToolProvider;

/** Rules 8, 11 and 12 of LANGUAGE.md, as javap tells the class: how deep calls go, no recursion, what is made. */
public final class DepthTest {
    private static final Pattern METHOD = Pattern.compile("^  (?:\\S.* )?([\\w$]+)\\(.*\\);$");
    private static final Pattern CALL = Pattern.compile("invoke\\w+ .*// (?:Interface)?Method (?:([\\w$/]+)\\.)?\"?([\\w<>]+)\"?:(\\S+)");
    private static final Pattern MADE = Pattern.compile("^ +\\d+: (new|newarray|anewarray|multianewarray|invokedynamic)\\b");
    private static final int DEEPEST = 8;
    private static final int LONGEST = 60;

    private static final Map<String, Set<String>> calls = new HashMap<>();
    private static final List<String> makers = new ArrayList<>();
    private static int wrong = 0;

    public static void main(String[] args) throws Exception {
        ToolProvider javap = ToolProvider.findFirst("javap").orElse(null);
        if (javap == null) {
            System.out.println("this Java has no javap: how deep calls go was not looked at");
        } else {
            lookAtCalls(javap);
        }
        lengths();
        if (wrong > 0) {
            System.exit(1);
        }
    }

    private static void lookAtCalls(ToolProvider javap) throws Exception {
        Path dir = Path.of(System.getProperty("java.class.path").split(System.getProperty("path.separator"))[0]);
        try (var files = Files.list(dir)) {
            for (Path file : files.filter(f -> f.getFileName().toString().matches("LicensedVoice(\\$\\w+)?\\.class")).toList()) {
                read(javap, file);
            }
        }
        if (calls.size() < 150) {
            say("javap told " + calls.size() + " methods alone");
        }
        for (String method : calls.keySet()) {
            depth(method, new ArrayList<>());
        }
        for (String maker : makers) {
            if (!maker.contains(".<init>:")) {
                say("makes an object: " + maker);
            }
        }
    }

    private static void say(String what) {
        wrong++;
        System.out.println(what);
    }

    private static void read(ToolProvider javap, Path file) {
        StringWriter told = new StringWriter();
        javap.run(new PrintWriter(told), new PrintWriter(told), "-p", "-s", "-c", file.toString());
        String type = file.getFileName().toString().replace(".class", "");
        String name = "";
        String method = "";
        for (String line : told.toString().split("\\R")) {
            Matcher header = METHOD.matcher(line);
            Matcher call = CALL.matcher(line);
            if (header.matches()) {
                name = header.group(1).equals(type) ? "<init>" : header.group(1);
            } else if (line.startsWith("    descriptor: (")) {
                method = type + "." + name + ":" + line.substring("    descriptor: ".length());
                calls.put(method, new LinkedHashSet<>());
            } else if (call.find()) {
                String owner = call.group(1) == null ? type : call.group(1);
                calls.get(method).add(owner + "." + call.group(2) + ":" + call.group(3));
            } else if (MADE.matcher(line).find()) {
                makers.add(method);
            }
        }
    }

    /** How many calls stand open at most from a method on, those of the library among them. */
    private static int depth(String method, List<String> open) {
        if (open.contains(method)) {
            say("calls itself: " + open + " " + method);
            return 1;
        }
        open.add(method);
        int most = 0;
        for (String called : calls.getOrDefault(method, Set.of())) {
            most = Math.max(most, depth(called, open));
        }
        if (open.size() == 1 && most + 1 > DEEPEST) {
            say("calls go " + (most + 1) + " deep: " + method);
        }
        open.remove(open.size() - 1);
        return most + 1;
    }

    private static void lengths() throws Exception {
        List<String> lines = Files.readAllLines(Path.of(System.getProperty("source", "src/main/java/LicensedVoice.java")));
        for (int i = 0; i < lines.size(); i++) {
            String indent = lines.get(i).replaceAll("\\S.*", "");
            if (lines.get(i).matches(" +[\\w\\[\\] ]+\\(.*\\) \\{") && !lines.get(i).contains(" class ")) {
                int end = i + lines.subList(i, lines.size()).indexOf(indent + "}");
                if (end - i + 1 > LONGEST) {
                    say("a method of " + (end - i + 1) + " lines: " + lines.get(i).trim());
                }
            }
        }
    }
}
