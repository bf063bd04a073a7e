import java.lang.reflect.Constructor;
import java.lang.reflect.Field;
import java.lang.reflect.Method;
import java.lang.reflect.Modifier;
import java.nio.charset.StandardCharsets;
import java.nio.file.Files;
import java.nio.file.Path;
import java.util.ArrayList;
import java.util.List;
import java.util.Set;
import java.util.TreeSet;
import java.util.regex.Matcher;
import java.util.regex.Pattern;

/** The public face as the document has it, and rules of LANGUAGE.md that a text or a class tells. */
public final class FaceTest {
    private static final String FACE = "int status(); long top(); long bottom(); boolean tray(int,int,int); boolean write(int,int,long); "
            + "long read(int,int); boolean pour(int,int,int,int,int); int feed(int,int,int,int,int); int town(int); int dials(int); "
            + "int fault(int); int many(int); int voice(int,int); int row(int,int); int person(int,int); int like(int,int); "
            + "int set(int,int); int hour(int); int year(int); int sell(int,int,int); int give(int,int); int dump(int); "
            + "boolean cold(int,boolean); boolean flaw(int,int); int please(int,int,int); int teach(int,int); boolean rule(int); "
            + "int saysIn(int,int); int hearsIn(int,int); int gladIn(int,int); int gladBy(int,int); int lonelyIn(int); int diesIn(int); "
            + "int crowd(int); int worth(int,int); int best(int); int bestSet(int,int); int trade(int); int trades(); int envies(int,int); "
            + "int pick(int,int,int); int fits(int,int); int ask(int,int); int peace(int); int peaceBy(int); int popular(int); "
            + "int popularBy(int); int game(int,int,int); int moveOf(int,int,int); boolean alive(int,int); boolean warm(int); "
            + "int live(int); int lived(int); boolean mean(int,int); int mark(); int back()";
    private static int wrong = 0;

    public static void main(String[] args) throws Exception {
        face();
        insides();
        source();
        if (wrong > 0) {
            System.exit(1);
        }
    }

    private static void say(String what) {
        wrong++;
        System.out.println(what);
    }

    private static void face() {
        Class<?> c = LicensedVoice.class;
        Set<String> due = new TreeSet<>(List.of(FACE.split("; ")));
        Set<String> names = new TreeSet<>();
        for (Method m : c.getDeclaredMethods()) {
            List<String> types = new ArrayList<>();
            for (Class<?> type : m.getParameterTypes()) {
                types.add(type.getSimpleName());
            }
            String told = m.getReturnType().getSimpleName() + " " + m.getName() + "(" + String.join(",", types) + ")";
            if (Modifier.isPublic(m.getModifiers())) {
                names.add(m.getName());
                if (!due.remove(told)) {
                    say("not in the document: " + told);
                }
            } else if (!Modifier.isPrivate(m.getModifiers()) && !m.isSynthetic()) {
                say("neither public nor private: " + told);
            }
        }
        due.forEach(told -> say("missing: " + told));
        for (Class<?> inside : c.getDeclaredClasses()) {
            for (Method m : inside.getDeclaredMethods()) {
                if (names.contains(m.getName())) {
                    say("bears the name of a public one: " + m);
                }
            }
        }
        for (Method m : c.getDeclaredMethods()) {
            if (Modifier.isPrivate(m.getModifiers()) && names.contains(m.getName())) {
                say("bears the name of a public one: " + m);
            }
        }
        for (Constructor<?> k : c.getDeclaredConstructors()) {
            if (k.getParameterCount() > 0 || !Modifier.isPublic(k.getModifiers())) {
                say("another constructor: " + k);
            }
        }
        for (Field f : c.getDeclaredFields()) {
            if (!Modifier.isPrivate(f.getModifiers()) && !f.getName().equals("NONE")) {
                say("another field than NONE: " + f);
            }
        }
        if (!Modifier.isFinal(c.getModifiers()) || !Modifier.isPublic(c.getModifiers())) {
            say("the class is not public and final");
        }
    }

    private static void insides() {
        List<Class<?>> all = new ArrayList<>(List.of(LicensedVoice.class.getDeclaredClasses()));
        if (all.size() > 11) {
            say("too many classes");
        }
        all.add(LicensedVoice.class);
        for (Class<?> c : all) {
            if (c != LicensedVoice.class && !Modifier.isStatic(c.getModifiers())) {
                say("not static: " + c);
            }
            int fields = 0;
            for (Field f : c.getDeclaredFields()) {
                if (!Modifier.isStatic(f.getModifiers())) {
                    fields++;
                } else if (!Modifier.isFinal(f.getModifiers())) {
                    say("static state: " + f);
                }
            }
            if (fields > 20) {
                say("too many fields: " + c);
            }
            for (Method m : c.getDeclaredMethods()) {
                if (m.getParameterCount() > 7) {
                    say("too many parameters: " + m);
                }
            }
        }
    }

    /** No call makes an object: new stands in the constructor and where fields are told alone. */
    private static void source() throws Exception {
        Path path = Path.of(System.getProperty("source", "src/main/java/LicensedVoice.java"));
        String text = Files.readString(path, StandardCharsets.US_ASCII);
        String code = text.replaceAll("(?s)/\\*.*?\\*/", "").replaceAll("//[^\\n]*", "").replaceAll("\"[^\"\\n]*\"", "\"\"");
        Matcher m = Pattern.compile("\\b(throw|throws|try|catch|synchronized|assert|import|package|instanceof|Object)\\b|->|::|@|\" *\\+|\\+ *\"")
                .matcher(code);
        while (m.find()) {
            say("not in the language: " + m.group());
        }
        int constructor = code.indexOf("public LicensedVoice() {");
        int end = code.indexOf("\n    }", constructor);
        String rest = code.substring(0, constructor) + code.substring(end);
        for (String line : rest.split("\n")) {
            if (line.contains("new ") && !line.matches(" +(static )?final [A-Za-z\\[\\]]+ \\w+ = new .*")) {
                say("makes an object: " + line.trim());
            }
        }
    }
}
