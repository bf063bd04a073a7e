import java.lang.reflect.InvocationTargetException;
import java.lang.reflect.Method;
import java.util.ArrayList;
import java.util.HashMap;
import java.util.List;
import java.util.Map;
import java.util.Random;

/**
 * All promises: runs of drawn calls (always the same ones) on an object and on the Model; every answer,
 * STATUS, FRACTION and FAULT must be the same, whatever is called in whatever state.
 */
public final class ModelTest {
    /** The calls and what their arguments are like, a letter each; arg() tells the letters. */
    private static final String[] CALLS = {"tray tsm", "write tpv", "read tp", "pour tptpl", "many w", "voice vw",
        "row vk", "person pw", "like pu", "set ew", "hour h", "hour h", "year y", "sell epc", "give ep", "give ep", "dump e",
        "cold vb", "flaw eF", "please pul", "teach vu", "rule o", "saysIn vH", "hearsIn pH", "gladIn pA", "gladBy pg",
        "lonelyIn p", "diesIn v", "crowd v", "worth pe", "best P", "bestSet Pp", "trade p", "trades ", "envies pp",
        "pick tnk", "fits tn", "ask tn", "peace P", "peaceBy P", "popular v", "popularBy v", "game ppT", "moveOf ppT",
        "alive vN", "warm p", "live z", "lived w", "mean zM", "mark ", "back "};

    private static final Map<String, Method> OBJECT = new HashMap<>();
    private static final Map<String, Method> MODEL = new HashMap<>();

    private final Random random;
    private final LicensedVoice x = new LicensedVoice();
    private final Model model = new Model();
    private final Texts texts;
    private final List<String> log = new ArrayList<>();
    private int status = 0;
    private int wrong = 0;

    private ModelTest(long seed) {
        random = new Random(seed);
        texts = new Texts(random);
    }

    public static void main(String[] args) throws Exception {
        for (Method m : LicensedVoice.class.getMethods()) {
            OBJECT.put(m.getName(), m);
        }
        for (Method m : Model.class.getDeclaredMethods()) {
            Method twin = OBJECT.get(m.getName());
            if (twin != null && java.util.Arrays.equals(twin.getParameterTypes(), m.getParameterTypes())) {
                MODEL.put(m.getName(), m);
            }
        }
        int runs = args.length > 0 ? Integer.parseInt(args[0]) : 1500;
        int wrong = 0;
        for (int seed = 0; seed < runs && wrong < 5; seed++) {
            ModelTest test = new ModelTest(seed);
            test.run();
            wrong += test.wrong;
        }
        if (wrong > 0) {
            System.exit(1);
        }
    }

    private void run() throws Exception {
        if (random.nextInt(10) > 0) {
            bring(texts.town(), "town");
        }
        int calls = 60 + random.nextInt(120);
        for (int i = 0; i < calls && wrong == 0; i++) {
            int draw = random.nextInt(100);
            if (draw < 3) {
                bring(texts.town(), "town");
            } else if (draw < 5) {
                bring(texts.broken(texts.town()), "town");
            } else if (draw < 9) {
                bring(texts.dials(model.world()), "dials");
            } else if (draw < 12) {
                bring(texts.broken(texts.dials(model.world())), "dials");
            } else if (draw < 17) {
                tieTray();
            } else {
                String[] call = CALLS[random.nextInt(CALLS.length)].split(" ", 2);
                call(call[0], args(call[1]));
            }
        }
    }

    private void bring(String text, String taker) throws Exception {
        for (int i = 0; i < text.length(); i += 20) {
            Object[] ints = new Object[5];
            for (int k = 0; k < 5; k++) {
                int word = 0;
                for (int b = 0; b < 4; b++) {
                    int at = i + k * 4 + b;
                    word = word << 8 | (at < text.length() ? text.charAt(at) : 32);
                }
                ints[k] = word;
            }
            call("feed", ints);
        }
        log.add("text " + text);
        if (random.nextInt(20) == 0) {
            call(taker, -1 + random.nextInt(3) * 451);
        }
        call(taker, random.nextInt(20) == 0 ? random.nextInt(text.length() + 1) : text.length());
        call("fault", 0);
        call("fault", 1);
        call("fault", random.nextInt(4) - 1);
    }

    /** A TRAY of PEOPLE, or of HOURS and what some VOICE says in them. */
    private void tieTray() throws Exception {
        int tray = random.nextInt(4);
        call("tray", tray, 1 + random.nextInt(3), 12);
        Model.World w = model.world();
        if (random.nextBoolean() || w.voices.isEmpty()) {
            List<Integer> people = new ArrayList<>();
            for (int p = 0; p < w.people.size(); p++) {
                people.add(random.nextInt(people.size() + 1), p);
            }
            for (int i = 0; i < people.size(); i++) {
                call("write", tray, i, (long) people.get(i));
            }
            for (int i = 0; i < 3; i++) {
                call("pick", tray, random.nextInt(people.size() + 1), random.nextInt(6));
            }
        } else {
            List<Integer> row = w.voices.get(random.nextInt(w.voices.size())).row;
            for (int i = 0; i < 6; i++) {
                int hour = random.nextInt(i < 4 ? 30 : 10001);
                call("write", tray, 2 * i, (long) hour);
                int subject = random.nextInt(9) == 0 ? random.nextInt(7) : row.get(hour % row.size());
                call("write", tray, 2 * i + 1, (long) subject);
            }
            for (int n = 0; n < 7; n++) {
                call("fits", tray, n);
                call("ask", tray, n);
            }
        }
    }

    private Object[] args(String letters) {
        Object[] args = new Object[letters.length()];
        for (int i = 0; i < args.length; i++) {
            args[i] = arg(letters.charAt(i));
        }
        return args;
    }

    private Object arg(char letter) {
        if (letter == 'b') {
            return random.nextBoolean();
        }
        if (letter == 'v' || letter == 'p' || letter == 'u' || letter == 'e' || letter == 'F') {
            return thing(letter);
        }
        if (letter != 'v' && random.nextInt(60) == 0) {
            int far = new int[] {Integer.MIN_VALUE, Integer.MAX_VALUE, -1, 10000, 1 << 30, 61}[random.nextInt(6)];
            return far;
        }
        switch (letter) {
            case 't':
                return random.nextInt(20) == 0 ? random.nextInt(8) - 2 : random.nextInt(4);
            case 's':
                return random.nextInt(20) == 0 ? random.nextInt(8) - 2 : random.nextInt(4);
            case 'm':
                return random.nextInt(64) - 2;
            case 'l':
                return random.nextInt(12) - 1;
            case 'w':
                return random.nextInt(10) > 0 ? random.nextInt(6) : random.nextInt(14) - 1;
            case 'k':
            case 'T':
            case 'n':
                return random.nextInt(9) - 1;
            case 'h':
                return random.nextInt(3) > 0 ? 1 + random.nextInt(12) : random.nextInt(102) - 1;
            case 'y':
                return random.nextInt(4) > 0 ? 1 + random.nextInt(9) : random.nextInt(102) - 1;
            case 'c':
                return random.nextInt(3) > 0 ? random.nextInt(15) : random.nextInt(1100) - 20;
            case 'o':
                return random.nextInt(20) - 1;
            case 'H':
                return random.nextInt(1003) - 1;
            case 'A':
                return random.nextInt(304) - 1;
            case 'g':
                return random.nextInt(3) > 0 ? random.nextInt(300) : random.nextInt(10003) - 1;
            case 'P':
                return random.nextInt(8) == 0 ? random.nextInt(66) - 1 : random.nextInt(1 << model.world().people.size());
            case 'N':
                return random.nextInt(15) - 1;
            case 'z':
                return random.nextInt(10) > 0 ? random.nextInt(10000) : 9970 + random.nextInt(33);
            default:
                return random.nextInt(23) - 1;
        }
    }

    /** Mostly a number of what there is. */
    private int thing(char letter) {
        Model.World w = model.world();
        int many = letter == 'v' || letter == 'F' ? w.voices.size() : letter == 'p' ? w.people.size()
                : letter == 'u' ? w.subjects.size() : w.sets.size();
        if (letter == 'F' && random.nextInt(4) == 0) {
            return 6;
        }
        return many == 0 || random.nextInt(25) == 0 ? random.nextInt(9) - 1 : random.nextInt(many);
    }

    private void call(String name, Object... args) throws Exception {
        Method m = OBJECT.get(name);
        for (int i = 0; i < args.length; i++) {
            if (m.getParameterTypes()[i] == long.class) {
                args[i] = random.nextInt(4) > 0 ? ((Number) args[i]).longValue() : args[i] instanceof Long ? args[i]
                        : (Object) random.nextLong();
            }
        }
        Object want;
        try {
            want = MODEL.get(name).invoke(model, args.clone());
            if (!name.equals("feed") && !name.equals("fault")) {
                status = 0;
            }
        } catch (InvocationTargetException e) {
            if (!(e.getCause() instanceof Model.Refused)) {
                throw e;
            }
            status = ((Model.Refused) e.getCause()).status;
            want = m.getReturnType() == boolean.class ? (Object) false : m.getReturnType() == long.class ? (Object) (-1L) : (Object) (-1);
        }
        Object got = m.invoke(x, args);
        log.add(name + java.util.Arrays.toString(args) + " = " + got);
        compare(name, got, want);
        compare(name + " status", x.status(), status);
        compare(name + " top", x.top(), model.top());
        compare(name + " bottom", x.bottom(), model.bottom());
    }

    private void compare(String what, Object got, Object want) {
        if (!got.equals(want)) {
            wrong++;
            if (wrong == 1) {
                log.forEach(System.out::println);
            }
            System.out.println(what + " answered " + got + ", the model " + want);
        }
    }

    /** Drawn texts. */
    private static final class Texts {
        private final Random random;

        Texts(Random random) {
            this.random = random;
        }

        private String gap() {
            return random.nextInt(6) == 0 ? "\n " : " ";
        }

        String town() {
            StringBuilder t = new StringBuilder();
            int subjects = 1 + random.nextInt(6);
            int voices = random.nextInt(7);
            int people = random.nextInt(7);
            int sets = voices == 0 ? 0 : random.nextInt(7);
            if (random.nextInt(3) > 0) {
                t.append("odds ").append(random.nextInt(17)).append(';');
            }
            for (int i = 0; i < subjects; i++) {
                t.append("subject").append(gap()).append(name('s', i)).append(";");
            }
            for (int i = 0; i < voices; i++) {
                int age = random.nextInt(random.nextBoolean() ? 120 : 12);
                int life = 1 + random.nextInt(random.nextBoolean() ? 120 : 20);
                t.append("voice ").append(name('v', i)).append(" age ").append(age).append(gap()).append("life ")
                        .append(life).append(" says");
                int row = 1 + random.nextInt(random.nextInt(4) == 0 ? 8 : 3);
                for (int k = 0; k < row; k++) {
                    t.append(gap()).append(name('s', random.nextInt(subjects)));
                }
                t.append(';');
            }
            for (int i = 0; i < people; i++) {
                t.append("person ").append(name('p', i));
                if (random.nextBoolean()) {
                    t.append(" coins").append(gap()).append(random.nextInt(random.nextInt(3) == 0 ? 1000 : 30));
                }
                t.append(';');
            }
            for (int i = 0; i < sets; i++) {
                set(t, i, voices, people);
            }
            for (int i = random.nextInt(14); people > 0 && i > 0 && t.length() < 870; i--) {
                t.append("likes ").append(name('p', random.nextInt(people))).append(gap())
                        .append(name('s', random.nextInt(subjects))).append(' ').append(random.nextInt(10)).append(";");
            }
            return t.length() > 900 ? t.substring(0, 900) : t.toString();
        }

        private void set(StringBuilder t, int i, int voices, int people) {
            int voice = random.nextInt(voices);
            t.append("set ").append(name('e', i)).append(gap()).append("gets ").append(name('v', voice));
            if (random.nextInt(3) == 0 && voices > 1) {
                t.append(" flaw ").append(name('v', (voice + 1 + random.nextInt(voices - 1)) % voices));
            }
            if (random.nextInt(3) > 0 && people > 0) {
                t.append(" for ").append(name('p', random.nextInt(people)));
            }
            t.append(';');
        }

        private static String name(char kind, int i) {
            return i == 3 ? kind + "abcdefg" : "" + kind + (char) ('a' + i);
        }

        String dials(Model.World w) {
            StringBuilder t = new StringBuilder();
            if (random.nextInt(10) == 0) {
                t.append("any;".repeat(random.nextInt(32)));
            }
            if (random.nextInt(10) == 0) {
                t.append("loop 99;hour 48;end;");
            }
            if (random.nextInt(10) == 0) {
                t.append("loop 60;year 20;end;");
            }
            steps(t, w, 0);
            return t.length() > 300 ? t.substring(0, 300) : t.toString();
        }

        private String one(Model.World w, String kind) {
            List<String> names = w.names(kind);
            return names.isEmpty() ? "nobody" : names.get(random.nextInt(names.size()));
        }

        private boolean has(Model.World w, String kind) {
            return !w.names(kind).isEmpty() || random.nextInt(30) == 0;
        }

        private void steps(StringBuilder t, Model.World w, int depth) {
            for (int n = random.nextInt(depth == 0 ? 12 : 4); n > 0 && t.length() < 220; n--) {
                switch (random.nextInt(11)) {
                    case 0 -> t.append("hour ").append(1 + random.nextInt(random.nextInt(4) == 0 ? 48 : 9)).append(';');
                    case 1 -> t.append("year ").append(1 + random.nextInt(20)).append(" ; ");
                    case 2, 3 -> {
                        if (has(w, "set") && has(w, "person")) {
                            boolean sell = random.nextBoolean();
                            t.append(sell ? "sell " : "give ").append(one(w, "set")).append(' ').append(one(w, "person"))
                                    .append(sell ? " " + random.nextInt(12) : "").append(';');
                        }
                    }
                    case 4 -> {
                        if (has(w, "voice")) {
                            t.append(random.nextBoolean() ? "cold " : "well ").append(one(w, "voice")).append(';');
                        }
                    }
                    case 5, 6 -> t.append("any;");
                    case 7 -> t.append(random.nextInt(6) == 0 ? "stop;" : "");
                    case 8, 9 -> {
                        if (depth < 3 || random.nextInt(30) == 0) {
                            t.append("loop ").append(1 + random.nextInt(random.nextBoolean() ? 99 : 4)).append(';');
                            steps(t, w, depth + 1);
                            t.append("end;");
                        }
                    }
                    default -> when(t, w, depth);
                }
            }
        }

        private void when(StringBuilder t, Model.World w, int depth) {
            if (depth == 3 || !has(w, "person") || !has(w, "set")) {
                return;
            }
            switch (random.nextInt(3)) {
                case 0 -> t.append("when lives ").append(one(w, "voice"));
                case 1 -> t.append("when owns ").append(one(w, "person")).append(' ').append(one(w, "set"));
                default -> t.append("when glad ").append(one(w, "person")).append("<>=".charAt(random.nextInt(3)))
                        .append(random.nextInt(random.nextBoolean() ? 4 : 100));
            }
            t.append(";");
            steps(t, w, depth + 1);
            t.append("end;");
        }

        /** A text with one or two things changed. */
        String broken(String text) {
            StringBuilder t = new StringBuilder(text);
            String[] bits = {"odds 3;", "odds", "subject", "voice", "life 0", "17", "1000", "12345", "0", "120", "121", ";", "<",
                "end;", "end", "stop;", "any", "person", "set", "flaw", "for", "sa", "vb", "pa", "ea", "A", "\t", "\u00e9", "-",
                " ", "abcdefgh", "abcdefghi", "loop 2;", "when lives va;", "says", "coins 3", "9999", "subject new;", "x", "7"};
            for (int n = 1 + random.nextInt(2); n > 0; n--) {
                int at = random.nextInt(t.length() + 1);
                if (random.nextInt(4) == 0) {
                    t.insert(partEdge(t, at), PARTS[random.nextInt(PARTS.length)]);
                } else if (random.nextInt(3) > 0) {
                    t.insert(wordEdge(t, at), " " + bits[random.nextInt(bits.length)] + (random.nextInt(4) > 0 ? " " : ""));
                } else if (random.nextBoolean()) {
                    t.insert(at, bits[random.nextInt(bits.length)]);
                } else if (at < t.length()) {
                    t.delete(at, Math.min(t.length(), at + 1 + random.nextInt(random.nextBoolean() ? 1 : 8)));
                }
            }
            return t.length() > 900 ? t.substring(0, 900) : t.toString();
        }

        private static final String[] PARTS = {"odds 3; ", "odds 2;odds 5;", "subject xa;subject xb;subject xc;subject xd;",
            "set xe gets va flaw va;", "set xf gets vb flaw va for pa;", "person xg;person xh;person xi;",
            "voice xj age 119 life 120 says sa sa sa sa sa sa sa sa sa;", "voice xk age 120 life 1 says sa;",
            "voice xl age 0 life 121 says sa;", "voice xm age 0 life 1 says sa sa sa sa sa sa sa sa zz;",
            "voice xn age 5 life 6 says;", "likes pa sa 10;", "person va;", "person xo coins 1000;", "any;any;any;any;any;any;",
            "stop;stop;stop;", "loop 1;loop 2;loop 3;", "loop 1; end; when lives va; end;", "end;", "end; end;", "hour 49;"};

        private static int partEdge(CharSequence t, int from) {
            int at = from;
            while (at > 0 && t.charAt(at - 1) != ';') {
                at--;
            }
            return at;
        }

        private static int wordEdge(CharSequence t, int from) {
            int at = from;
            while (at < t.length() && t.charAt(at) != ' ' && t.charAt(at) != ';') {
                at++;
            }
            return at;
        }
    }
}
