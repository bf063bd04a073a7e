import java.math.BigInteger;
import java.util.ArrayList;
import java.util.Arrays;
import java.util.HashMap;
import java.util.HashSet;
import java.util.LinkedHashMap;
import java.util.List;
import java.util.Map;
import java.util.Set;
import java.util.TreeMap;
import java.util.TreeSet;
import java.util.function.IntPredicate;

/**
 * A second writing of the document, as plain as it goes and by other means than the class itself
 * (the Java library, names as texts, ways gone through one by one): ModelTest compares the two.
 */
final class Model {
    static final class Refused extends RuntimeException {
        private static final long serialVersionUID = 1;
        final int status;

        Refused(int status) {
            super(null, null, false, false);
            this.status = status;
        }
    }

    static final class Fault extends RuntimeException {
        private static final long serialVersionUID = 1;
        final int kind;
        final int place;

        Fault(int kind, int place) {
            super(null, null, false, false);
            this.kind = kind;
            this.place = place;
        }
    }

    static final class Voice {
        String name;
        int age;
        int life;
        boolean lives = true;
        boolean cold;
        List<Integer> row = new ArrayList<>();

        Voice copy() {
            Voice v = new Voice();
            v.name = name;
            v.age = age;
            v.life = life;
            v.lives = lives;
            v.cold = cold;
            v.row = new ArrayList<>(row);
            return v;
        }
    }

    static final class Person {
        String name;
        int coins = 10;
        int glad;
        int lonely;
        Map<Integer, Integer> likes = new HashMap<>();

        Person copy() {
            Person p = new Person();
            p.name = name;
            p.coins = coins;
            p.glad = glad;
            p.lonely = lonely;
            p.likes = new HashMap<>(likes);
            return p;
        }
    }

    static final class Receiver {
        String name;
        int voice;
        Integer flaw;
        Integer owner;

        Receiver copy() {
            Receiver s = new Receiver();
            s.name = name;
            s.voice = voice;
            s.flaw = flaw;
            s.owner = owner;
            return s;
        }
    }

    /** One STEP, a when or loop with those within it. */
    static final class Step {
        List<Object> words = new ArrayList<>();
        List<Step> within;
    }

    static final class World {
        int odds = 1;
        int hour;
        int year;
        List<String> subjects = new ArrayList<>();
        List<Voice> voices = new ArrayList<>();
        List<Person> people = new ArrayList<>();
        List<Receiver> sets = new ArrayList<>();
        List<Step> dials;

        World copy() {
            World w = new World();
            w.odds = odds;
            w.hour = hour;
            w.year = year;
            w.subjects.addAll(subjects);
            voices.forEach(v -> w.voices.add(v.copy()));
            people.forEach(p -> w.people.add(p.copy()));
            sets.forEach(s -> w.sets.add(s.copy()));
            w.dials = dials;
            return w;
        }

        int total() {
            return people.stream().mapToInt(p -> p.glad).sum();
        }

        List<String> names(String kind) {
            List<String> names = new ArrayList<>();
            switch (kind) {
                case "subject" -> names.addAll(subjects);
                case "voice" -> voices.forEach(v -> names.add(v.name));
                case "person" -> people.forEach(p -> names.add(p.name));
                default -> sets.forEach(s -> names.add(s.name));
            }
            return names;
        }

        Set<Integer> voicesOfSet(int set) {
            Set<Integer> got = new TreeSet<>();
            got.add(sets.get(set).voice);
            if (sets.get(set).flaw != null) {
                got.add(sets.get(set).flaw);
            }
            return got;
        }

        Set<Integer> ownedBy(int person) {
            Set<Integer> owned = new TreeSet<>();
            for (int s = 0; s < sets.size(); s++) {
                if (sets.get(s).owner != null && sets.get(s).owner == person) {
                    owned.add(s);
                }
            }
            return owned;
        }

        Set<Integer> said(Set<Integer> receivers, int h) {
            Set<Integer> heard = new TreeSet<>();
            for (int s : receivers) {
                for (int v : voicesOfSet(s)) {
                    Voice voice = voices.get(v);
                    if (voice.lives && !voice.cold) {
                        heard.add(voice.row.get(h % voice.row.size()));
                    }
                }
            }
            return heard;
        }

        int joy(int person, Set<Integer> heard) {
            return heard.stream().mapToInt(s -> people.get(person).likes.getOrDefault(s, 0)).sum();
        }

        int worth(int person, int set) {
            int sum = 0;
            for (int h = hour; h < hour + 12; h++) {
                sum += joy(person, said(Set.of(set), h));
            }
            return sum;
        }

        void oneHour() {
            for (int p = 0; p < people.size(); p++) {
                Set<Integer> heard = said(ownedBy(p), hour);
                people.get(p).glad += joy(p, heard);
                if (heard.isEmpty()) {
                    people.get(p).lonely++;
                }
            }
            hour++;
        }

        Set<Integer> oneYear() {
            Set<Integer> died = new TreeSet<>();
            for (int v = 0; v < voices.size(); v++) {
                Voice voice = voices.get(v);
                if (voice.lives) {
                    voice.age++;
                    if (voice.age >= voice.life) {
                        voice.lives = false;
                        died.add(v);
                    }
                }
            }
            year++;
            return died;
        }

        boolean sale(int set, int person, int price) {
            Receiver s = sets.get(set);
            if (s.owner == null || s.owner == person || people.get(person).coins < price
                    || people.get(s.owner).coins + price > 9999) {
                return false;
            }
            people.get(s.owner).coins += price;
            people.get(person).coins -= price;
            s.owner = person;
            return true;
        }
    }

    // ---- the object

    private static final Set<String> RESERVED = new HashSet<>(Arrays.asList("odds", "subject", "voice", "age", "life",
            "says", "person", "coins", "likes", "set", "gets", "flaw", "for", "hour", "year", "sell", "give", "cold",
            "well", "any", "when", "glad", "lives", "owns", "loop", "end", "stop"));

    private World w = new World();
    private final List<World> marks = new ArrayList<>();
    private final Map<Integer, long[]> trays = new HashMap<>();
    private final Map<Integer, Integer> sorts = new HashMap<>();
    private final StringBuilder tape = new StringBuilder();
    private int[] fault;
    private int[] lived;
    private BigInteger top = BigInteger.ZERO;
    private BigInteger bottom = BigInteger.ONE;

    long top() {
        return top.longValueExact();
    }

    long bottom() {
        return bottom.longValueExact();
    }

    private static void need(boolean holds, int status) {
        if (!holds) {
            throw new Refused(status);
        }
    }

    private static int bits(Set<Integer> members) {
        return members.stream().mapToInt(i -> 1 << i).sum();
    }

    private static int bits(int n, IntPredicate in) {
        Set<Integer> members = new TreeSet<>();
        for (int i = 0; i < n; i++) {
            if (in.test(i)) {
                members.add(i);
            }
        }
        return bits(members);
    }

    private void tell(BigInteger a, BigInteger b) {
        BigInteger g = a.gcd(b);
        top = a.divide(g);
        bottom = b.divide(g);
    }

    private void needVoice(int v) {
        need(v >= 0 && v < w.voices.size(), 2);
    }

    private void needPerson(int p) {
        need(p >= 0 && p < w.people.size(), 2);
    }

    private void needSet(int s) {
        need(s >= 0 && s < w.sets.size(), 2);
    }

    private void needSubject(int s) {
        need(s >= 0 && s < w.subjects.size(), 2);
    }

    private static void within(int n, int least, int most) {
        need(n >= least && n <= most, 5);
    }

    // ---- TRAYS

    boolean tray(int tray, int sort, int many) {
        need(tray >= 0 && tray <= 3 && sort >= 0 && sort <= 3, 1);
        need(many <= 60, 5);
        need(many >= 0, 6);
        trays.put(tray, new long[many]);
        sorts.put(tray, sort);
        return true;
    }

    private long[] has(int tray) {
        need(tray >= 0 && tray <= 3, 1);
        need(trays.containsKey(tray), 3);
        return trays.get(tray);
    }

    boolean write(int tray, int place, long v) {
        long[] row = has(tray);
        need(place >= 0 && place < row.length, 4);
        int free = 64 - (8 << sorts.get(tray));
        row[place] = v << free >> free;
        return true;
    }

    long read(int tray, int place) {
        long[] row = has(tray);
        need(place >= 0 && place < row.length, 4);
        return row[place];
    }

    boolean pour(int tray, int i, int to, int j, int many) {
        need(tray >= 0 && tray <= 3 && to >= 0 && to <= 3, 1);
        long[] from = has(tray);
        long[] into = has(to);
        need(sorts.get(tray).equals(sorts.get(to)), 11);
        need(many >= 0, 6);
        need(i >= 0 && j >= 0 && i <= from.length && j <= into.length, 4);
        need(many <= from.length - i && many <= into.length - j, 4);
        long[] were = from.clone();
        for (int k = 0; k < many; k++) {
            into[j + k] = were[i + k];
        }
        return true;
    }

    // ---- texts

    int feed(int a, int b, int c, int d, int e) {
        if (tape.length() + 20 > 900) {
            return -1;
        }
        for (int word : new int[] {a, b, c, d, e}) {
            for (int k = 3; k >= 0; k--) {
                tape.append((char) (word >>> 8 * k & 255));
            }
        }
        return tape.length();
    }

    int fault(int what) {
        return fault == null || what < 0 || what > 1 ? -1 : fault[what];
    }

    /** The TOKENS of a text, a fault of kind 1 being told when it is come to. */
    static final class Tokens {
        final String text;
        int at;
        int start;
        String token;

        Tokens(String text) {
            this.text = text;
            next();
        }

        void next() {
            while (at < text.length() && (text.charAt(at) == 10 || text.charAt(at) == 32)) {
                at++;
            }
            start = at;
            if (at == text.length()) {
                token = "";
                return;
            }
            String rest = text.substring(at);
            String run = rest.replaceFirst("(?s)^([a-z]+|[0-9]+|.).*$", "$1");
            token = run;
            at += run.length();
        }

        /** As long as the token is none, whatever is asked of it is kind 1. */
        void look() {
            if (!token.isEmpty() && !token.matches("[a-z]+|[0-9]{1,4}|[;<>=]")) {
                throw new Fault(1, start);
            }
        }

        boolean isName() {
            look();
            return token.matches("[a-z]{1,8}") && !RESERVED.contains(token);
        }

        boolean is(String wanted) {
            look();
            return token.equals(wanted);
        }

        void fail(int kind) {
            look();
            throw new Fault(kind, start);
        }

        String take(String... wanted) {
            look();
            if (token.isEmpty() || !Arrays.asList(wanted).contains(token)) {
                fail(2);
            }
            String was = token;
            next();
            return was;
        }

        int number(int least, int most) {
            look();
            if (!token.matches("[0-9]{1,4}")) {
                fail(2);
            }
            int n = Integer.parseInt(token);
            if (n < least || n > most) {
                fail(4);
            }
            next();
            return n;
        }

        int known(List<String> names, int other) {
            if (!isName()) {
                fail(2);
            }
            int i = names.indexOf(token);
            if (i < 0) {
                fail(3);
            }
            if (i == other) {
                fail(5);
            }
            next();
            return i;
        }

        int known(List<String> names) {
            return known(names, -1);
        }
    }

    private static String newName(Tokens t, World w) {
        if (!t.isName()) {
            t.fail(2);
        }
        for (String kind : List.of("subject", "voice", "person", "set")) {
            if (w.names(kind).contains(t.token)) {
                t.fail(3);
            }
        }
        String name = t.token;
        t.next();
        return name;
    }

    static World parseTown(String text) {
        World w = new World();
        Tokens t = new Tokens(text);
        boolean odds = false;
        while (!t.is("")) {
            if (t.is("odds") && odds) {
                t.fail(5);
            }
            for (String kind : List.of("subject", "voice", "person", "set")) {
                if (t.is(kind) && w.names(kind).size() == 6) {
                    t.fail(6);
                }
            }
            String part = t.take("odds", "subject", "voice", "person", "likes", "set");
            if (part.equals("odds")) {
                odds = true;
                w.odds = t.number(0, 16);
            } else if (part.equals("subject")) {
                w.subjects.add(newName(t, w));
            } else if (part.equals("voice")) {
                Voice v = new Voice();
                v.name = newName(t, w);
                t.take("age");
                v.age = t.number(0, 119);
                t.take("life");
                v.life = t.number(1, 120);
                t.take("says");
                do {
                    int start = t.start;
                    v.row.add(t.known(w.subjects));
                    if (v.row.size() == 9) {
                        throw new Fault(6, start);
                    }
                } while (!t.is(";"));
                w.voices.add(v);
            } else if (part.equals("person")) {
                Person p = new Person();
                p.name = newName(t, w);
                if (t.is("coins")) {
                    t.take("coins");
                    p.coins = t.number(0, 999);
                }
                w.people.add(p);
            } else if (part.equals("likes")) {
                int p = t.known(w.names("person"));
                int s = t.known(w.subjects);
                w.people.get(p).likes.put(s, t.number(0, 9));
            } else {
                Receiver s = new Receiver();
                s.name = newName(t, w);
                t.take("gets");
                s.voice = t.known(w.names("voice"));
                if (t.is("flaw")) {
                    t.take("flaw");
                    s.flaw = t.known(w.names("voice"), s.voice);
                }
                if (t.is("for")) {
                    t.take("for");
                    s.owner = t.known(w.names("person"));
                }
                w.sets.add(s);
            }
            t.take(";");
        }
        return w;
    }

    private static int steps(List<Step> dials) {
        int n = 0;
        for (Step s : dials) {
            n += 1 + (s.within == null ? 0 : steps(s.within));
        }
        return n;
    }

    private static List<Step> parseSteps(Tokens t, World w, int depth, int[] count) {
        List<Step> steps = new ArrayList<>();
        while (!t.is("") && !(t.is("end") && depth > 0)) {
            boolean opens = t.is("when") || t.is("loop");
            boolean begins = opens || Set.of("hour", "year", "sell", "give", "cold", "well", "any", "stop").contains(t.token);
            if (begins && count[0] == 30) {
                t.fail(6);
            }
            if (opens && depth == 3) {
                t.fail(7);
            }
            Step s = new Step();
            String word = t.take("hour", "year", "sell", "give", "cold", "well", "any", "when", "loop", "stop");
            count[0]++;
            s.words.add(word);
            if (word.equals("when")) {
                String test = t.take("glad", "lives", "owns");
                s.words.add(test);
                if (test.equals("lives")) {
                    s.words.add(t.known(w.names("voice")));
                } else {
                    s.words.add(t.known(w.names("person")));
                    if (test.equals("owns")) {
                        s.words.add(t.known(w.names("set")));
                    } else {
                        s.words.add(t.take("<", ">", "="));
                        s.words.add(t.number(0, 9999));
                    }
                }
            } else if (word.equals("sell") || word.equals("give")) {
                s.words.add(t.known(w.names("set")));
                s.words.add(t.known(w.names("person")));
                if (word.equals("sell")) {
                    s.words.add(t.number(0, 999));
                }
            } else if (word.equals("cold") || word.equals("well")) {
                s.words.add(t.known(w.names("voice")));
            } else if (word.equals("hour") || word.equals("year") || word.equals("loop")) {
                s.words.add(t.number(1, Map.of("hour", 48, "year", 20, "loop", 99).get(word)));
            }
            t.take(";");
            if (opens) {
                s.within = parseSteps(t, w, depth + 1, count);
                t.take("end");
                t.take(";");
            }
            steps.add(s);
        }
        return steps;
    }

    int town(int n) {
        need(n >= 0 && n <= tape.length(), 5);
        String text = tape.substring(0, n);
        tape.setLength(0);
        try {
            w = parseTown(text);
            fault = new int[] {0, -1};
            return w.sets.size();
        } catch (Fault f) {
            fault = new int[] {f.kind, f.place};
            throw new Refused(10);
        }
    }

    int dials(int n) {
        need(n >= 0 && n <= tape.length() && n <= 300, 5);
        String text = tape.substring(0, n);
        tape.setLength(0);
        try {
            w.dials = parseSteps(new Tokens(text), w, 0, new int[1]);
            fault = new int[] {0, -1};
            return steps(w.dials);
        } catch (Fault f) {
            fault = new int[] {f.kind, f.place};
            throw new Refused(10);
        }
    }

    int many(int what) {
        within(what, 0, 11);
        int[] all = {w.subjects.size(), w.voices.size(), w.people.size(), w.sets.size(), w.odds, w.hour, w.year,
            bits(w.voices.size(), v -> w.voices.get(v).lives), bits(w.voices.size(), v -> w.voices.get(v).cold),
            bits(w.sets.size(), s -> w.sets.get(s).owner == null), w.people.stream().mapToInt(p -> p.coins).sum(),
            w.total()};
        return all[what];
    }

    int voice(int voice, int what) {
        needVoice(voice);
        within(what, 0, 4);
        Voice v = w.voices.get(voice);
        return new int[] {v.age, v.life, v.row.size(), v.lives ? 1 : 0, v.cold ? 1 : 0}[what];
    }

    int row(int voice, int k) {
        needVoice(voice);
        need(k >= 0 && k < w.voices.get(voice).row.size(), 8);
        return w.voices.get(voice).row.get(k);
    }

    int person(int person, int what) {
        needPerson(person);
        within(what, 0, 3);
        Person p = w.people.get(person);
        return new int[] {p.coins, p.glad, p.lonely, bits(w.ownedBy(person))}[what];
    }

    int like(int person, int subject) {
        needPerson(person);
        needSubject(subject);
        return w.people.get(person).likes.getOrDefault(subject, 0);
    }

    int set(int set, int what) {
        needSet(set);
        within(what, 0, 2);
        Receiver s = w.sets.get(set);
        Integer answer = what == 0 ? Integer.valueOf(s.voice) : what == 1 ? s.flaw : s.owner;
        need(answer != null, 8);
        return answer;
    }

    // ---- what is done

    int hour(int hours) {
        within(hours, 1, 99);
        need(w.hour + hours <= 9999, 7);
        int before = w.total();
        for (int i = 0; i < hours; i++) {
            w.oneHour();
        }
        return w.total() - before;
    }

    int year(int years) {
        within(years, 1, 99);
        need(w.year + years <= 999, 7);
        Set<Integer> died = new TreeSet<>();
        for (int i = 0; i < years; i++) {
            died.addAll(w.oneYear());
        }
        return bits(died);
    }

    int sell(int set, int person, int coins) {
        needSet(set);
        needPerson(person);
        within(coins, 0, 999);
        need(w.sale(set, person, coins), 9);
        return w.people.get(person).coins;
    }

    int give(int set, int person) {
        needSet(set);
        needPerson(person);
        need(!w.ownedBy(person).contains(set), 9);
        w.sets.get(set).owner = person;
        return w.ownedBy(person).size();
    }

    int dump(int set) {
        needSet(set);
        Integer owner = w.sets.get(set).owner;
        need(owner != null, 8);
        w.sets.get(set).owner = null;
        return owner;
    }

    boolean cold(int voice, boolean is) {
        needVoice(voice);
        Voice v = w.voices.get(voice);
        need(v.cold != is && !(is && !v.lives), 9);
        v.cold = is;
        return true;
    }

    boolean flaw(int set, int voice) {
        needSet(set);
        if (voice != 6) {
            needVoice(voice);
        }
        Receiver s = w.sets.get(set);
        Integer flaw = voice == 6 ? null : Integer.valueOf(voice);
        need(flaw == null ? s.flaw != null : !flaw.equals(s.flaw) && s.voice != flaw, 9);
        s.flaw = flaw;
        return true;
    }

    int please(int person, int subject, int much) {
        needPerson(person);
        needSubject(subject);
        within(much, 0, 9);
        int was = like(person, subject);
        need(was != much, 9);
        w.people.get(person).likes.put(subject, much);
        return was;
    }

    int teach(int voice, int subject) {
        needVoice(voice);
        needSubject(subject);
        List<Integer> row = w.voices.get(voice).row;
        need(row.size() < 8, 7);
        row.add(subject);
        return row.size();
    }

    boolean rule(int odds) {
        within(odds, 0, 16);
        w.odds = odds;
        return true;
    }

    // ---- HOURS ahead

    int saysIn(int voice, int hours) {
        needVoice(voice);
        within(hours, 0, 999);
        Voice v = w.voices.get(voice);
        need(v.lives && !v.cold, 8);
        return v.row.get((w.hour + hours) % v.row.size());
    }

    int hearsIn(int person, int hours) {
        needPerson(person);
        within(hours, 0, 999);
        return bits(w.said(w.ownedBy(person), w.hour + hours));
    }

    private World later(int hours) {
        World then = w.copy();
        for (int i = 0; i < hours; i++) {
            then.oneHour();
        }
        return then;
    }

    int gladIn(int person, int hours) {
        needPerson(person);
        within(hours, 0, 300);
        return later(hours).people.get(person).glad;
    }

    int gladBy(int person, int much) {
        needPerson(person);
        within(much, 0, 9999);
        World then = w.copy();
        for (int i = 0; i <= 300; i++) {
            if (then.people.get(person).glad >= much) {
                return i;
            }
            then.oneHour();
        }
        throw new Refused(8);
    }

    int lonelyIn(int person) {
        needPerson(person);
        World then = w.copy();
        int was = then.people.get(person).lonely;
        for (int i = 0; i <= 299; i++) {
            then.oneHour();
            if (then.people.get(person).lonely > was) {
                return i;
            }
        }
        throw new Refused(8);
    }

    int diesIn(int voice) {
        needVoice(voice);
        need(w.voices.get(voice).lives, 8);
        World then = w.copy();
        int n = 0;
        while (then.voices.get(voice).lives) {
            then.oneYear();
            n++;
        }
        return n;
    }

    int crowd(int voice) {
        needVoice(voice);
        return bits(crowdOf(voice));
    }

    private Set<Integer> crowdOf(int voice) {
        Set<Integer> crowd = new TreeSet<>();
        for (Receiver s : w.sets) {
            if (s.owner != null && (s.voice == voice || s.flaw != null && s.flaw == voice)) {
                crowd.add(s.owner);
            }
        }
        return crowd;
    }

    // ---- who gets what

    int worth(int person, int set) {
        needPerson(person);
        needSet(set);
        return w.worth(person, set);
    }

    private List<Integer> members(int people) {
        need(people >= 0 && people < Math.pow(2, w.people.size()), 5);
        List<Integer> members = new ArrayList<>();
        for (int p = 0; p < w.people.size(); p++) {
            if ((people & 1 << p) != 0) {
                members.add(p);
            }
        }
        return members;
    }

    private int[] bestWay;
    private int bestValue;

    /** Every way in the order of the document, the first of the best being kept. */
    private void goThrough(List<Integer> members, int i, int[] way, int value, int[][] worth) {
        if (i == members.size()) {
            if (bestWay == null || value > bestValue) {
                bestWay = way.clone();
                bestValue = value;
            }
            return;
        }
        for (int s = 0; s <= w.sets.size(); s++) {
            int set = s;
            boolean none = s == w.sets.size();
            if (none || Arrays.stream(way, 0, i).noneMatch(got -> got == set)) {
                way[i] = none ? -1 : s;
                goThrough(members, i + 1, way, none ? value : value + worth[members.get(i)][s], worth);
            }
        }
    }

    private int[][] worths() {
        int[][] worth = new int[w.people.size()][w.sets.size()];
        for (int p = 0; p < worth.length; p++) {
            for (int s = 0; s < worth[p].length; s++) {
                worth[p][s] = w.worth(p, s);
            }
        }
        return worth;
    }

    private void findBest(List<Integer> members) {
        bestWay = null;
        goThrough(members, 0, new int[members.size()], 0, worths());
    }

    int best(int people) {
        findBest(members(people));
        return bestValue;
    }

    int bestSet(int people, int person) {
        needPerson(person);
        List<Integer> members = members(people);
        need(members.contains(person), 5);
        findBest(members);
        int got = bestWay[members.indexOf(person)];
        need(got >= 0, 8);
        return got;
    }

    /** PEOPLE with what they go with; one ring at a time leaves. */
    private Map<Integer, Integer> trading() {
        Map<Integer, Integer> came = coming();
        Map<Integer, Integer> went = new TreeMap<>();
        while (!came.isEmpty()) {
            Map<Integer, Integer> points = new LinkedHashMap<>();
            for (int p : came.keySet()) {
                int most = came.values().stream().mapToInt(s -> w.worth(p, s)).max().getAsInt();
                int to = w.worth(p, came.get(p)) == most ? came.get(p)
                        : came.values().stream().filter(s -> w.worth(p, s) == most).min(Integer::compare).get();
                points.put(p, to);
            }
            List<Integer> walk = new ArrayList<>();
            int p = came.keySet().iterator().next();
            while (!walk.contains(p)) {
                walk.add(p);
                p = w.sets.get(points.get(p)).owner;
            }
            for (int member : walk.subList(walk.indexOf(p), walk.size())) {
                went.put(member, points.get(member));
                came.remove(member);
            }
        }
        return went;
    }

    private Map<Integer, Integer> coming() {
        Map<Integer, Integer> came = new TreeMap<>();
        for (int p = 0; p < w.people.size(); p++) {
            if (!w.ownedBy(p).isEmpty()) {
                came.put(p, w.ownedBy(p).iterator().next());
            }
        }
        return came;
    }

    int trade(int person) {
        needPerson(person);
        Map<Integer, Integer> went = trading();
        need(went.containsKey(person), 8);
        return went.get(person);
    }

    int trades() {
        Map<Integer, Integer> came = coming();
        Map<Integer, Integer> went = trading();
        return (int) went.keySet().stream().filter(p -> !went.get(p).equals(came.get(p))).count();
    }

    int envies(int person, int other) {
        needPerson(person);
        needPerson(other);
        need(person != other, 5);
        int own = w.ownedBy(person).stream().mapToInt(s -> w.worth(person, s)).max().orElse(0);
        return w.ownedBy(other).stream().anyMatch(s -> w.worth(person, s) > own) ? 1 : 0;
    }

    int pick(int tray, int n, int k) {
        long[] row = has(tray);
        need(n <= row.length, 4);
        within(n, 0, 6);
        Set<Long> seen = new HashSet<>();
        for (int i = 0; i < n; i++) {
            need(row[i] >= 0 && row[i] < w.people.size() && seen.add(row[i]), 5);
        }
        need(k >= 0 && k < n, 8);
        List<Integer> left = new ArrayList<>();
        for (int s = 0; s < w.sets.size(); s++) {
            left.add(s);
        }
        Integer got = null;
        for (int i = 0; i <= k; i++) {
            int p = (int) row[i];
            got = null;
            for (int s : left) {
                if (got == null || w.worth(p, s) > w.worth(p, got)) {
                    got = s;
                }
            }
            left.remove(got);
        }
        need(got != null, 8);
        return got;
    }

    // ---- who is it

    private List<Integer> fitting(int tray, int n) {
        long[] row = has(tray);
        need(2L * n <= row.length, 4);
        within(n, 0, 20);
        for (int i = 0; i < n; i++) {
            need(row[2 * i] >= 0 && row[2 * i] <= 9999 && row[2 * i + 1] >= 0 && row[2 * i + 1] < w.subjects.size(), 5);
        }
        List<Integer> fit = new ArrayList<>();
        for (int v = 0; v < w.voices.size(); v++) {
            List<Integer> says = w.voices.get(v).row;
            boolean all = true;
            for (int i = 0; i < n; i++) {
                all &= says.get((int) (row[2 * i] % says.size())) == row[2 * i + 1];
            }
            if (all) {
                fit.add(v);
            }
        }
        return fit;
    }

    int fits(int tray, int n) {
        return bits(new TreeSet<>(fitting(tray, n)));
    }

    int ask(int tray, int n) {
        List<Integer> fit = fitting(tray, n);
        need(fit.size() >= 2, 8);
        int best = -1;
        int fewest = 99;
        for (int h = 0; h <= 99; h++) {
            Map<Integer, Integer> with = new HashMap<>();
            for (int v : fit) {
                List<Integer> says = w.voices.get(v).row;
                with.merge(says.get(h % says.size()), 1, Integer::sum);
            }
            int most = with.values().stream().max(Integer::compare).get();
            if (most < fewest) {
                fewest = most;
                best = h;
            }
        }
        return best;
    }

    // ---- what to say

    private int[] peaceful(int people) {
        List<Integer> members = members(people);
        need(!members.isEmpty(), 5);
        need(!w.subjects.isEmpty(), 8);
        int[] best = null;
        for (int s = 0; s < w.subjects.size(); s++) {
            int subject = s;
            int least = members.stream().mapToInt(p -> like(p, subject)).min().getAsInt();
            int all = members.stream().mapToInt(p -> like(p, subject)).sum();
            if (best == null || least * 100 + all > best[1] * 100 + best[2]) {
                best = new int[] {s, least, all};
            }
        }
        return best;
    }

    int peace(int people) {
        return peaceful(people)[0];
    }

    int peaceBy(int people) {
        return peaceful(people)[1];
    }

    private int[] liked(int voice) {
        needVoice(voice);
        need(!w.subjects.isEmpty(), 8);
        int[] best = null;
        for (int s = 0; s < w.subjects.size(); s++) {
            int subject = s;
            int fans = (int) crowdOf(voice).stream().filter(p -> like(p, subject) >= 5).count();
            if (best == null || fans > best[1]) {
                best = new int[] {s, fans};
            }
        }
        return best;
    }

    int popular(int voice) {
        return liked(voice)[0];
    }

    int popularBy(int voice) {
        return liked(voice)[1];
    }

    // ---- games, odds

    private int play(int[] mover, int[] waiter, Set<Integer> free, int turns) {
        if (turns == 0) {
            return 0;
        }
        int most = -play(waiter, mover, free, turns - 1);
        for (int s : free) {
            Set<Integer> left = new TreeSet<>(free);
            left.remove(s);
            most = Math.max(most, mover[s] - play(waiter, mover, left, turns - 1));
        }
        return most;
    }

    private Set<Integer> free() {
        Set<Integer> free = new TreeSet<>();
        for (int s = 0; s < w.sets.size(); s++) {
            if (w.sets.get(s).owner == null) {
                free.add(s);
            }
        }
        return free;
    }

    int game(int person, int other, int turns) {
        needPerson(person);
        needPerson(other);
        need(person != other, 5);
        within(turns, 0, 5);
        return play(worths()[person], worths()[other], free(), turns);
    }

    int moveOf(int person, int other, int turns) {
        int value = game(person, other, turns);
        within(turns, 1, 5);
        for (int s : free()) {
            Set<Integer> left = free();
            left.remove(s);
            if (w.worth(person, s) - play(worths()[other], worths()[person], left, turns - 1) == value) {
                return s;
            }
        }
        throw new Refused(8);
    }

    boolean alive(int voice, int n) {
        needVoice(voice);
        within(n, 0, 12);
        need(w.voices.get(voice).lives, 9);
        tell(BigInteger.valueOf(16 - w.odds).pow(n), BigInteger.valueOf(16).pow(n));
        return true;
    }

    boolean warm(int person) {
        needPerson(person);
        Set<Integer> living = new TreeSet<>();
        for (int s : w.ownedBy(person)) {
            for (int v : w.voicesOfSet(s)) {
                if (w.voices.get(v).lives) {
                    living.add(v);
                }
            }
        }
        BigInteger all = BigInteger.valueOf(16).pow(living.size());
        tell(all.subtract(BigInteger.valueOf(w.odds).pow(living.size())), all);
        return true;
    }

    // ---- DIALS

    private static final class Cut extends RuntimeException {
        private static final long serialVersionUID = 1;
        final boolean left;

        Cut(boolean left) {
            super(null, null, false, false);
            this.left = left;
        }
    }

    /** steps, MISSED, HOURS, died, s of the draws. */
    private static final class Tally {
        int steps;
        int missed;
        int hours;
        int died;
        long s;

        int draw(int n) {
            s = (s * 2971 + 10847) % 65536;
            return (int) (s / 8 % n);
        }
    }

    private static boolean test(World w, List<Object> words) {
        int first = (Integer) words.get(2);
        if (words.get(1).equals("lives")) {
            return w.voices.get(first).lives;
        }
        if (words.get(1).equals("owns")) {
            return w.ownedBy(first).contains(words.get(3));
        }
        int by = Integer.compare(w.people.get(first).glad, (Integer) words.get(4));
        return words.get(3).equals("<") ? by < 0 : words.get(3).equals(">") ? by > 0 : by == 0;
    }

    private static boolean act(World w, List<Object> words, Tally t) {
        String word = (String) words.get(0);
        int a = words.size() > 1 ? (Integer) words.get(1) : 0;
        switch (word) {
            case "hour":
                if (w.hour + a > 9999) {
                    return false;
                }
                for (int i = 0; i < a; i++) {
                    w.oneHour();
                    t.hours++;
                }
                return true;
            case "year":
                if (w.year + a > 999) {
                    return false;
                }
                for (int i = 0; i < a; i++) {
                    t.died += w.oneYear().size();
                }
                return true;
            case "sell":
                return w.sale(a, (Integer) words.get(2), (Integer) words.get(3));
            case "give":
                if (w.ownedBy((Integer) words.get(2)).contains(a)) {
                    return false;
                }
                w.sets.get(a).owner = (Integer) words.get(2);
                return true;
            case "cold":
                if (w.voices.get(a).cold || !w.voices.get(a).lives) {
                    return false;
                }
                w.voices.get(a).cold = true;
                return true;
            case "well":
                if (!w.voices.get(a).cold) {
                    return false;
                }
                w.voices.get(a).cold = false;
                return true;
            default:
                if (w.voices.isEmpty()) {
                    return false;
                }
                Voice v = w.voices.get(t.draw(w.voices.size()));
                boolean cold = t.draw(16) < w.odds;
                if (!v.lives) {
                    return false;
                }
                v.cold = cold;
                return true;
        }
    }

    private static void go(World w, List<Step> steps, Tally t) {
        for (Step s : steps) {
            if (t.steps == 300) {
                throw new Cut(true);
            }
            t.steps++;
            String word = (String) s.words.get(0);
            if (word.equals("stop")) {
                throw new Cut(false);
            }
            if (word.equals("when")) {
                if (test(w, s.words)) {
                    go(w, s.within, t);
                }
            } else if (word.equals("loop")) {
                for (int i = 0; i < (Integer) s.words.get(1); i++) {
                    go(w, s.within, t);
                }
            } else if (!act(w, s.words, t)) {
                t.missed++;
            }
        }
    }

    /** True if a STEP was left. */
    private static boolean live(World w, int seed, Tally t) {
        t.s = seed;
        try {
            go(w, w.dials, t);
            return false;
        } catch (Cut c) {
            return c.left;
        }
    }

    int live(int seed) {
        within(seed, 0, 9999);
        need(w.dials != null, 8);
        Tally t = new Tally();
        int before = w.total();
        boolean left = live(w, seed, t);
        lived = new int[] {t.missed, t.hours, w.total() - before, t.died, left ? 1 : 0};
        return t.steps;
    }

    int lived(int what) {
        within(what, 0, 4);
        need(lived != null, 8);
        return lived[what];
    }

    boolean mean(int seed, int many) {
        within(seed, 0, 9999);
        within(many, 1, 20);
        within(seed + many - 1, 0, 9999);
        need(w.dials != null, 8);
        BigInteger sum = BigInteger.ZERO;
        for (int i = 0; i < many; i++) {
            World then = w.copy();
            live(then, seed + i, new Tally());
            sum = sum.add(BigInteger.valueOf(then.total()));
        }
        tell(sum, BigInteger.valueOf(many));
        return true;
    }

    // ---- MARKS

    int mark() {
        need(marks.size() < 3, 7);
        marks.add(w.copy());
        return marks.size();
    }

    int back() {
        need(!marks.isEmpty(), 8);
        w = marks.remove(marks.size() - 1);
        return marks.size();
    }

    World world() {
        return w;
    }
}
