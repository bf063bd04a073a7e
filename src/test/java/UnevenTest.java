/**
 * All promises: TOWNS with many of one kind and few of the others, so that no number of one kind is taken for
 * that of another one; and two calls of unlike kinds one behind the other.
 */
public final class UnevenTest {
    private static final Check check = new Check();

    interface By {
        long on(LicensedVoice x, int number);
    }

    private static final By[] OF_SUBJECT = {(x, n) -> x.like(0, n), (x, n) -> x.please(0, n, 3), (x, n) -> x.teach(0, n)};
    private static final By[] OF_VOICE = {(x, n) -> x.voice(n, 0), (x, n) -> x.row(n, 0), (x, n) -> x.cold(n, true) ? 1 : -1,
        (x, n) -> x.flaw(0, n) ? 1 : -1, (x, n) -> x.teach(n, 0), (x, n) -> x.saysIn(n, 0), (x, n) -> x.diesIn(n), (x, n) -> x.crowd(n),
        (x, n) -> x.popular(n), (x, n) -> x.popularBy(n), (x, n) -> x.alive(n, 1) ? 1 : -1};
    private static final By[] OF_PERSON = {(x, n) -> x.person(n, 0), (x, n) -> x.like(n, 0), (x, n) -> x.sell(0, n, 0), (x, n) -> x.give(0, n),
        (x, n) -> x.please(n, 0, 3), (x, n) -> x.hearsIn(n, 0), (x, n) -> x.gladIn(n, 0), (x, n) -> x.gladBy(n, 0), (x, n) -> x.lonelyIn(n),
        (x, n) -> x.worth(n, 0), (x, n) -> x.bestSet(1 << n, n), (x, n) -> x.trade(n), (x, n) -> x.envies(n, n == 0 ? 1 : 0),
        (x, n) -> x.envies(n == 0 ? 1 : 0, n), (x, n) -> x.game(n, n == 0 ? 1 : 0, 0), (x, n) -> x.game(n == 0 ? 1 : 0, n, 0),
        (x, n) -> x.moveOf(n, n == 0 ? 1 : 0, 1), (x, n) -> x.moveOf(n == 0 ? 1 : 0, n, 1), (x, n) -> x.warm(n) ? 1 : -1};
    private static final By[] OF_SET = {(x, n) -> x.set(n, 0), (x, n) -> x.sell(n, 0, 0), (x, n) -> x.give(n, 0), (x, n) -> x.dump(n),
        (x, n) -> x.flaw(n, 1) ? 1 : -1, (x, n) -> x.worth(0, n)};

    public static void main(String[] args) {
        for (int[] many : new int[][] {{2, 3, 4, 5}, {5, 4, 3, 2}, {3, 5, 2, 4}, {4, 2, 5, 3}, {6, 2, 6, 2}, {2, 6, 2, 6}}) {
            numbers(many);
            setsOfPeople(many);
            trays(many);
        }
        oneOfAllBut(0);
        oneOfAllBut(1);
        oneOfAllBut(2);
        oneOfAllBut(3);
        lastOfMany();
        nobodyElse();
        oneBehindAnother();
        check.end();
    }

    /** SET 0 is for nobody but the last PERSON; the VOICES SAY the last SUBJECT. */
    private static LicensedVoice town(int[] many) {
        StringBuilder text = new StringBuilder();
        for (int i = 0; i < many[0]; i++) {
            text.append("subject s").append((char) ('a' + i)).append(';');
        }
        for (int i = 0; i < many[1]; i++) {
            text.append("voice v").append((char) ('a' + i)).append(" age 1 life 9 says s").append((char) ('a' + many[0] - 1)).append(';');
        }
        for (int i = 0; i < many[2]; i++) {
            text.append("person p").append((char) ('a' + i)).append(';');
        }
        for (int i = 0; i < many[3]; i++) {
            text.append("set e").append((char) ('a' + i)).append(" gets va;");
        }
        LicensedVoice x = Check.inTown(text.toString());
        for (int kind = 0; kind < 4; kind++) {
            check.due("many", x.many(kind), many[kind]);
        }
        return x;
    }

    private static void numbers(int[] many) {
        By[][] all = {OF_SUBJECT, OF_VOICE, OF_PERSON, OF_SET};
        for (int kind = 0; kind < 4; kind++) {
            for (int call = 0; call < all[kind].length; call++) {
                for (int n = 0; n <= 7; n++) {
                    LicensedVoice x = town(many);
                    all[kind][call].on(x, n);
                    boolean flawOfNone = kind == 1 && call == 3 && n == 6;
                    boolean there = n < many[kind] || flawOfNone;
                    check.due("STATUS 2 of kind " + kind + ", call " + call + " by " + n, x.status() == 2, !there);
                }
            }
        }
    }

    private static void setsOfPeople(int[] many) {
        LicensedVoice x = town(many);
        int all = (1 << many[2]) - 1;
        check.due("best of all", x.best(all), 0);
        check.refused("best of one more", x, x.best(all + 1), 5);
        check.due("peace of all", x.peace(all), 0);
        check.refused("peace of one more", x, x.peace(all + 1), 5);
        check.due("peaceBy of all", x.peaceBy(all), 0);
        check.refused("peaceBy of one more", x, x.peaceBy(all + 1), 5);
        check.refused("bestSet of one more", x, x.bestSet(all + 1, 0), 5);
    }

    private static void trays(int[] many) {
        LicensedVoice x = town(many);
        x.tray(0, 3, 6);
        for (int i = 0; i < 6; i++) {
            x.write(0, i, i);
        }
        for (int n = 0; n <= 6; n++) {
            x.pick(0, n, 0);
            check.due("PEOPLE of a TRAY", x.status(), n > many[2] ? 5 : n == 0 ? 8 : 0);
        }
        x.write(0, 0, 0);
        for (int s = 0; s < 8; s++) {
            x.write(0, 1, s);
            int due = s >= many[0] ? -1 : s == many[0] - 1 ? (1 << many[1]) - 1 : 0;
            check.due("SUBJECTS of a TRAY", x.fits(0, 1), due);
            check.due("SUBJECTS of a TRAY", x.status(), s >= many[0] ? 5 : 0);
        }
    }

    /** Six of one kind, one or two of the others; the last of the six counts. */
    private static void oneOfAllBut(int kind) {
        int[] many = {1, 1, 2, 1};
        many[kind] = 6;
        LicensedVoice x = town(many);
        int subject = many[0] - 1;
        int person = many[2] - 1;
        int set = many[3] - 1;
        int voice = many[1] - 1;
        x.please(person, subject, 7);
        check.due("crowd of nobody", x.crowd(0), 0);
        x.give(set, person);
        check.due("crowd", x.crowd(0), 1 << person);
        if (voice > 0) {
            x.cold(0, true);
            check.due("hears nothing", x.hearsIn(person, 0), 0);
            x.flaw(set, voice);
        }
        check.due("hears", x.hearsIn(person, 0), 1 << subject);
        check.due("worth", x.worth(person, set), 84);
        check.due("gladIn", x.gladIn(person, 3), 21);
        check.due("hour", x.hour(2), 14);
        check.due("glad", x.person(person, 1), 14);
        check.due("glad of all", x.many(11), 14);
        check.due("lonely", x.person(person, 2), 0);
        check.due("lonely others", x.person(0, 2), 2);
        check.due("coins of all", x.many(10), 10 * many[2]);
        check.due("best", x.best((1 << many[2]) - 1), 84);
        check.due("bestSet", x.bestSet(1 << person, person), many[1] > 1 ? set : 0);
        check.due("trade", x.trade(person), set);
        check.due("trades", x.trades(), 0);
        check.due("envies", x.envies(person, 0), 0);
        check.due("peace", x.peace(1 << person), subject);
        check.due("peaceBy", x.peaceBy(1 << person), 7);
        check.due("popular", x.popular(voice), subject);
        check.due("popularBy", x.popularBy(voice), 1);
        x.dump(set);
        check.due("game", x.game(person, 0, 1), 84);
        check.due("moveOf", x.moveOf(person, 0, 1), 0);
        x.tray(0, 0, 2);
        x.write(0, 0, person);
        check.due("pick", x.pick(0, 1, 0), 0);
        colds(x, many);
        x.give(set, person);
        check.due("year", x.year(8), (1 << many[1]) - 1);
    }

    /** any draws by how many VOICES there are. */
    private static void colds(LicensedVoice x, int[] many) {
        for (int v = 0; v < many[1]; v++) {
            x.cold(v, false);
        }
        x.rule(16);
        Check.dials(x, "any;");
        for (int seed = 0; seed < 12; seed++) {
            x.live(seed);
            int voice = (seed * 2971 + 10847) % 65536 / 8 % many[1];
            check.due("any", x.many(8), 1 << voice);
            x.cold(voice, false);
        }
    }

    private static void lastOfMany() {
        LicensedVoice x = Check.inTown("subject a;subject b;voice v age 1 life 9 says a;voice w age 1 life 9 says b;"
                + "person m;person n;person o;person p;person q;person r;likes q a 1;likes r b 3;set s gets v for r;set t gets w for q;");
        check.due("the last two trade", x.trades(), 2);
        check.due("trade", x.trade(4), 0);
        check.due("trade", x.trade(5), 1);
        check.due("LIKED by the last together", x.peace(63), 1);
        check.due("by 0", x.peaceBy(63), 0);
        x.please(4, 0, 3);
        check.due("of two the first", x.peace(63), 0);
        LicensedVoice y = Check.inTown("subject a;subject b;voice u age 1 life 9 says a;voice v age 1 life 9 says b a;"
                + "voice w age 1 life 9 says a b;voice x age 1 life 9 says a b;");
        y.tray(0, 0, 0);
        check.due("three of four in 0, two in 1", y.ask(0, 0), 1);
        LicensedVoice z = Check.inTown("subject a;subject b;subject c;subject d;subject e;subject f;"
                + "voice v age 1 life 9 says f a;voice w age 1 life 9 says f b;");
        z.tray(0, 0, 0);
        check.due("two in 0, one in 1", z.ask(0, 0), 1);
        LicensedVoice mute = Check.inTown("subject a;subject b;person p;likes p b 3;");
        check.due("without VOICES", mute.peace(1), 1);
        check.due("without VOICES", mute.peaceBy(1), 3);
    }

    private static void nobodyElse() {
        LicensedVoice x = Check.inTown("person p;person q;");
        check.due("nobody lives", x.many(7), 0);
        check.due("nobody has a cold", x.many(8), 0);
        check.due("no SETS", x.many(9), 0);
        check.due("LONELY", x.hour(3), 0);
        check.due("LONELY", x.person(1, 2), 3);
        check.due("best", x.best(3), 0);
        check.refused("bestSet", x, x.bestSet(3, 0), 8);
        check.refused("trade", x, x.trade(1), 8);
        check.due("trades", x.trades(), 0);
        check.due("envies", x.envies(0, 1), 0);
        check.due("game", x.game(0, 1, 5), 0);
        check.refused("moveOf", x, x.moveOf(0, 1, 5), 8);
        check.due("lonelyIn", x.lonelyIn(0), 0);
        check.fraction("warm", x, x.warm(0), 0, 1);
        LicensedVoice y = Check.inTown("subject s;");
        check.due("nobody lives", y.many(7), 0);
        check.due("best of nobody", y.best(0), 0);
        check.refused("peace of nobody", y, y.peace(0), 5);
        check.due("trades", y.trades(), 0);
        check.due("nobody DIES", y.year(99), 0);
        check.due("nobody is GLAD", y.hour(99), 0);
        LicensedVoice z = Check.inTown("subject s;voice v age 1 life 2 says s;set e gets v;");
        check.due("crowd of nobody", z.crowd(0), 0);
        check.due("popular with nobody", z.popular(0), 0);
        check.due("popular with nobody", z.popularBy(0), 0);
        check.due("best of nobody", z.best(0), 0);
        check.due("nobody's", z.many(9), 1);
    }

    /** What one call worked out is nothing to the next one. */
    private static void oneBehindAnother() {
        LicensedVoice x = town(new int[] {6, 2, 2, 6});
        x.please(0, 5, 9);
        x.please(1, 5, 4);
        check.due("game", x.game(0, 1, 5), (9 - 4 + 9 - 4 + 9) * 12);
        check.due("best of nobody", x.best(0), 0);
        check.due("best", x.best(3), 13 * 12);
        check.due("game", x.game(1, 0, 5), (4 - 9 + 4 - 9 + 4) * 12);
        check.due("best of one", x.best(2), 48);
        check.due("bestSet", x.bestSet(3, 1), 1);
        check.due("game of none", x.game(0, 1, 0), 0);
        check.due("moveOf", x.moveOf(0, 1, 5), 0);
        x.give(0, 1);
        check.due("trade", x.trade(1), 0);
        x.dump(0);
        check.refused("trade", x, x.trade(1), 8);
        check.due("trades", x.trades(), 0);
    }
}
