/** Promises 49 to 52: GAME, MOVE, ALIVE, WARM. */
public final class OddsTest {
    private static final Check check = new Check();
    private static final String PLAIN = "subject a;subject b;subject c;voice va age 1 life 9 says a;"
            + "voice vb age 1 life 9 says b;voice vc age 1 life 9 says c;person p;person q;"
            + "set qa gets va;set qb gets vb;set qc gets vc;";

    public static void main(String[] args) {
        game();
        faults();
        alive();
        warm();
        check.end();
    }

    private static void game() {
        LicensedVoice x = Check.inTown(PLAIN);
        x.please(0, 0, 5);
        x.please(0, 1, 4);
        x.please(0, 2, 1);
        x.please(1, 1, 9);
        x.please(1, 2, 8);
        check.due("no turns", x.game(0, 1, 0), 0);
        check.due("one takes the best", x.game(0, 1, 1), 60);
        check.due("its set", x.moveOf(0, 1, 1), 0);
        // qb leaves the second qc (48 - 96); qa leaves qb (60 - 108).
        check.due("two", x.game(0, 1, 2), -48);
        check.due("-1 is no STATUS", x.status(), 0);
        check.due("two: of both the first", x.moveOf(0, 1, 2), 0);
        // qa 60, then qb 108 for the second, qc 12: -36; or qb 48, qc 96, qa 60: 12.
        check.due("three", x.game(0, 1, 3), 12);
        check.due("three: the second set", x.moveOf(0, 1, 3), 1);
        check.due("more turns than sets", x.game(0, 1, 5), 12);
        check.due("the other way", x.game(1, 0, 1), 108);
        x.give(1, 0);
        check.due("an owned one is out", x.game(1, 0, 1), 96);
        check.due("its set", x.moveOf(1, 0, 1), 2);
        x.give(0, 0);
        x.give(2, 0);
        check.due("nothing to take", x.game(0, 1, 5), 0);
        check.refused("none", x, x.moveOf(0, 1, 5), 8);
        LicensedVoice y = Check.inTown(PLAIN);
        check.due("worth nothing", y.game(0, 1, 4), 0);
        check.due("none comes last", y.moveOf(0, 1, 1), 0);
        y.please(1, 0, 3);
        check.due("what the other wants", y.moveOf(0, 1, 2), 0);
        check.due("takes it from him", y.game(0, 1, 2), 0);
    }

    private static void faults() {
        LicensedVoice x = Check.inTown(PLAIN);
        check.refused("who", x, x.game(2, 2, 9), 2);
        check.refused("who", x, x.game(0, -1, 1), 2);
        check.refused("himself", x, x.game(1, 1, 1), 5);
        check.refused("turns", x, x.game(0, 1, 6), 5);
        check.refused("turns", x, x.game(0, 1, -1), 5);
        check.refused("who", x, x.moveOf(2, 0, 0), 2);
        check.refused("himself", x, x.moveOf(0, 0, 1), 5);
        check.refused("turns", x, x.moveOf(0, 1, 0), 5);
        check.refused("turns", x, x.moveOf(0, 1, 6), 5);
    }

    private static void alive() {
        LicensedVoice x = Check.inTown(Check.TOWN);
        check.fraction("now", x, x.alive(0, 0), 1, 1);
        check.fraction("1", x, x.alive(0, 1), 3, 4);
        check.fraction("its life is not asked", x, x.alive(2, 12), 531441, 16777216);
        x.rule(1);
        check.fraction("12", x, x.alive(0, 12), 129746337890625L, 1L << 48);
        x.rule(16);
        check.fraction("surely not", x, x.alive(0, 3), 0, 1);
        check.fraction("now", x, x.alive(0, 0), 1, 1);
        x.rule(0);
        check.fraction("surely", x, x.alive(0, 12), 1, 1);
        check.denied("who", x, x.alive(3, 13), 2);
        check.denied("n", x, x.alive(0, 13), 5);
        check.denied("n", x, x.alive(0, -1), 5);
        x.year(1);
        check.denied("dead", x, x.alive(2, 0), 9);
        check.denied("5 is ahead of 9", x, x.alive(2, 13), 5);
    }

    private static void warm() {
        LicensedVoice x = Check.inTown(Check.TOWN);
        check.fraction("ann, one", x, x.warm(0), 3, 4);
        check.fraction("cyd, two", x, x.warm(2), 15, 16);
        x.give(1, 2);
        check.fraction("cyd, still two", x, x.warm(2), 15, 16);
        x.give(0, 2);
        check.fraction("cyd, three", x, x.warm(2), 63, 64);
        check.fraction("ann, none", x, x.warm(0), 0, 1);
        x.cold(1, true);
        check.fraction("as colds are does not matter", x, x.warm(2), 63, 64);
        x.year(1);
        check.fraction("aunt is dead", x, x.warm(2), 15, 16);
        x.rule(16);
        check.fraction("surely not", x, x.warm(2), 0, 1);
        x.rule(0);
        check.fraction("surely", x, x.warm(2), 1, 1);
        check.fraction("ann, none", x, x.warm(0), 0, 1);
        check.denied("who", x, x.warm(3), 2);
        check.due("top stays", x.top(), 0);
    }
}
