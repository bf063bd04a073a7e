/** Promises 36 to 42: WORTH, BEST, TRADES, ENVY, PICKS. */
public final class DealsTest {
    private static final Check check = new Check();
    /** Four voices that say one subject each, a set of each of them. */
    private static final String PLAIN = "subject a;subject b;subject c;subject d;voice va age 1 life 9 says a;"
            + "voice vb age 1 life 9 says b;voice vc age 1 life 9 says c;voice vd age 1 life 9 says d;"
            + "person pa;person pb;person pc;person pd;set qa gets va;set qb gets vb;set qc gets vc;set qd gets vd;";

    public static void main(String[] args) {
        worth();
        best();
        bestOfSeveral();
        trades();
        tradesInRounds();
        tradesByOne();
        envy();
        picks();
        pickFaults();
        check.end();
    }

    private static void worth() {
        LicensedVoice x = Check.inTown(Check.TOWN);
        check.due("ann oak", x.worth(0, 0), 42);
        check.due("ben old", x.worth(1, 3), 8 * 6 + 12 * 3);
        check.due("cyd box", x.worth(2, 2), 12 * 9 + 6);
        check.refused("worth", x, x.worth(3, 0), 2);
        check.refused("worth", x, x.worth(0, 4), 2);
        x.hour(1);
        check.due("only what lies ahead", x.worth(0, 0), 42);
        x.teach(0, 0);
        x.teach(0, 0);
        x.teach(0, 0);
        // From HOUR 1 on: rain fish fish fish god, rain fish fish fish god, rain fish.
        check.due("from now on", x.worth(0, 0), 7 * 2 + 2 * 7);
        x.cold(0, true);
        check.due("of a cold voice", x.worth(0, 0), 0);
    }

    private static void best() {
        LicensedVoice x = Check.inTown(Check.TOWN);
        check.due("all", x.best(7), 42 + 84 + 114);
        check.due("ann", x.bestSet(7, 0), 0);
        check.due("ben", x.bestSet(7, 1), 3);
        check.due("cyd", x.bestSet(7, 2), 2);
        check.due("nobody", x.best(0), 0);
        check.refused("best", x, x.best(8), 5);
        check.refused("best", x, x.best(-1), 5);
        check.due("two", x.best(6), 84 + 114);
        check.refused("best set", x, x.bestSet(8, 3), 2);
        check.refused("best set", x, x.bestSet(8, 0), 5);
        check.refused("best set", x, x.bestSet(-1, 0), 5);
        check.refused("not in it", x, x.bestSet(6, 0), 5);
    }

    private static void bestOfSeveral() {
        LicensedVoice x = Check.inTown("subject a;voice v age 1 life 2 says a;person p;person q;person r;set e gets v;set f gets v;");
        check.due("worth nothing", x.best(7), 0);
        check.due("the first", x.bestSet(7, 0), 0);
        check.due("the second", x.bestSet(7, 1), 1);
        check.refused("none is left", x, x.bestSet(7, 2), 8);
        x.please(2, 0, 1);
        check.due("worth", x.best(7), 12);
        check.due("the first", x.bestSet(7, 0), 0);
        check.refused("none for the second", x, x.bestSet(7, 1), 8);
        check.due("the third", x.bestSet(7, 2), 1);
        LicensedVoice y = Check.inTown("subject a;person p;person q;");
        check.due("no sets", y.best(3), 0);
        check.refused("no sets", y, y.bestSet(3, 1), 8);
    }

    private static void trades() {
        LicensedVoice x = Check.inTown(Check.TOWN);
        check.due("ann", x.trade(0), 0);
        check.due("ben", x.trade(1), 1);
        check.due("cyd", x.trade(2), 3);
        check.due("how many", x.trades(), 2);
        check.due("nothing changed", x.person(0, 3), 2);
        check.refused("who", x, x.trade(3), 2);
        x.dump(1);
        check.refused("owns none", x, x.trade(0), 8);
        check.due("how many", x.trades(), 0);
    }

    private static void tradesInRounds() {
        LicensedVoice x = Check.inTown(PLAIN);
        for (int p = 0; p < 4; p++) {
            x.give(p, p);
        }
        check.due("his own, if all are as good", x.trades(), 0);
        // pa, pb, pc want qb, qa, qa most; pc then qd, pd then qc.
        x.please(0, 1, 5);
        x.please(1, 0, 5);
        x.please(2, 0, 9);
        x.please(2, 3, 3);
        x.please(3, 2, 1);
        x.please(3, 0, 1);
        check.due("pa", x.trade(0), 1);
        check.due("pb", x.trade(1), 0);
        check.due("pc", x.trade(2), 3);
        check.due("pd", x.trade(3), 2);
        check.due("how many", x.trades(), 4);
        // pd has two sets and comes with the first of these alone.
        x.give(2, 3);
        check.refused("pc owns none", x, x.trade(2), 8);
        check.due("pd stays with the first", x.trade(3), 2);
        x.please(3, 3, 9);
        check.due("the second is not there", x.trade(3), 2);
        x.please(3, 2, 0);
        x.please(3, 0, 2);
        x.please(3, 1, 2);
        x.please(0, 1, 0);
        x.please(1, 0, 0);
        x.please(0, 2, 4);
        x.please(1, 2, 4);
        check.due("the first of the best", x.trade(3), 0);
        check.due("pa", x.trade(0), 2);
        check.due("pb", x.trade(1), 1);
        check.due("two", x.trades(), 2);
    }

    /** In 12 hours u says a three times, v twice; b nine times, v ten times. */
    private static void tradesByOne() {
        LicensedVoice x = Check.inTown("subject a;subject b;voice u age 1 life 2 says a b b b b;voice v age 1 life 2 says a b b b b b b b;"
                + "person p;person q;likes p a 1;likes q b 1;set e gets v for p;set f gets u for q;");
        check.due("p", x.trade(0), 1);
        check.due("q", x.trade(1), 0);
        check.due("both", x.trades(), 2);
        check.due("p envies q", x.envies(0, 1), 1);
    }

    private static void envy() {
        LicensedVoice x = Check.inTown(Check.TOWN);
        check.due("ann ben", x.envies(0, 1), 1);
        check.due("ann cyd", x.envies(0, 2), 0);
        check.due("ben cyd", x.envies(1, 2), 1);
        check.due("cyd ann", x.envies(2, 0), 0);
        check.refused("himself", x, x.envies(1, 1), 5);
        check.refused("who", x, x.envies(3, 3), 2);
        check.refused("who", x, x.envies(0, -1), 2);
        x.dump(0);
        check.due("who owns nothing envies", x.envies(1, 0), 1);
        check.due("nobody envies who owns nothing", x.envies(0, 1), 0);
        x.please(1, 0, 0);
        x.please(1, 2, 0);
        check.due("worth nothing is not envied", x.envies(1, 0), 0);
        LicensedVoice y = Check.inTown(PLAIN);
        y.give(0, 0);
        y.give(1, 1);
        y.give(2, 1);
        y.please(0, 0, 5);
        y.please(0, 1, 3);
        y.please(0, 2, 4);
        check.due("each alone, not together", y.envies(0, 1), 0);
        y.please(0, 2, 6);
        check.due("the best of them", y.envies(0, 1), 1);
    }

    private static void picks() {
        LicensedVoice x = Check.inTown(Check.TOWN);
        x.tray(0, 0, 3);
        x.write(0, 0, 2);
        x.write(0, 1, 0);
        x.write(0, 2, 1);
        check.due("cyd", x.pick(0, 3, 0), 2);
        check.due("ann", x.pick(0, 3, 1), 0);
        check.due("ben", x.pick(0, 3, 2), 3);
        x.write(0, 0, 0);
        x.write(0, 1, 2);
        check.due("ann, of two the first", x.pick(0, 1, 0), 0);
        check.due("cyd", x.pick(0, 2, 1), 2);
        x.dump(0);
        x.cold(0, true);
        x.cold(1, true);
        x.cold(2, true);
        check.due("worth nothing is taken, too", x.pick(0, 3, 2), 2);
        LicensedVoice y = Check.inTown("subject a;voice v age 1 life 2 says a;person p;person q;set e gets v for q;");
        y.tray(1, 3, 2);
        y.write(1, 1, 1);
        check.due("p", y.pick(1, 2, 0), 0);
        check.refused("none is left", y, y.pick(1, 2, 1), 8);
    }

    private static void pickFaults() {
        LicensedVoice x = Check.inTown(Check.TOWN);
        check.refused("pick", x, x.pick(4, 9, 9), 1);
        check.refused("pick", x, x.pick(-1, 9, 9), 1);
        check.refused("pick", x, x.pick(0, 9, 9), 3);
        x.tray(0, 3, 10);
        check.refused("too few", x, x.pick(0, 11, 0), 4);
        check.refused("too few", x, x.pick(0, Integer.MAX_VALUE, 0), 4);
        check.refused("above 6", x, x.pick(0, 7, 0), 5);
        check.refused("below 0", x, x.pick(0, -1, 0), 5);
        check.refused("twice", x, x.pick(0, 2, 0), 5);
        x.write(0, 1, 3);
        check.refused("nobody", x, x.pick(0, 2, 0), 5);
        x.write(0, 1, -1);
        check.refused("nobody", x, x.pick(0, 2, 0), 5);
        x.write(0, 1, 1L << 32 | 1);
        check.refused("far", x, x.pick(0, 2, 9), 5);
        check.due("what is behind does not matter", x.pick(0, 1, 0), 0);
        check.refused("no such place", x, x.pick(0, 1, 1), 8);
        check.refused("no such place", x, x.pick(0, 1, -1), 8);
        check.refused("no such place", x, x.pick(0, 0, 0), 8);
    }
}
