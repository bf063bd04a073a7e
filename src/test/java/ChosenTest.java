/**
 * Promises 36 to 52: the last values that are taken on either side, in a TOWN of six of each and in small ones.
 * What is refused beyond them stands in RefusedTest.
 */
public final class ChosenTest {
    private static final Check check = new Check();
    /** Six VOICES that SAY one SUBJECT each, a SET of each; nobody LIKES or owns anything. */
    private static final String SIX = "subject a;subject b;subject c;subject d;subject e;subject f;"
            + "voice va age 1 life 9 says a;voice vb age 1 life 9 says b;voice vc age 1 life 9 says c;"
            + "voice vd age 1 life 9 says d;voice ve age 1 life 9 says e;voice vf age 1 life 9 says f;"
            + "person pa;person pb;person pc;person pd;person pe;person pf;"
            + "set sa gets va;set sb gets vb;set sc gets vc;set sd gets vd;set se gets ve;set sf gets vf;";

    public static void main(String[] args) {
        worth();
        best();
        bestFirst();
        trades();
        tradesOfTails();
        envies();
        picks();
        fits();
        asks();
        asksOfMost();
        peace();
        popular();
        games();
        moves();
        alive();
        warm();
        check.end();
    }

    // ---- promises 36 to 42

    private static void worth() {
        LicensedVoice x = Check.inTown("subject a;subject b;voice v age 1 life 2 says b b b a b b b b;voice w age 1 life 2 says b b b b a b b b;"
                + "person p;likes p a 9;set s gets v;set t gets w for p;set u gets w flaw v;");
        check.due("the twelfth HOUR counts", x.worth(0, 0), 18);
        check.due("the thirteenth does not", x.worth(0, 1), 9);
        check.due("both VOICES", x.worth(0, 2), 27);
        x.hour(4);
        check.due("HOURS 4 to 15", x.worth(0, 0), 9);
        check.due("HOURS 4 to 15", x.worth(0, 1), 18);
        x.flaw(1, 0);
        x.cold(1, true);
        check.due("of a cold VOICE by the other", x.worth(0, 1), 9);
        x.year(1);
        check.due("of dead VOICES", x.worth(0, 2), 0);
        LicensedVoice y = Check.inTown(Check.FULL);
        int[][] due = {{108, 108, 3, 28, 12, 12}, {0, 0, 45, 18, 0, 18}, {0, 36, 66, 27, 0, 39}, {0, 0, 9, 3, 36, 36},
            {24, 24, 0, 6, 0, 0}, {108, 150, 41, 57, 108, 122}};
        for (int p = 0; p < 6; p++) {
            for (int s = 0; s < 6; s++) {
                check.due("worth " + p + ", " + s, y.worth(p, s), due[p][s]);
            }
        }
    }

    private static void best() {
        LicensedVoice x = Check.inTown(Check.FULL);
        check.due("nobody", x.best(0), 0);
        check.due("the first alone", x.best(1), 108);
        check.due("the first alone", x.bestSet(1, 0), 0);
        check.due("the last alone", x.best(32), 150);
        check.due("the last alone", x.bestSet(32, 5), 1);
        // s to m, t to r, u to n, v to q, w to p, x to o: 108 + 150 + 45 + 6 + 36 + 39.
        check.due("all", x.best(63), 384);
        int[] due = {0, 2, 5, 4, 3, 1};
        for (int p = 0; p < 6; p++) {
            check.due("all", x.bestSet(63, p), due[p]);
        }
    }

    private static void bestFirst() {
        LicensedVoice x = Check.inTown(SIX);
        for (int p = 0; p < 6; p++) {
            check.due("worth nothing, the first", x.bestSet(63, p), p);
        }
        check.due("of two", x.bestSet(48, 5), 1);
        x.please(5, 0, 1);
        check.due("who wants the first", x.bestSet(63, 5), 0);
        check.due("the second for the first", x.bestSet(63, 0), 1);
        x.please(0, 0, 1);
        check.due("both want it, the first gets it", x.bestSet(33, 0), 0);
        check.due("the other the second", x.bestSet(33, 5), 1);
        x.please(5, 5, 1);
        check.due("both get one", x.best(33), 24);
        check.due("the last SET", x.bestSet(33, 5), 5);
        LicensedVoice y = Check.inTown("subject a;voice v age 1 life 2 says a;person p;person q;person r;likes r a 1;set s gets v;");
        check.refused("none for the first", y, y.bestSet(7, 0), 8);
        check.refused("none for the second", y, y.bestSet(7, 1), 8);
        check.due("it is for the third", y.bestSet(7, 2), 0);
        check.due("but for him the first gets it", y.bestSet(3, 0), 0);
        check.refused("and not the second", y, y.bestSet(3, 1), 8);
    }

    private static void trades() {
        LicensedVoice x = Check.inTown(SIX);
        check.due("nobody owns one", x.trades(), 0);
        for (int p = 0; p < 6; p++) {
            check.refused("he owns none", x, x.trade(p), 8);
        }
        for (int p = 0; p < 6; p++) {
            x.give(p, p);
            x.please(p, (p + 1) % 6, 1);
        }
        check.due("a ring of six", x.trades(), 6);
        for (int p = 0; p < 6; p++) {
            check.due("the next one's", x.trade(p), (p + 1) % 6);
        }
        x.please(5, 5, 1);
        check.due("his own is among the best, then theirs, too", x.trades(), 0);
        for (int p = 0; p < 6; p++) {
            check.due("his own", x.trade(p), p);
        }
        x.dump(5);
        x.please(4, 0, 1);
        check.due("a ring of five", x.trades(), 5);
        check.due("the first of two that are as good, of those there", x.trade(4), 0);
        check.refused("he owns none", x, x.trade(5), 8);
    }

    /** pa and pb change; pc wants sa, then sd; pd wants sb, then sc; pe sa, then se; pf se, then sf. */
    private static void tradesOfTails() {
        LicensedVoice x = Check.inTown(SIX);
        for (int p = 0; p < 6; p++) {
            x.give(p, p);
        }
        int[][] likes = {{0, 1, 9}, {1, 0, 9}, {2, 0, 9}, {2, 3, 5}, {3, 1, 9}, {3, 2, 5}, {4, 0, 9}, {5, 4, 9}, {5, 3, 2}};
        for (int[] like : likes) {
            x.please(like[0], like[1], like[2]);
        }
        int[] due = {1, 0, 3, 2, 4, 5};
        for (int p = 0; p < 6; p++) {
            check.due("trade " + p, x.trade(p), due[p]);
        }
        check.due("four", x.trades(), 4);
        x.please(4, 5, 1);
        check.due("the last two in the third round", x.trades(), 6);
        check.due("pe", x.trade(4), 5);
        check.due("pf", x.trade(5), 4);
        // Others own the SETS the other way round: of several the first SET, not that of the first PERSON.
        LicensedVoice z = Check.inTown(SIX);
        z.give(3, 0);
        z.give(1, 1);
        z.give(2, 2);
        z.give(5, 3);
        z.please(3, 1, 4);
        z.please(3, 2, 4);
        z.please(3, 3, 4);
        z.please(1, 5, 1);
        check.due("the first SET", z.trade(3), 1);
        check.due("whose PERSON takes the last", z.trade(1), 5);
        check.due("the first PERSON stays", z.trade(0), 3);
        z.please(0, 5, 1);
        check.due("the first SET, though both want the last", z.trade(3), 1);
        check.due("who has it gets the last", z.trade(1), 5);
        check.due("the other does not", z.trade(0), 3);
        z.please(1, 5, 0);
        check.due("in the second round, as the two first SETS are gone", z.trade(0), 5);
        check.due("the third of these", z.trade(3), 3);
        check.due("both", z.trades(), 2);
        // All want the same ones: one leaves in each round, with his own.
        LicensedVoice y = Check.inTown(SIX);
        for (int p = 0; p < 6; p++) {
            y.give(5 - p, p);
            for (int s = 0; s < 6; s++) {
                y.please(p, s, 9 - s);
            }
        }
        check.due("six rounds", y.trades(), 0);
        check.due("the first to leave", y.trade(5), 0);
        check.due("the last to leave", y.trade(0), 5);
    }

    private static void envies() {
        LicensedVoice x = Check.inTown(SIX);
        check.due("nobody owns one", x.envies(0, 5), 0);
        x.give(5, 5);
        check.due("worth 0 to who owns none", x.envies(0, 5), 0);
        x.please(0, 5, 1);
        check.due("worth 12 to who owns none", x.envies(0, 5), 1);
        check.due("not the other way", x.envies(5, 0), 0);
        x.give(0, 0);
        x.please(0, 0, 1);
        check.due("as much as his own", x.envies(0, 5), 0);
        x.please(0, 5, 2);
        check.due("more than his own", x.envies(0, 5), 1);
        x.give(1, 0);
        x.please(0, 1, 2);
        check.due("as much as the best of his own", x.envies(0, 5), 0);
        x.give(2, 5);
        x.please(0, 2, 3);
        check.due("one of the other's", x.envies(0, 5), 1);
        check.due("one of the other's, to the last", x.envies(5, 0), 0);
        x.please(5, 1, 9);
        check.due("to the last", x.envies(5, 0), 1);
        LicensedVoice y = Check.inTown("subject a;subject b;voice v age 1 life 2 says b b b b a b b b;voice w age 1 life 2 says b;"
                + "person p;person q;likes p a 1;set s gets v for q;set t gets w for p;");
        check.due("1 against 0", y.envies(0, 1), 1);
        y.dump(1);
        check.due("1 against nothing", y.envies(0, 1), 1);
    }

    private static void picks() {
        LicensedVoice x = Check.inTown(Check.FULL);
        x.tray(0, 0, 6);
        x.tray(1, 3, 60);
        for (int i = 0; i < 6; i++) {
            x.write(0, i, 5 - i);
            x.write(1, i, i);
        }
        // r t (150), q s (24), p w (36, the first of two), o u (66), n v or x (18), m x or v.
        int[] due = {1, 0, 4, 2, 3, 5};
        for (int k = 0; k < 6; k++) {
            check.due("from the last", x.pick(0, 6, k), due[k]);
        }
        // m s (108, the first of two), n u, o x (39), p w, q t, r v.
        int[] other = {0, 2, 5, 4, 1, 3};
        for (int k = 0; k < 6; k++) {
            check.due("from the first", x.pick(1, 6, k), other[k]);
        }
        check.due("of one", x.pick(1, 1, 0), 0);
        check.refused("of one", x, x.pick(1, 1, 1), 8);
        check.due("fewer ones behind do not matter", x.pick(1, 5, 4), 1);
        LicensedVoice y = Check.inTown("subject a;voice v age 1 life 2 says a;person p;person q;person r;set s gets v for r;set t gets v for p;");
        y.tray(3, 1, 3);
        y.write(3, 0, 2);
        y.write(3, 1, 1);
        check.due("whoever owns it", y.pick(3, 3, 0), 0);
        check.due("worth nothing", y.pick(3, 3, 1), 1);
        check.refused("none is left", y, y.pick(3, 3, 2), 8);
        LicensedVoice z = Check.inTown("person p;");
        z.tray(0, 0, 1);
        check.refused("there are none", z, z.pick(0, 1, 0), 8);
    }

    // ---- promises 43 and 44

    private static void fits() {
        LicensedVoice x = Check.inTown(Check.FULL);
        x.tray(0, 3, 40);
        for (int i = 0; i < 20; i++) {
            x.write(0, 2 * i, i == 19 ? 9999 : i);
            x.write(0, 2 * i + 1, 5);
        }
        check.due("0 twos: all", x.fits(0, 0), 63);
        check.due("f in 0", x.fits(0, 1), 16 + 32);
        check.due("f in 0 to 18 and in 9,999", x.fits(0, 20), 16);
        x.write(0, 39, 0);
        check.due("the last two counts", x.fits(0, 20), 0);
        check.due("but not if it is not asked", x.fits(0, 19), 16);
        x.write(0, 0, 9999);
        x.write(0, 1, 1);
        // In 9,999 h is in place 1, i in 0, j in 7, l in 4.
        check.due("b in 9,999", x.fits(0, 1), 8 + 32);
        x.write(0, 1, 0);
        check.due("a in 9,999", x.fits(0, 1), 1 + 2);
        x.year(99);
        x.cold(0, true);
        check.due("dead", x.fits(0, 1), 1 + 2);
        LicensedVoice y = new LicensedVoice();
        y.tray(0, 0, 0);
        check.due("of no VOICES", y.fits(0, 0), 0);
    }

    private static void asks() {
        String town = "subject a;subject b;subject c;subject d;person p;"
                + "voice va age 1 life 2 says a a a b a a a a;voice vb age 1 life 2 says a c a a a a a;"
                + "voice vd age 1 life 2 says a a a a d;voice vc age 1 life 2 says a;";
        LicensedVoice x = Check.inTown(town);
        x.tray(0, 3, 4);
        check.due("all apart in HOUR 99 first", x.ask(0, 0), 99);
        x.hour(50);
        check.due("whatever HOUR it is", x.ask(0, 0), 99);
        x.cold(0, true);
        x.year(1);
        check.due("dead or not", x.ask(0, 0), 99);
        // All would be apart in HOUR 100; two of four VOICES have one SUBJECT in 20, 30, 44 ..
        LicensedVoice y = Check.inTown(town.replace("a a a b a a a a", "a a a a b a a a").replace("a c a a a a a", "a a c a a a a")
                .replace("a a a a d", "d a a a a"));
        y.tray(0, 3, 4);
        check.due("HOUR 100 is not asked", y.ask(0, 0), 20);
        LicensedVoice z = Check.inTown("subject a;subject b;voice v age 1 life 2 says a b;voice w age 1 life 2 says b a;voice u age 1 life 2 says a;");
        z.tray(0, 0, 2);
        check.due("two of three in each HOUR: 0", z.ask(0, 0), 0);
        z.write(0, 0, 1);
        check.due("v is out in 1", z.ask(0, 1), 0);
        z.write(0, 1, 1);
        check.refused("v alone", z, z.ask(0, 1), 8);
        LicensedVoice none = Check.inTown("subject a;");
        none.tray(0, 0, 0);
        check.refused("no VOICES", none, none.ask(0, 0), 8);
        LicensedVoice one = Check.inTown("subject a;voice v age 1 life 2 says a;");
        one.tray(0, 0, 0);
        check.refused("one VOICE", one, one.ask(0, 0), 8);
    }

    /** Those that fit count alone: u would make others the fewest. */
    private static void asksOfMost() {
        LicensedVoice x = Check.inTown("subject a;subject b;subject c;voice u age 1 life 2 says b a b;voice v age 1 life 2 says c a b;"
                + "voice w age 1 life 2 says c b b;voice x age 1 life 2 says c a c;");
        x.tray(0, 0, 2);
        // a a b a in 1: three; b c c c in 0: three; b b b c in 2: three.
        check.due("all", x.ask(0, 0), 0);
        x.write(0, 1, 2);
        // c c c in 0: three; a b a in 1: two; b b c in 2: two.
        check.due("without u", x.ask(0, 1), 1);
        LicensedVoice y = Check.inTown(Check.FULL);
        y.tray(0, 0, 2);
        y.write(0, 0, 1);
        y.write(0, 1, 4);
        check.refused("e in 1: l alone", y, y.ask(0, 1), 8);
        y.write(0, 1, 0);
        check.due("a in 1: g, h, apart in 0", y.ask(0, 1), 0);
        y.write(0, 0, 0);
        check.due("a in 0: g, j, apart in 1", y.ask(0, 1), 1);
        y.write(0, 1, 5);
        check.due("f in 0: k, l, apart in 1", y.ask(0, 1), 1);
    }

    // ---- promises 45 to 48

    private static void peace() {
        LicensedVoice x = Check.inTown(SIX);
        check.due("nothing is told: the first", x.peace(63), 0);
        check.due("by 0", x.peaceBy(63), 0);
        for (int p = 0; p < 6; p++) {
            x.please(p, 5, 9);
        }
        check.due("the last SUBJECT", x.peace(63), 5);
        check.due("by 9", x.peaceBy(63), 9);
        x.please(5, 5, 8);
        check.due("by the last PERSON", x.peaceBy(63), 8);
        check.due("without him", x.peaceBy(31), 9);
        x.please(0, 5, 0);
        check.due("0 by the first, 44 together", x.peace(63), 5);
        check.due("by 0", x.peaceBy(63), 0);
        for (int p = 0; p < 6; p++) {
            x.please(p, 3, 1);
        }
        check.due("1 by each, though 6 together", x.peace(63), 3);
        check.due("by 1", x.peaceBy(63), 1);
        for (int p = 0; p < 6; p++) {
            x.please(p, 2, 1);
        }
        check.due("of two the first", x.peace(63), 2);
        x.please(4, 3, 2);
        check.due("of two that which all LIKE more together", x.peace(63), 3);
        check.due("of who is in the set", x.peace(7), 2);
        x.please(0, 3, 2);
        x.please(4, 2, 2);
        check.due("4 and 2 more of the first PERSON", x.peace(17), 3);
        check.due("4 and 3", x.peace(1 + 2 + 16), 3);
        x.please(4, 3, 1);
        check.due("3 and 3, the first", x.peace(1 + 2 + 16), 2);
        check.due("the first PERSON alone", x.peace(1), 3);
        check.due("the last PERSON alone", x.peace(32), 5);
        check.due("the last PERSON alone", x.peaceBy(32), 8);
    }

    private static void popular() {
        LicensedVoice x = Check.inTown(SIX);
        for (int p = 0; p < 6; p++) {
            x.give(p, p);
            check.due("nobody LIKES anything", x.popularBy(5), 0);
            x.please(p, 4, 4);
            check.due("4 is too little", x.popularBy(p), 0);
            check.due("then the first", x.popular(p), 0);
            x.please(p, 4, 5);
            check.due("5", x.popularBy(p), 1);
            check.due("5", x.popular(p), 4);
        }
        for (int p = 0; p < 6; p++) {
            x.flaw(p, (p + 1) % 6);
        }
        check.due("by its SET and a FLAW", x.popularBy(0), 2);
        for (int p = 0; p < 5; p++) {
            x.flaw(p, 5);
        }
        check.due("all six", x.popularBy(5), 6);
        check.due("all six", x.popular(5), 4);
        for (int p = 1; p < 6; p++) {
            x.please(p, 1, 9);
            x.please(p, 5, 9);
        }
        check.due("five are fewer than six", x.popular(5), 4);
        x.please(3, 4, 0);
        check.due("of three the first", x.popular(5), 1);
        check.due("five", x.popularBy(5), 5);
        x.please(0, 5, 6);
        check.due("the last SUBJECT", x.popular(5), 5);
        check.due("six", x.popularBy(5), 6);
        x.year(9);
        check.due("of a dead VOICE", x.popularBy(5), 6);
    }

    // ---- promises 49 to 52

    private static void games() {
        LicensedVoice x = Check.inTown(SIX);
        for (int s = 0; s < 6; s++) {
            x.please(0, s, s + 1);
        }
        // The second takes what is worth the most to the first.
        int[] due = {0, 72, 72, 120, 120, 144};
        for (int turns = 0; turns <= 5; turns++) {
            check.due("game of " + turns, x.game(0, 5, turns), due[turns]);
        }
        // The first has no use for them and takes what the second would take: 1, then 2, then 1 turns of the second.
        int[] other = {0, 0, -60, -60, -96, -96};
        for (int turns = 0; turns <= 5; turns++) {
            check.due("game of " + turns + ", the other first", x.game(5, 0, turns), other[turns]);
            check.due("-1 or not", x.status(), 0);
        }
        x.give(5, 3);
        check.due("without the last SET", x.game(0, 5, 1), 60);
        for (int s = 0; s < 5; s++) {
            x.give(s, s);
        }
        check.due("nobody's are none", x.game(0, 5, 5), 0);
        // The first can't keep both sb and sa from the second: f, then 8, then sa, then 3 times 12.
        LicensedVoice z = Check.inTown(SIX);
        int[] wants = {3, 3, 0, 0, 8, 9};
        for (int s = 0; s < 6; s++) {
            z.please(1, s, wants[s]);
        }
        check.due("four turns", z.game(0, 1, 4), -132);
        check.due("five turns", z.game(0, 1, 5), -132);
        check.due("the last SET", z.moveOf(0, 1, 4), 5);
        // 0 to p, 1 to q of one subject heard in one of 12 hours: -1.
        LicensedVoice y = Check.inTown("subject a;subject b;voice v age 1 life 2 says b b b b a b b b;person p;person q;likes q a 1;"
                + "set s gets v;set t gets v;");
        check.due("-1", y.game(0, 1, 2), -1);
        check.due("-1 with STATUS", y.status(), 0);
    }

    private static void moves() {
        LicensedVoice x = Check.inTown(SIX);
        for (int s = 0; s < 6; s++) {
            x.please(0, s, s + 1);
        }
        for (int turns = 1; turns <= 5; turns++) {
            check.due("the last SET in " + turns, x.moveOf(0, 5, turns), 5);
        }
        check.due("one turn: all worth nothing, the first", x.moveOf(5, 0, 1), 0);
        check.due("two turns: what the other wants", x.moveOf(5, 0, 2), 5);
        x.give(0, 1);
        check.due("the first that nobody owns", x.moveOf(5, 1, 5), 1);
        x.give(5, 1);
        check.due("the last that nobody owns", x.moveOf(0, 5, 1), 4);
        for (int s = 1; s < 5; s++) {
            x.give(s, 2);
        }
        check.refused("none", x, x.moveOf(0, 5, 5), 8);
        check.refused("5 is ahead of 8", x, x.moveOf(0, 5, 0), 5);
        x.dump(5);
        check.due("the last SET", x.moveOf(5, 4, 5), 5);
    }

    private static void alive() {
        LicensedVoice x = Check.inTown(SIX);
        int[] odds = {0, 1, 8, 15, 16};
        long[][] due = {{1, 1}, {129746337890625L, 1L << 48}, {1, 4096}, {1, 1L << 48}, {0, 1}};
        long[][] one = {{1, 1}, {15, 16}, {1, 2}, {1, 16}, {0, 1}};
        for (int i = 0; i < odds.length; i++) {
            x.rule(odds[i]);
            check.fraction("0 YEARS", x, x.alive(5, 0), 1, 1);
            check.fraction("1 YEAR", x, x.alive(0, 1), one[i][0], one[i][1]);
            check.fraction("12 YEARS", x, x.alive(5, 12), due[i][0], due[i][1]);
        }
    }

    private static void warm() {
        LicensedVoice x = Check.inTown(SIX);
        check.fraction("no SETS", x, x.warm(5), 0, 1);
        for (int s = 0; s < 6; s++) {
            x.give(s, 5);
        }
        int[] odds = {0, 1, 8, 15, 16};
        long[][] due = {{1, 1}, {16777215, 16777216}, {63, 64}, {5386591, 16777216}, {0, 1}};
        for (int i = 0; i < odds.length; i++) {
            x.rule(odds[i]);
            check.fraction("six VOICES", x, x.warm(5), due[i][0], due[i][1]);
            check.fraction("no SETS", x, x.warm(0), 0, 1);
        }
        x.rule(8);
        x.give(5, 0);
        check.fraction("one VOICE", x, x.warm(0), 1, 2);
        x.flaw(5, 4);
        check.fraction("and a FLAW", x, x.warm(0), 3, 4);
        x.year(8);
        check.fraction("dead ones", x, x.warm(0), 0, 1);
    }
}
