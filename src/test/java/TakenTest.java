/**
 * All promises: the last values that are taken on either side, in a TOWN of six of each and in small ones,
 * with what is told of them. What is refused beyond them stands in RefusedTest.
 */
public final class TakenTest {
    private static final Check check = new Check();
    /** Six VOICES that SAY one SUBJECT each, a SET of each; nobody LIKES or owns anything. */
    private static final String SIX = "subject a;subject b;subject c;subject d;subject e;subject f;"
            + "voice va age 1 life 9 says a;voice vb age 1 life 9 says b;voice vc age 1 life 9 says c;"
            + "voice vd age 1 life 9 says d;voice ve age 1 life 9 says e;voice vf age 1 life 9 says f;"
            + "person pa;person pb;person pc;person pd;person pe;person pf;"
            + "set sa gets va;set sb gets vb;set sc gets vc;set sd gets vd;set se gets ve;set sf gets vf;";
    private static final String ONE = "subject a;voice v age 1 life 120 says a;person p;likes p a 9;set s gets v for p;";

    public static void main(String[] args) {
        statusBehindWhatIsTaken();
        trays();
        cuts();
        pours();
        fullTown();
        hours();
        years();
        sales();
        gifts();
        colds();
        flaws();
        likes();
        rows();
        odds();
        says();
        hears();
        glad();
        dies();
        crowds();
        check.end();
    }

    /** Every call that has a STATUS tells 0 when it is taken, whatever was told ahead. */
    private static void statusBehindWhatIsTaken() {
        Twin.Call[] calls = {x -> x.tray(0, 0, 9) ? 1 : 0, x -> x.write(0, 0, -1) ? 1 : 0, x -> x.read(0, 0),
            x -> x.pour(0, 0, 0, 3, 1) ? 1 : 0, x -> x.write(0, 0, 0) ? 1 : 0, x -> x.write(0, 3, 1) ? 1 : 0,
            x -> Check.town(x, Check.TOWN), x -> Check.dials(x, "any;hour 1;"), x -> x.many(3), x -> x.voice(0, 0),
            x -> x.row(0, 0), x -> x.person(0, 0), x -> x.like(0, 0), x -> x.set(0, 0), x -> x.hour(1), x -> x.year(1),
            x -> x.sell(0, 0, 1), x -> x.give(2, 0), x -> x.dump(2), x -> x.cold(0, true) ? 1 : 0, x -> x.cold(0, false) ? 1 : 0,
            x -> x.flaw(0, 1) ? 1 : 0, x -> x.please(0, 0, 9), x -> x.teach(0, 0), x -> x.rule(5) ? 1 : 0, x -> x.saysIn(0, 0),
            x -> x.hearsIn(0, 0), x -> x.gladIn(0, 0), x -> x.gladBy(0, 1), x -> x.lonelyIn(1), x -> x.diesIn(0), x -> x.crowd(0),
            x -> x.worth(0, 0), x -> x.best(7), x -> x.bestSet(7, 0), x -> x.trade(0), x -> x.trades(), x -> x.envies(1, 0),
            x -> x.pick(0, 1, 0), x -> x.fits(0, 1), x -> x.ask(0, 0), x -> x.peace(7), x -> x.peaceBy(7), x -> x.popular(0),
            x -> x.popularBy(0), x -> x.game(1, 0, 1), x -> x.moveOf(0, 1, 1), x -> x.alive(0, 1) ? 1 : 0, x -> x.warm(0) ? 1 : 0,
            x -> x.live(1), x -> x.lived(0), x -> x.mean(1, 2) ? 1 : 0, x -> x.mark(), x -> x.back()};
        LicensedVoice x = new LicensedVoice();
        for (int i = 0; i < calls.length; i++) {
            x.rule(17);
            check.due("STATUS ahead of call " + i, x.status(), 5);
            calls[i].on(x);
            check.due("STATUS behind call " + i, x.status(), 0);
        }
    }

    // ---- promises 5 to 8

    private static void trays() {
        LicensedVoice x = new LicensedVoice();
        for (int tray = 0; tray < 4; tray++) {
            for (int sort = 0; sort < 4; sort++) {
                check.due("60 numbers", x.tray(tray, sort, 60), true);
                check.due("the first is 0", x.read(tray, 0), 0);
                check.due("the last is 0", x.read(tray, 59), 0);
                check.due("write the first", x.write(tray, 0, 5 + tray), true);
                check.due("write the last", x.write(tray, 59, -5 - sort), true);
                check.due("the first", x.read(tray, 0), 5 + tray);
                check.due("the last", x.read(tray, 59), -5 - sort);
                check.due("those between", x.read(tray, 1) | x.read(tray, 58), 0);
            }
        }
        check.due("a TRAY of none", x.tray(3, 3, 0), true);
        check.refused("it has no place", x, x.read(3, 0), 4);
        check.due("a TRAY of one", x.tray(3, 3, 1), true);
        check.due("it is 0", x.read(3, 0), 0);
        check.refused("it has no second place", x, x.read(3, 1), 4);
        check.due("another TRAY stays", x.read(2, 0), 7);
    }

    private static void cuts() {
        LicensedVoice x = new LicensedVoice();
        for (int sort = 0; sort < 4; sort++) {
            x.tray(sort, sort, 1);
            long most = Long.MAX_VALUE >> 64 - (8 << sort);
            long[][] pairs = {{most, most}, {-most - 1, -most - 1}, {most + 1, -most - 1}, {-most - 2, most}, {0, 0},
                {Long.MAX_VALUE, sort < 3 ? -1 : Long.MAX_VALUE}, {Long.MIN_VALUE, sort < 3 ? 0 : Long.MIN_VALUE}};
            for (long[] pair : pairs) {
                check.due("write " + pair[0] + " to sort " + sort, x.write(sort, 0, pair[0]), true);
                check.due("read " + pair[0] + " of sort " + sort, x.read(sort, 0), pair[1]);
            }
        }
    }

    private static void pours() {
        LicensedVoice x = new LicensedVoice();
        x.tray(0, 3, 60);
        x.tray(1, 3, 60);
        x.tray(2, 3, 0);
        for (int i = 0; i < 60; i++) {
            x.write(0, i, Long.MAX_VALUE - i);
        }
        check.due("all", x.pour(0, 0, 1, 0, 60), true);
        check.due("the first", x.read(1, 0), Long.MAX_VALUE);
        check.due("the last", x.read(1, 59), Long.MAX_VALUE - 59);
        check.due("the last to the first", x.pour(0, 59, 1, 0, 1), true);
        check.due("the first", x.read(1, 0), Long.MAX_VALUE - 59);
        check.due("the second", x.read(1, 1), Long.MAX_VALUE - 1);
        check.due("the first to the last", x.pour(0, 0, 1, 59, 1), true);
        check.due("the last", x.read(1, 59), Long.MAX_VALUE);
        check.due("none to none", x.pour(2, 0, 2, 0, 0), true);
        check.due("none from behind the last", x.pour(0, 60, 1, 60, 0), true);
        check.due("all in itself", x.pour(0, 0, 0, 0, 60), true);
        check.due("one place up", x.pour(0, 0, 0, 1, 59), true);
        check.due("as they were", x.read(0, 59), Long.MAX_VALUE - 58);
        check.due("the first stays", x.read(0, 0), Long.MAX_VALUE);
    }

    // ---- promises 10 to 18

    private static void fullTown() {
        LicensedVoice x = new LicensedVoice();
        check.due("900 bytes", Check.FULL.length(), 900);
        check.due("town", Check.town(x, Check.FULL), 6);
        int[] many = {6, 6, 6, 6, 16, 0, 0, 63, 0, 2 + 8, 0 + 999 + 10 + 7 + 20 + 1, 0};
        for (int what = 0; what < many.length; what++) {
            check.due("many " + what, x.many(what), many[what]);
        }
        int[][] voices = {{0, 1, 1}, {119, 120, 2}, {5, 9, 3}, {7, 9, 8}, {1, 99, 1}, {30, 70, 5}};
        int[][] rows = {{0}, {1, 0}, {2, 3, 4}, {0, 1, 2, 3, 4, 5, 0, 1}, {5}, {5, 4, 3, 2, 1}};
        int[] coins = {0, 999, 10, 7, 20, 1};
        int[] owned = {1, 4, 0, 0, 0, 16 + 32};
        int[][] likes = {{9, 0, 0, 0, 0, 1}, {0, 0, 5, 4, 0, 0}, {0, 6, 0, 0, 9, 0}, {0, 0, 0, 0, 0, 3}, {2, 0, 0, 0, 0, 0}, {9, 7, 0, 0, 0, 9}};
        int[][] sets = {{0, -1, 0}, {1, 0, -1}, {2, 5, 1}, {3, -1, -1}, {4, -1, 5}, {5, 4, 5}};
        for (int i = 0; i < 6; i++) {
            for (int what = 0; what < 5; what++) {
                check.due("voice " + i + ", " + what, x.voice(i, what), what < 3 ? voices[i][what] : what == 3 ? 1 : 0);
            }
            for (int k = 0; k < rows[i].length; k++) {
                check.due("row " + i + ", " + k, x.row(i, k), rows[i][k]);
            }
            check.refused("behind row " + i, x, x.row(i, rows[i].length), 8);
            check.due("coins " + i, x.person(i, 0), coins[i]);
            check.due("glad, lonely " + i, x.person(i, 1) | x.person(i, 2), 0);
            check.due("owned " + i, x.person(i, 3), owned[i]);
            for (int s = 0; s < 6; s++) {
                check.due("like " + i + ", " + s, x.like(i, s), likes[i][s]);
            }
            for (int what = 0; what < 3; what++) {
                check.due("set " + i + ", " + what, x.set(i, what), sets[i][what]);
                check.due("set STATUS", x.status(), sets[i][what] < 0 ? 8 : 0);
            }
        }
    }

    // ---- promises 19 to 28

    private static void hours() {
        LicensedVoice x = Check.inTown(ONE);
        check.due("1", x.hour(1), 9);
        check.due("99", x.hour(99), 891);
        check.due("HOUR", x.many(5), 100);
        for (int i = 0; i < 99; i++) {
            x.hour(99);
        }
        check.due("97 to 9,998", x.hour(97), 873);
        check.due("HOUR", x.many(5), 9998);
        check.refused("2 more", x, x.hour(2), 7);
        check.refused("99 more", x, x.hour(99), 7);
        check.due("1 more", x.hour(1), 9);
        check.due("HOUR", x.many(5), 9999);
        check.due("GLAD", x.many(11), 89991);
        check.refused("1 more", x, x.hour(1), 7);
        check.due("a YEAR takes no HOURS", x.year(1), 0);
        LicensedVoice y = Check.inTown(Check.FULL);
        // m by g 9; n by i, l: c, c and f (5, 0 ..), by HOURS c f, d e, e d, c c, d b: 5 4 4 5 4; r by k, l: 9, 9, 9, 9, 16.
        check.due("five HOURS of six", y.hour(5), 45 + 22 + 52);
        check.due("m", y.person(0, 1), 45);
        check.due("n", y.person(1, 1), 22);
        check.due("r", y.person(5, 1), 52);
        for (int p = 0; p < 6; p++) {
            check.due("who owns nothing is LONELY", y.person(p, 2), p >= 2 && p <= 4 ? 5 : 0);
        }
    }

    private static void years() {
        LicensedVoice x = Check.inTown(Check.FULL);
        check.due("g, of AGE 0, h, of AGE 119", x.year(1), 3);
        check.due("j", x.year(1), 8);
        check.due("none", x.year(1), 0);
        check.due("i", x.year(1), 4);
        check.due("l, but not k", x.year(93), 32);
        check.due("k is 98", x.voice(4, 0), 98);
        check.due("k", x.year(1), 16);
        check.due("nobody lives", x.many(7), 0);
        int[] ages = {1, 120, 9, 9, 99, 70};
        for (int v = 0; v < 6; v++) {
            check.due("AGE when it DIED", x.voice(v, 0), ages[v]);
            check.due("dead", x.voice(v, 3), 0);
        }
        LicensedVoice y = Check.inTown(Check.FULL);
        check.due("all in 99", y.year(99), 63);
        for (int i = 0; i < 9; i++) {
            check.due("99", y.year(99), 0);
        }
        check.due("8 to 998", y.year(8), 0);
        check.refused("2 more", y, y.year(2), 7);
        check.refused("99 more", y, y.year(99), 7);
        check.due("1 more", y.year(1), 0);
        check.due("YEAR", y.many(6), 999);
        check.refused("1 more", y, y.year(1), 7);
        check.due("HOURS go by in it", y.hour(1), 0);
    }

    private static void sales() {
        LicensedVoice x = Check.inTown(Check.FULL);
        check.due("for 999, all that he has", x.sell(0, 1, 999), 0);
        check.due("m has them", x.person(0, 0), 999);
        check.due("n owns it", x.set(0, 2), 1);
        check.due("for 998", x.sell(0, 0, 998), 1);
        check.due("n has them", x.person(1, 0), 998);
        check.due("the last SET for 0", x.sell(5, 0, 0), 1);
        check.due("r has no more", x.person(5, 0), 1);
        check.due("to the last PERSON for 1", x.sell(0, 5, 1), 0);
        check.due("m", x.person(0, 0), 2);
        check.due("COINS of all", x.many(10), 1037);
    }

    private static void gifts() {
        LicensedVoice x = Check.inTown(SIX);
        for (int s = 0; s < 6; s++) {
            check.due("give", x.give(s, 5), s + 1);
        }
        check.due("all", x.person(5, 3), 63);
        check.due("nobody's", x.many(9), 0);
        check.due("the last to the first", x.give(5, 0), 1);
        check.due("five", x.person(5, 3), 31);
        check.due("dump the first", x.dump(0), 5);
        check.due("dump the last", x.dump(5), 0);
        check.due("nobody's", x.many(9), 33);
    }

    private static void colds() {
        LicensedVoice x = Check.inTown(SIX);
        for (int v = 0; v < 6; v++) {
            check.due("cold", x.cold(v, true), true);
            check.due("colds", x.many(8), (2 << v) - 1);
            check.due("voice", x.voice(v, 4), 1);
        }
        for (int v = 0; v < 6; v++) {
            check.due("well", x.cold(v, false), true);
            check.due("colds", x.many(8), 63 & -(2 << v));
            check.due("voice", x.voice(v, 4), 0);
        }
    }

    private static void flaws() {
        LicensedVoice x = Check.inTown(SIX);
        check.due("the last of the first SET", x.flaw(0, 5), true);
        check.due("it", x.set(0, 1), 5);
        check.due("the first of the last SET", x.flaw(5, 0), true);
        check.due("it", x.set(5, 1), 0);
        check.due("none", x.flaw(5, 6), true);
        check.refused("none", x, x.set(5, 1), 8);
        check.due("the other stays", x.set(0, 1), 5);
        LicensedVoice y = Check.inTown(ONE);
        check.denied("of one VOICE", y, y.flaw(0, 1), 2);
        check.denied("its VOICE", y, y.flaw(0, 0), 9);
        check.denied("no FLAW already", y, y.flaw(0, 6), 9);
    }

    private static void likes() {
        LicensedVoice x = Check.inTown(SIX);
        check.due("nothing is told", x.please(0, 0, 9), 0);
        check.due("9", x.please(0, 0, 0), 9);
        check.due("0", x.please(0, 0, 1), 0);
        check.due("the last ones", x.please(5, 5, 9), 0);
        check.due("the last ones", x.like(5, 5), 9);
        check.due("others", x.like(5, 0) | x.like(0, 5) | x.like(4, 5) | x.like(5, 4), 0);
    }

    private static void rows() {
        LicensedVoice x = Check.inTown(SIX);
        for (int k = 2; k <= 8; k++) {
            check.due("the first VOICE", x.teach(0, 5), k);
            check.due("the last VOICE", x.teach(5, 0), k);
        }
        check.refused("a ninth", x, x.teach(0, 0), 7);
        check.refused("a ninth", x, x.teach(5, 5), 7);
        check.due("eight", x.voice(0, 2), 8);
        check.due("the first", x.row(0, 0), 0);
        check.due("the eighth", x.row(0, 7), 5);
        check.due("the last VOICE's eighth", x.row(5, 7), 0);
        check.due("another row", x.row(1, 0), 1);
        check.due("its length", x.voice(1, 2), 1);
    }

    private static void odds() {
        LicensedVoice x = Check.inTown(SIX);
        for (int odds = 16; odds >= 0; odds--) {
            check.due("rule", x.rule(odds), true);
            check.due("odds", x.many(4), odds);
        }
    }

    // ---- promises 29 to 35

    private static void says() {
        LicensedVoice x = Check.inTown(Check.FULL);
        check.due("now", x.saysIn(5, 0), 5);
        check.due("in 999, place 4", x.saysIn(5, 999), 1);
        check.due("in 999, place 7", x.saysIn(3, 999), 1);
        check.due("the first VOICE", x.saysIn(0, 999), 0);
        Check.dials(x, "loop 99;hour 48;hour 48;hour 5;end;");
        x.live(0);
        check.due("HOUR", x.many(5), 9999);
        check.due("HOUR 9,999, place 4", x.saysIn(5, 0), 1);
        check.due("HOUR 10,000", x.saysIn(5, 1), 5);
        check.due("HOUR 10,998, place 3", x.saysIn(5, 999), 2);
        check.due("hears beyond", x.hearsIn(5, 999), 32 + 4);
        check.due("worth beyond", x.worth(5, 4), 108);
        check.due("never LONELY", x.lonelyIn(5), -1);
    }

    private static void hears() {
        LicensedVoice x = Check.inTown(Check.FULL);
        check.due("now", x.hearsIn(5, 0), 32);
        check.due("in 4", x.hearsIn(5, 4), 32 + 2);
        check.due("in 999, place 4", x.hearsIn(5, 999), 32 + 2);
        check.due("the first PERSON", x.hearsIn(0, 999), 1);
        check.due("who owns nothing", x.hearsIn(2, 0), 0);
        LicensedVoice y = Check.inTown(SIX);
        for (int s = 0; s < 6; s++) {
            y.give(s, 0);
        }
        check.due("all SUBJECTS", y.hearsIn(0, 0), 63);
        y.cold(5, true);
        check.due("but that of a cold VOICE", y.hearsIn(0, 0), 31);
        for (int s = 0; s < 6; s++) {
            y.please(0, s, 9);
        }
        check.due("in 300, by five", y.gladIn(0, 300), 300 * 45);
        y.cold(5, false);
        check.due("in 300, by six", y.gladIn(0, 300), 300 * 54);
        check.due("by six", y.hour(99), 99 * 54);
    }

    private static void glad() {
        LicensedVoice x = Check.inTown(ONE);
        check.due("in 0", x.gladIn(0, 0), 0);
        check.due("in 1", x.gladIn(0, 1), 9);
        check.due("in 300", x.gladIn(0, 300), 2700);
        check.due("0 or more", x.gladBy(0, 0), 0);
        check.due("1 or more", x.gladBy(0, 1), 1);
        check.due("9 or more", x.gladBy(0, 9), 1);
        check.due("10 or more", x.gladBy(0, 10), 2);
        check.due("2,700 or more", x.gladBy(0, 2700), 300);
        check.refused("2,701 or more", x, x.gladBy(0, 2701), 8);
        for (int i = 0; i < 11; i++) {
            x.hour(98);
        }
        check.due("GLAD", x.person(0, 1), 9702);
        check.due("9,999 or more", x.gladBy(0, 9999), 33);
        check.due("9,702 or more", x.gladBy(0, 9702), 0);
        check.due("9,703 or more", x.gladBy(0, 9703), 1);
        x.hour(34);
        check.due("already", x.gladBy(0, 9999), 0);
        check.due("beyond 9,999", x.gladIn(0, 300), 10008 + 2700);
        check.refused("never LONELY", x, x.lonelyIn(0), 8);
        x.dump(0);
        check.due("LONELY from now on", x.lonelyIn(0), 0);
        LicensedVoice y = Check.inTown("subject a;subject b;voice v age 1 life 2 says a b a;person p;set s gets v for p;");
        check.refused("not GLAD, but never LONELY", y, y.lonelyIn(0), 8);
        y.cold(0, true);
        check.due("LONELY now", y.lonelyIn(0), 0);
        check.due("not more GLAD", x.gladIn(0, 300), 10008);
    }

    private static void dies() {
        LicensedVoice x = Check.inTown("subject a;voice g age 0 life 120 says a;voice h age 119 life 120 says a;"
                + "voice i age 119 life 1 says a;voice j age 5 life 5 says a;voice k age 0 life 1 says a;voice l age 4 life 6 says a;");
        int[] due = {120, 1, 1, 1, 1, 2};
        for (int v = 0; v < 6; v++) {
            check.due("dies in", x.diesIn(v), due[v]);
        }
        check.due("all these in one YEAR", x.year(1), 2 + 4 + 8 + 16);
        check.due("one YEAR on", x.diesIn(0), 119);
        check.due("one YEAR on", x.diesIn(5), 1);
        check.due("AGE above LIFE", x.voice(2, 0), 120);
    }

    private static void crowds() {
        LicensedVoice x = Check.inTown(Check.FULL);
        int[] due = {1, 0, 2, 0, 32, 2 + 32};
        for (int v = 0; v < 6; v++) {
            check.due("crowd", x.crowd(v), due[v]);
        }
        LicensedVoice y = Check.inTown(SIX);
        for (int s = 0; s < 6; s++) {
            y.give(s, s);
            y.flaw(s, 0);
        }
        check.due("all six", y.crowd(0), 63);
        check.due("the last", y.crowd(5), 32);
    }
}
