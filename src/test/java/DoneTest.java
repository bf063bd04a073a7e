/** Promises 19 to 28: HOURS, YEARS, sales, gifts, colds, flaws, likes, rows, ODDS. */
public final class DoneTest {
    private static final Check check = new Check();

    public static void main(String[] args) {
        hours();
        lastHours();
        years();
        sales();
        richest();
        gifts();
        colds();
        flaws();
        likes();
        rows();
        odds();
        check.end();
    }

    private static void hours() {
        LicensedVoice x = Check.inTown(Check.TOWN);
        // ann: fish fish rain by 2; ben: god rain god by rain 3; cyd: fish and rain, rain by 9.
        check.due("three hours", x.hour(3), 4 + 3 + 27);
        check.due("ann", x.person(0, 1), 4);
        check.due("ben", x.person(1, 1), 3);
        check.due("cyd", x.person(2, 1), 27);
        check.due("lonely", x.person(1, 2), 0);
        check.due("hour", x.many(5), 3);
        check.due("all", x.many(11), 34);
        check.refused("hour", x, x.hour(0), 5);
        check.refused("hour", x, x.hour(100), 5);
        check.refused("hour", x, x.hour(-1), 5);
        x.dump(0);
        x.cold(1, true);
        check.due("two hours", x.hour(2), 18);
        check.due("who owns nothing is lonely", x.person(1, 2), 2);
        check.due("whose voice has a cold is lonely", x.person(0, 2), 2);
        check.due("who has another one is not", x.person(2, 2), 0);
        LicensedVoice y = Check.inTown("subject a;voice u age 1 life 2 says a;voice v age 1 life 2 says a;person p;likes p a 5;"
                + "set q gets u flaw v for p;set r gets v for p;");
        check.due("each subject once", y.hour(1), 5);
        y.please(0, 0, 0);
        check.due("not glad", y.hour(1), 0);
        check.due("not lonely", y.person(0, 2), 0);
    }

    private static void lastHours() {
        LicensedVoice x = Check.inTown(Check.TOWN);
        for (int i = 0; i < 101; i++) {
            x.hour(99);
        }
        check.due("9,999", x.many(5), 9999);
        int glad = x.many(11);
        check.refused("one more", x, x.hour(1), 7);
        check.refused("5 is ahead of 7", x, x.hour(100), 5);
        check.due("hour stays", x.many(5), 9999);
        check.due("glad stays", x.many(11), glad);
        check.due("what lies ahead goes on", x.saysIn(0, 1), 1);
        check.due("glad goes on", x.gladIn(2, 2), x.person(2, 1) + 18);
    }

    private static void years() {
        LicensedVoice x = Check.inTown(Check.TOWN);
        check.refused("year", x, x.year(0), 5);
        check.refused("year", x, x.year(100), 5);
        check.due("nobody glad by it", x.many(11), 0);
        check.due("aunt", x.year(1), 4);
        check.due("none", x.year(8), 0);
        check.due("cantor", x.year(2), 1);
        check.due("age", x.voice(0, 0), 70);
        check.due("living", x.many(7), 2);
        check.due("fishman", x.year(99), 2);
        check.due("living", x.many(7), 0);
        check.due("age", x.voice(1, 0), 60);
        for (int i = 0; i < 8; i++) {
            check.due("year", x.year(99), 0);
        }
        check.due("years", x.many(6), 902);
        check.refused("beyond 999", x, x.year(98), 7);
        check.due("years", x.many(6), 902);
        check.due("to 999", x.year(97), 0);
        check.due("years", x.many(6), 999);
        check.refused("one more", x, x.year(1), 7);
        LicensedVoice y = Check.inTown("subject a;voice u age 90 life 3 says a;voice v age 4 life 5 says a;");
        check.due("above its life", y.diesIn(0), 1);
        check.due("both", y.year(2), 3);
        check.due("died at", y.voice(0, 0), 91);
    }

    private static void sales() {
        LicensedVoice x = Check.inTown(Check.TOWN);
        check.refused("sell", x, x.sell(4, 0, -1), 2);
        check.refused("sell", x, x.sell(0, 3, 0), 2);
        check.refused("sell", x, x.sell(0, 0, -1), 5);
        check.refused("sell", x, x.sell(2, 0, 1000), 5);
        check.refused("nobody's", x, x.sell(2, 0, 1), 9);
        check.refused("his own", x, x.sell(1, 0, 1), 9);
        check.refused("not so many", x, x.sell(0, 0, 21), 9);
        check.due("all that he has", x.sell(0, 0, 20), 0);
        check.due("ben", x.person(1, 0), 25);
        check.due("owner", x.set(0, 2), 0);
        check.due("for nothing", x.sell(1, 2, 0), 10);
        check.due("coins of all", x.many(10), 35);
    }

    /** No town has more than 5,994 coins (six people with 999 each), so nobody comes above 9,999: all sales are made. */
    private static void richest() {
        StringBuilder t = new StringBuilder("subject a;voice v age 1 life 2 says a;");
        for (char c = 'a'; c < 'f'; c++) {
            t.append("person p").append(c).append(" coins 999;");
        }
        t.append("person pf coins 0;set q gets v for pf;");
        LicensedVoice x = Check.inTown(t.toString());
        for (int p = 0; p < 5; p++) {
            check.due("sell", x.sell(0, p, 999), 0);
            check.due("give back", x.give(0, 5), 1);
        }
        check.due("coins", x.person(5, 0), 4995);
        check.due("all", x.many(10), 4995);
    }

    private static void gifts() {
        LicensedVoice x = Check.inTown(Check.TOWN);
        check.due("give nobody's", x.give(2, 1), 2);
        check.refused("it is his", x, x.give(2, 1), 9);
        check.due("give ann's", x.give(1, 1), 3);
        check.due("sets", x.person(1, 3), 7);
        check.due("ann's", x.person(0, 3), 0);
        check.refused("give", x, x.give(4, 1), 2);
        check.refused("give", x, x.give(0, -1), 2);
        check.due("dump", x.dump(2), 1);
        check.refused("dump", x, x.dump(2), 8);
        check.refused("dump", x, x.dump(4), 2);
        check.due("nobody's", x.many(9), 4);
    }

    private static void colds() {
        LicensedVoice x = Check.inTown(Check.TOWN);
        check.denied("cold", x, x.cold(3, true), 2);
        check.denied("well already", x, x.cold(2, false), 9);
        check.due("cold", x.cold(2, true), true);
        check.denied("cold already", x, x.cold(2, true), 9);
        x.year(1);
        check.due("the dead stay as they were", x.many(8), 4);
        check.due("a dead one is well", x.cold(2, false), true);
        check.denied("cold of a dead one", x, x.cold(2, true), 9);
        check.due("colds", x.many(8), 0);
    }

    private static void flaws() {
        LicensedVoice x = Check.inTown(Check.TOWN);
        check.denied("flaw", x, x.flaw(4, 0), 2);
        check.denied("flaw", x, x.flaw(0, 3), 2);
        check.denied("flaw", x, x.flaw(0, 7), 2);
        check.denied("flaw", x, x.flaw(0, -1), 2);
        check.denied("none already", x, x.flaw(0, 6), 9);
        check.denied("its own", x, x.flaw(0, 0), 9);
        check.due("flaw", x.flaw(0, 2), true);
        check.due("set", x.set(0, 1), 2);
        check.due("hears both", x.hearsIn(1, 0), 6);
        check.denied("so already", x, x.flaw(0, 2), 9);
        check.due("another", x.flaw(0, 1), true);
        check.due("none", x.flaw(0, 6), true);
        check.refused("set", x, x.set(0, 1), 8);
        check.due("hears one", x.hearsIn(1, 0), 2);
    }

    private static void likes() {
        LicensedVoice x = Check.inTown(Check.TOWN);
        check.due("please", x.please(0, 1, 9), 7);
        check.due("like", x.like(0, 1), 9);
        check.refused("so already", x, x.please(0, 1, 9), 9);
        check.refused("please", x, x.please(0, 1, 10), 5);
        check.refused("please", x, x.please(0, 1, -1), 5);
        check.refused("please", x, x.please(0, 3, 10), 2);
        check.refused("please", x, x.please(3, 0, 1), 2);
        check.due("please", x.please(0, 1, 0), 9);
    }

    private static void rows() {
        LicensedVoice x = Check.inTown(Check.TOWN);
        check.refused("teach", x, x.teach(3, 0), 2);
        check.refused("teach", x, x.teach(0, 3), 2);
        for (int k = 3; k <= 8; k++) {
            check.due("teach", x.teach(0, k % 3), k);
            check.due("row", x.row(0, k - 1), k % 3);
        }
        check.refused("a ninth", x, x.teach(0, 0), 7);
        check.due("row", x.voice(0, 2), 8);
        check.due("says", x.saysIn(0, 7), 2);
        check.due("says", x.saysIn(0, 8), 1);
        x.year(1);
        check.due("a dead one learns", x.teach(2, 1), 2);
    }

    private static void odds() {
        LicensedVoice x = Check.inTown(Check.TOWN);
        check.denied("rule", x, x.rule(-1), 5);
        check.denied("rule", x, x.rule(17), 5);
        check.due("odds stay", x.many(4), 4);
        check.due("rule", x.rule(16), true);
        check.due("odds", x.many(4), 16);
        check.due("rule as it is", x.rule(16), true);
        check.due("rule", x.rule(0), true);
        check.due("odds", x.many(4), 0);
    }
}
