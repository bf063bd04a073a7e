/** Promises 43 to 48: FITS, ASK, PEACE, what is popular. */
public final class WhoTest {
    private static final Check check = new Check();

    public static void main(String[] args) {
        fits();
        fitFaults();
        ask();
        peace();
        popular();
        check.end();
    }

    private static void two(LicensedVoice x, int tray, int i, long hour, long subject) {
        x.write(tray, 2 * i, hour);
        x.write(tray, 2 * i + 1, subject);
    }

    private static void fits() {
        LicensedVoice x = Check.inTown(Check.TOWN);
        x.tray(0, 1, 40);
        check.due("all", x.fits(0, 0), 7);
        two(x, 0, 0, 5, 2);
        check.due("rain in 5", x.fits(0, 1), 7);
        two(x, 0, 1, 9999, 2);
        check.due("rain in 9,999", x.fits(0, 2), 5);
        two(x, 0, 2, 0, 1);
        check.due("god in 0", x.fits(0, 3), 1);
        two(x, 0, 3, 0, 2);
        check.due("rain in 0, too", x.fits(0, 4), 0);
        x.cold(0, true);
        x.year(50);
        x.hour(1);
        check.due("dead, cold, later", x.fits(0, 3), 1);
        x.tray(1, 1, 40);
        for (int i = 0; i < 20; i++) {
            two(x, 1, i, i, i % 2 == 0 ? 1 : 2);
        }
        check.due("20", x.fits(1, 20), 1);
    }

    private static void fitFaults() {
        LicensedVoice x = Check.inTown(Check.TOWN);
        check.refused("fits", x, x.fits(4, 0), 1);
        check.refused("fits", x, x.fits(0, 0), 3);
        check.refused("ask", x, x.ask(-1, 0), 1);
        check.refused("ask", x, x.ask(0, 0), 3);
        x.tray(0, 3, 60);
        x.tray(1, 3, 3);
        check.refused("21", x, x.fits(0, 21), 5);
        check.refused("30", x, x.fits(0, 30), 5);
        check.refused("31", x, x.fits(0, 31), 4);
        check.refused("far", x, x.fits(0, Integer.MAX_VALUE), 4);
        check.refused("far", x, x.fits(0, 1 << 30), 4);
        check.refused("below 0", x, x.fits(0, -1), 5);
        check.refused("below 0", x, x.fits(0, Integer.MIN_VALUE), 5);
        check.refused("two of three", x, x.fits(1, 2), 4);
        check.due("one of three", x.fits(1, 1), 2);
        two(x, 0, 0, 10000, 0);
        check.refused("hour", x, x.fits(0, 1), 5);
        two(x, 0, 0, -1, 0);
        check.refused("hour", x, x.fits(0, 1), 5);
        two(x, 0, 0, 1L << 32, 0);
        check.refused("hour", x, x.fits(0, 1), 5);
        two(x, 0, 0, 0, 3);
        check.refused("subject", x, x.fits(0, 1), 5);
        check.refused("ask", x, x.ask(0, 1), 5);
        two(x, 0, 0, 0, -1);
        check.refused("subject", x, x.fits(0, 1), 5);
        check.refused("ask", x, x.ask(0, 21), 5);
        check.refused("ask", x, x.ask(1, 2), 4);
    }

    private static void ask() {
        LicensedVoice x = Check.inTown(Check.TOWN);
        x.tray(0, 1, 40);
        check.due("all three apart in 0", x.ask(0, 0), 0);
        two(x, 0, 0, 1, 2);
        check.due("cantor, aunt apart in 0", x.ask(0, 1), 0);
        two(x, 0, 1, 0, 2);
        check.refused("one", x, x.ask(0, 2), 8);
        two(x, 0, 1, 2, 0);
        check.refused("none", x, x.ask(0, 2), 8);
        LicensedVoice y = Check.inTown("subject a;subject b;voice u age 1 life 2 says a a a a a b;voice v age 1 life 2 says a a a a a;"
                + "voice w age 1 life 2 says a;");
        y.tray(0, 1, 2);
        check.due("two of three in 5", y.ask(0, 0), 5);
        LicensedVoice z = Check.inTown("subject a;voice u age 1 life 2 says a a;voice v age 1 life 2 says a;");
        z.tray(0, 1, 2);
        check.due("never apart", z.ask(0, 0), 0);
        LicensedVoice late = Check.inTown("subject a;subject b;voice u age 1 life 2 says a a a a a a a b;"
                + "voice v age 1 life 2 says b b b b b b b;");
        late.tray(0, 1, 4);
        two(late, 0, 0, 7, 1);
        check.due("those that fit", late.ask(0, 1), 0);
    }

    private static void peace() {
        LicensedVoice x = Check.inTown(Check.TOWN);
        // ann: fish 2, god 7, rain 0; ben: fish 6, god 0, rain 3; cyd: fish 0, god 1, rain 9.
        check.due("ann, ben", x.peace(3), 0);
        check.due("ann, ben by", x.peaceBy(3), 2);
        check.due("ben, cyd", x.peace(6), 2);
        check.due("ben, cyd by", x.peaceBy(6), 3);
        check.due("ann, cyd", x.peace(5), 1);
        check.due("all: 0 by each, 8, 8, 12 together", x.peace(7), 2);
        check.due("all by", x.peaceBy(7), 0);
        x.please(2, 0, 4);
        x.please(0, 0, 0);
        check.due("10, 8, 12", x.peace(7), 2);
        x.please(2, 2, 7);
        check.due("10, 8, 10", x.peace(7), 0);
        check.refused("nobody", x, x.peace(0), 5);
        check.refused("nobody", x, x.peaceBy(0), 5);
        check.refused("no such", x, x.peace(8), 5);
        check.refused("no such", x, x.peaceBy(-1), 5);
        LicensedVoice y = Check.inTown("person p;");
        check.refused("no subjects", y, y.peace(1), 8);
        check.refused("no subjects", y, y.peaceBy(1), 8);
        check.refused("5 is ahead of 8", y, y.peace(2), 5);
    }

    private static void popular() {
        LicensedVoice x = Check.inTown(Check.TOWN);
        // fishman is got by ann (god 7) and cyd (rain 9).
        check.due("fishman", x.popular(1), 1);
        check.due("fishman by", x.popularBy(1), 1);
        check.due("aunt", x.popular(2), 2);
        x.please(0, 2, 5);
        check.due("fishman", x.popular(1), 2);
        check.due("fishman by", x.popularBy(1), 2);
        x.please(0, 2, 4);
        check.due("4 is too little", x.popular(1), 1);
        x.dump(0);
        check.due("nobody", x.popular(0), 0);
        check.due("nobody by", x.popularBy(0), 0);
        check.refused("who", x, x.popular(3), 2);
        check.refused("who", x, x.popularBy(-1), 2);
    }
}
