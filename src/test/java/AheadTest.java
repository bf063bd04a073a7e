/** Promises 29 to 35: HOURS ahead. */
public final class AheadTest {
    private static final Check check = new Check();

    public static void main(String[] args) {
        says();
        hears();
        glad();
        lonely();
        dies();
        crowds();
        check.end();
    }

    private static void says() {
        LicensedVoice x = Check.inTown(Check.TOWN);
        check.due("says", x.saysIn(1, 0), 0);
        check.due("says", x.saysIn(1, 2), 2);
        check.due("says", x.saysIn(1, 999), 0);
        x.hour(2);
        check.due("from the HOUR on", x.saysIn(1, 0), 2);
        check.refused("says", x, x.saysIn(1, -1), 5);
        check.refused("says", x, x.saysIn(1, 1000), 5);
        check.refused("says", x, x.saysIn(3, 1000), 2);
        x.cold(1, true);
        check.refused("cold", x, x.saysIn(1, 0), 8);
        x.year(1);
        check.refused("dead", x, x.saysIn(2, 0), 8);
        check.refused("5 is ahead of 8", x, x.saysIn(2, 1000), 5);
    }

    private static void hears() {
        LicensedVoice x = Check.inTown(Check.TOWN);
        check.due("hears", x.hearsIn(2, 0), 5);
        check.due("hears", x.hearsIn(2, 2), 4);
        check.due("hears", x.hearsIn(2, 999), 5);
        check.refused("hears", x, x.hearsIn(2, 1000), 5);
        check.refused("hears", x, x.hearsIn(2, -1), 5);
        check.refused("hears", x, x.hearsIn(3, -1), 2);
        x.cold(1, true);
        check.due("one of two has a cold", x.hearsIn(2, 0), 4);
        check.due("nothing", x.hearsIn(0, 0), 0);
        check.due("status", x.status(), 0);
    }

    private static void glad() {
        LicensedVoice x = Check.inTown(Check.TOWN);
        check.due("now", x.gladIn(0, 0), 0);
        check.due("in 300", x.gladIn(0, 300), 400);
        check.refused("in 301", x, x.gladIn(0, 301), 5);
        check.refused("in -1", x, x.gladIn(0, -1), 5);
        check.refused("who", x, x.gladIn(3, 0), 2);
        check.due("by", x.gladBy(0, 0), 0);
        check.due("by", x.gladBy(0, 3), 2);
        check.due("by", x.gladBy(0, 5), 4);
        check.due("by", x.gladBy(0, 400), 299);
        check.refused("by", x, x.gladBy(0, 401), 8);
        check.due("by the last", x.gladBy(2, 2700), 300);
        check.refused("by", x, x.gladBy(2, 2701), 8);
        check.refused("by", x, x.gladBy(0, 9999), 8);
        check.refused("by", x, x.gladBy(0, 10000), 5);
        check.refused("by", x, x.gladBy(0, -1), 5);
        check.refused("by", x, x.gladBy(3, 0), 2);
        x.hour(3);
        check.due("with what he is", x.gladIn(0, 1), 6);
        check.due("already", x.gladBy(0, 4), 0);
        check.due("nothing went by", x.many(5), 3);
    }

    private static void lonely() {
        LicensedVoice x = Check.inTown(Check.TOWN);
        check.refused("never", x, x.lonelyIn(0), 8);
        check.refused("who", x, x.lonelyIn(3), 2);
        x.dump(1);
        check.due("now", x.lonelyIn(0), 0);
        x.give(1, 0);
        x.cold(1, true);
        check.due("by a cold", x.lonelyIn(0), 0);
        check.refused("another voice", x, x.lonelyIn(2), 8);
    }

    private static void dies() {
        LicensedVoice x = Check.inTown(Check.TOWN);
        check.due("cantor", x.diesIn(0), 10);
        check.due("aunt", x.diesIn(2), 1);
        check.refused("who", x, x.diesIn(3), 2);
        x.year(1);
        check.due("cantor", x.diesIn(0), 9);
        check.refused("dead", x, x.diesIn(2), 8);
        LicensedVoice y = Check.inTown("subject a;voice u age 0 life 120 says a;voice v age 50 life 50 says a;");
        check.due("the most", y.diesIn(0), 120);
        check.due("the least", y.diesIn(1), 1);
    }

    private static void crowds() {
        LicensedVoice x = Check.inTown(Check.TOWN);
        check.due("cantor", x.crowd(0), 2);
        check.due("fishman", x.crowd(1), 5);
        check.due("aunt, by a flaw", x.crowd(2), 4);
        x.give(2, 0);
        check.due("cantor, by a flaw", x.crowd(0), 3);
        x.year(1);
        check.due("a dead one", x.crowd(2), 5);
        check.refused("who", x, x.crowd(3), 2);
        check.refused("who", x, x.crowd(-1), 2);
    }
}
