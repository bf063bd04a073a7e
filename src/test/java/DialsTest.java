/** Promises 53 to 57: DIALS, LIVED, the mean, MARKS. */
public final class DialsTest {
    private static final Check check = new Check();

    public static void main(String[] args) {
        steps();
        missed();
        lateMissed();
        whens();
        loops();
        cut();
        draws();
        livedStays();
        mean();
        marks();
        check.end();
    }

    private static LicensedVoice with(String dials) {
        LicensedVoice x = Check.inTown(Check.TOWN);
        Check.dials(x, dials);
        return x;
    }

    private static void lived(LicensedVoice x, int... want) {
        for (int what = 0; what < want.length; what++) {
            check.due("lived " + what, x.lived(what), want[what]);
        }
    }

    private static void steps() {
        LicensedVoice x = with("hour 3; sell oak ann 8; give box ben; cold cantor; year 1; hour 1; stop; hour 48;");
        check.refused("no live yet", x, x.lived(0), 8);
        check.refused("5 is ahead of 8", x, x.lived(5), 5);
        check.refused("seed", x, x.live(-1), 5);
        check.refused("seed", x, x.live(10000), 5);
        check.due("steps", x.live(9999), 7);
        // HOUR 3: ann fish 2, ben nothing (aunt dead, cantor cold), cyd fish 0.
        lived(x, 0, 4, 34 + 2, 1, 0);
        check.due("all stays so", x.many(5), 4);
        check.due("year", x.many(6), 1);
        check.due("coins", x.person(0, 0), 12);
        check.due("coins", x.person(1, 0), 13);
        check.due("owner", x.set(2, 2), 1);
        check.due("colds", x.many(8), 1);
        check.due("lonely", x.person(1, 2), 1);
        check.due("steps again", x.live(0), 7);
        lived(x, 3, 4, x.many(11) - 36, 0, 0);
        check.refused("what", x, x.lived(-1), 5);
        LicensedVoice y = new LicensedVoice();
        check.refused("no dials", y, y.live(0), 8);
        check.refused("5 is ahead of 8", y, y.live(-1), 5);
    }

    private static void missed() {
        LicensedVoice x = with("sell box ann 1;sell tin ann 1;sell oak ann 21;give oak ben;well aunt;cold aunt;cold aunt;year 1;"
                + "well aunt;well aunt;cold aunt;");
        check.due("steps", x.live(0), 11);
        lived(x, 8, 0, 0, 1, 0);
        check.due("coins", x.many(10), 35);
        LicensedVoice y = new LicensedVoice();
        Check.dials(y, "any;hour 1;year 1;");
        check.due("without VOICES", y.live(5), 3);
        lived(y, 1, 1, 0, 0, 0);
    }

    private static void lateMissed() {
        LicensedVoice x = with("hour 48; hour 1; year 20; year 1;");
        for (int i = 0; i < 101; i++) {
            x.hour(i < 100 ? 99 : 98);
        }
        for (int i = 0; i < 10; i++) {
            x.year(99);
        }
        check.due("hour", x.many(5), 9998);
        check.due("year", x.many(6), 990);
        x.live(0);
        lived(x, 2, 1);
        check.due("as a whole", x.many(5), 9999);
        check.due("as a whole", x.many(6), 991);
    }

    private static void whens() {
        LicensedVoice x = with("when glad cyd > 26; cold cantor; end; hour 3; when glad cyd > 27; cold aunt; end;"
                + "when glad cyd = 27; cold fishman; end; when glad cyd < 28; hour 1; end; when owns ben oak; give oak ann; end;"
                + "when owns ben oak; hour 9; end; when lives aunt; year 1; end; when lives aunt; stop; end; any;");
        check.due("steps", x.live(0), 14);
        check.due("colds", x.many(8) & 4, 0);
        check.due("hour", x.many(5), 4);
        check.due("oak", x.set(0, 2), 0);
        check.due("living", x.many(7), 3);
        check.due("any came to aunt, who is dead", x.lived(0), 1);
        check.due("hours", x.lived(1), 4);
    }

    private static void loops() {
        LicensedVoice x = with("loop 3; hour 1; loop 2; year 1; end; end;");
        check.due("steps", x.live(0), 1 + 3 * (1 + 1 + 2));
        check.due("hours", x.many(5), 3);
        check.due("years", x.many(6), 6);
        LicensedVoice y = with("loop 99; end; hour 2;");
        check.due("an empty loop is one step", y.live(0), 2);
        LicensedVoice z = with("loop 99; hour 1; when glad ann > 5; stop; end; end; year 1;");
        check.due("stop within", z.live(0), 1 + 4 * 2 + 1);
        check.due("years", z.many(6), 0);
        lived(z, 0, 4, z.many(11), 0, 0);
    }

    private static void cut() {
        LicensedVoice x = with("loop 99; hour 1; year 1; any; end;");
        check.due("300", x.live(1), 298);
        lived(x, x.lived(0), 99, x.many(11), 3, 0);
        LicensedVoice y = with("stop;stop;");
        check.due("stop", y.live(1), 1);
        check.due("not by stop", y.lived(4), 0);
        LicensedVoice z = with("loop 99; hour 1; hour 1; hour 1; end; any; year 1;");
        check.due("exactly", z.live(1), 300);
        check.due("nothing left", z.lived(4), 0);
        LicensedVoice more = with("loop 99; hour 1; hour 1; hour 1; end; any; year 1; stop;");
        check.due("cut", more.live(1), 300);
        check.due("one left", more.lived(4), 1);
        check.due("year", more.many(6), 1);
        LicensedVoice late = with("loop 75; hour 1; loop 2; end; hour 1; when owns ann oak; any; end; end;");
        check.due("cut within", late.live(1), 300);
        check.due("left", late.lived(4), 1);
        LicensedVoice ends = with("year 1; loop 1; loop 99; any; any; any; end; any; end;");
        check.due("only ends left", ends.live(1), 300);
        check.due("one any is left", ends.lived(4), 1);
        LicensedVoice none = with("loop 1; year 1; loop 99; any; any; any; end; end; loop 9;end;");
        check.due("ends and a loop left", none.live(1), 300);
        check.due("left", none.lived(4), 1);
        LicensedVoice clean = with("loop 1; year 1; loop 99; any; any; any; end; end;");
        check.due("ends alone left", clean.live(1), 300);
        check.due("nothing left", clean.lived(4), 0);
    }

    /** By seed 0 s is 10847, then 59108: by 8, rounded down, 1355, 7388. */
    private static void draws() {
        LicensedVoice x = with("any;");
        x.rule(16);
        check.due("live", x.live(0), 1);
        check.due("VOICE 1355 by 3", x.many(8), 1 << 1355 % 3);
        x.rule(0);
        x.live(0);
        check.due("well", x.many(8), 0);
        x.rule(7388 % 16);
        x.live(0);
        check.due("not below", x.many(8), 0);
        x.rule(7388 % 16 + 1);
        x.live(0);
        check.due("below", x.many(8), 1 << 1355 % 3);
        x.live(0);
        check.due("again is not missed", x.lived(0), 0);
        LicensedVoice y = with("any; any;");
        y.rule(16);
        y.year(1);
        y.live(0);
        int s = 0;
        int colds = 0;
        int missed = 0;
        for (int i = 0; i < 2; i++) {
            s = (s * 2971 + 10847) % 65536;
            int voice = s / 8 % 3;
            s = (s * 2971 + 10847) % 65536;
            missed += voice == 2 ? 1 : 0;
            colds |= voice == 2 ? 0 : 1 << voice;
        }
        check.due("missed of a dead one", y.lived(0), missed);
        check.due("colds", y.many(8), colds);
    }

    private static void livedStays() {
        LicensedVoice x = with("hour 2; cold aunt; cold aunt;");
        x.mark();
        x.live(3);
        int glad = x.lived(2);
        x.back();
        lived(x, 1, 2, glad, 0, 0);
        Check.town(x, "subject a;");
        lived(x, 1, 2, glad, 0, 0);
        check.refused("live", x, x.live(0), 8);
        lived(x, 1, 2, glad, 0, 0);
        Check.dials(x, "hour 1;");
        x.mean(0, 20);
        lived(x, 1, 2, glad, 0, 0);
        x.live(0);
        lived(x, 0, 1, 0, 0, 0);
    }

    private static void mean() {
        LicensedVoice x = with("hour 3;");
        check.fraction("34", x, x.mean(0, 20), 34, 1);
        check.due("all stays", x.many(5), 0);
        x.hour(3);
        check.fraction("with what they are", x, x.mean(9999, 1), 68 - 34 + x.gladIn(0, 3) + x.gladIn(1, 3) + x.gladIn(2, 3) - 34, 1);
        check.denied("seed", x, x.mean(-1, 1), 5);
        check.denied("seed", x, x.mean(10000, 1), 5);
        check.denied("many", x, x.mean(0, 0), 5);
        check.denied("many", x, x.mean(0, 21), 5);
        check.denied("the last", x, x.mean(9990, 11), 5);
        check.denied("far", x, x.mean(Integer.MAX_VALUE, Integer.MAX_VALUE), 5);
        check.due("the last", x.mean(9990, 10), true);
        LicensedVoice none = new LicensedVoice();
        check.denied("no dials", none, none.mean(0, 1), 8);
        check.denied("5 is ahead of 8", none, none.mean(0, 0), 5);
        LicensedVoice y = with("any; hour 1;");
        long sum = 0;
        for (int seed = 7; seed < 19; seed++) {
            y.mark();
            y.live(seed);
            sum += y.many(11);
            y.back();
        }
        check.due("mean", y.mean(7, 12), true);
        check.due("sum", y.top() * 12, sum * y.bottom());
        check.due("no common divisor", java.math.BigInteger.valueOf(y.top()).gcd(java.math.BigInteger.valueOf(y.bottom())).intValue(), 1);
    }

    private static void marks() {
        LicensedVoice x = with("any; hour 1;");
        check.refused("no mark", x, x.back(), 8);
        x.tray(0, 0, 1);
        check.due("mark", x.mark(), 1);
        x.hour(1);
        check.due("mark", x.mark(), 2);
        Check.town(x, "subject a;subject b;person p;");
        Check.dials(x, "year 1;");
        x.rule(9);
        check.due("mark", x.mark(), 3);
        check.refused("a fourth", x, x.mark(), 7);
        x.write(0, 0, 5);
        x.please(0, 1, 4);
        x.rule(3);
        Check.dials(x, "year 2; year 1; year 1;");
        check.due("back", x.back(), 2);
        check.due("like", x.like(0, 1), 0);
        check.due("odds", x.many(4), 9);
        check.due("trays stay", x.read(0, 0), 5);
        check.due("dials", x.live(0), 1);
        check.due("year", x.many(6), 1);
        check.due("back", x.back(), 1);
        check.due("sets", x.many(3), 4);
        check.due("hour", x.many(5), 1);
        check.due("dials", x.live(0), 2);
        check.due("the names are back, too", Check.dials(x, "sell oak ann 1;"), 1);
        x.give(2, 0);
        x.flaw(0, 2);
        x.teach(0, 0);
        x.year(1);
        x.cold(0, true);
        x.sell(0, 0, 3);
        check.due("back", x.back(), 0);
        check.due("hour", x.many(5), 0);
        check.due("glad", x.many(11), 0);
        check.due("owner", x.set(0, 2), 1);
        check.due("nobody's", x.many(9), 4);
        check.refused("flaw", x, x.set(0, 1), 8);
        check.due("row", x.voice(0, 2), 2);
        check.due("living", x.many(7), 7);
        check.due("age", x.voice(2, 0), 69);
        check.due("colds", x.many(8), 0);
        check.due("coins", x.person(0, 0), 20);
        check.refused("no mark", x, x.back(), 8);
        check.due("mark again", x.mark(), 1);
    }
}
