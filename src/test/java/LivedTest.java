import java.math.BigInteger;
import java.util.List;

/**
 * Promises 53 to 57 and what the Terms say of STEPS, draws, FRACTIONS and MARKS: every limit, the last that
 * is done and the first that is MISSED or refused.
 */
public final class LivedTest {
    private static final Check check = new Check();
    private static final String ONE = "odds 0;subject a;voice v age 1 life 120 says a;person p coins 5;person q coins 999;likes p a 9;"
            + "set s gets v for p;set t gets v;";

    public static void main(String[] args) {
        seeds();
        lastHours();
        lastYears();
        sales();
        gifts();
        colds();
        anyOfNone();
        anyByOdds();
        anyBySeeds();
        glad();
        gladToTheLast();
        livesAndOwns();
        loops();
        threeHundred();
        left();
        livedOfLatest();
        means();
        meanChangesNothing();
        threeMarks();
        marksKeepAll();
        marksKeepDials();
        marksAndTowns();
        fractions();
        check.end();
    }

    private static LicensedVoice with(String town, String dials) {
        LicensedVoice x = Check.inTown(town);
        int steps = Check.dials(x, dials);
        check.due("dials are taken: " + dials, steps >= 0, true);
        return x;
    }

    private static void lived(LicensedVoice x, int... want) {
        for (int what = 0; what < want.length; what++) {
            check.due("lived " + what, x.lived(what), want[what]);
            check.due("lived STATUS", x.status(), 0);
        }
    }

    // ---- STEPS

    private static void seeds() {
        LicensedVoice x = with(ONE, "any;hour 1;");
        check.due("seed 0", x.live(0), 2);
        check.due("seed 9,999", x.live(9999), 2);
        check.refused("seed 10,000", x, x.live(10000), 5);
        check.refused("seed -1", x, x.live(-1), 5);
        lived(x, 0, 1, 9, 0, 0);
        check.due("two HOURS", x.many(5), 2);
    }

    private static LicensedVoice late(int hours, int years, String dials) {
        LicensedVoice x = Check.inTown(ONE);
        for (int left = hours; left > 0; left -= Math.min(left, 99)) {
            x.hour(Math.min(left, 99));
        }
        for (int left = years; left > 0; left -= Math.min(left, 99)) {
            x.year(Math.min(left, 99));
        }
        Check.dials(x, dials);
        return x;
    }

    private static void lastHours() {
        LicensedVoice x = late(9951, 0, "hour 48;");
        check.due("to 9,999", x.live(0), 1);
        lived(x, 0, 48, 432, 0, 0);
        check.due("HOUR", x.many(5), 9999);
        check.due("none is left", x.live(0), 1);
        lived(x, 1, 0, 0, 0, 0);
        LicensedVoice y = late(9952, 0, "hour 48;hour 47;hour 1;year 1;");
        check.due("as a whole", y.live(0), 4);
        lived(y, 2, 47, 423, 0, 0);
        check.due("HOUR", y.many(5), 9999);
        check.due("YEARS go by still", y.many(6), 1);
    }

    private static void lastYears() {
        LicensedVoice x = late(0, 979, "year 20;");
        check.due("to 999", x.live(0), 1);
        lived(x, 0, 0, 0, 0, 0);
        check.due("YEAR", x.many(6), 999);
        x.live(0);
        lived(x, 1, 0, 0, 0, 0);
        LicensedVoice y = late(0, 980, "year 20;year 19;year 1;hour 1;");
        check.due("as a whole", y.live(0), 4);
        lived(y, 2, 1, 0, 0, 0);
        check.due("YEAR", y.many(6), 999);
        LicensedVoice z = with(Check.FULL, "year 1;year 1;year 20;loop 5;year 20;end;");
        check.due("three DIALS of YEARS", z.live(0), 9);
        lived(z, 0, 0, 0, 6, 0);
        check.due("YEAR", z.many(6), 122);
        z.live(0);
        lived(z, 0, 0, 0, 0, 0);
    }

    private static void sales() {
        LicensedVoice x = with(ONE, "sell s q 999;");
        x.live(0);
        lived(x, 0, 0, 0, 0, 0);
        check.due("all that he has", x.person(1, 0), 0);
        check.due("and he has it", x.person(0, 0), 1004);
        check.due("owner", x.set(0, 2), 1);
        String[] missed = {"sell s q 1;", "sell s p 6;", "sell t q 0;"};
        for (String step : missed) {
            LicensedVoice y = with(ONE, step);
            y.give(0, step.startsWith("sell s q") ? 1 : step.startsWith("sell s p") ? 1 : 0);
            y.live(0);
            lived(y, 1, 0, 0, 0, 0);
            check.due("COINS", y.person(0, 0), 5);
        }
        LicensedVoice z = with(ONE, "sell s q 0;sell s q 0;sell s p 5;sell s p 0;sell s q 5;sell s p 6;");
        check.due("steps", z.live(0), 6);
        lived(z, 3, 0, 0, 0, 0);
        check.due("COINS", z.person(0, 0), 5);
        check.due("owner", z.set(0, 2), 1);
    }

    private static void gifts() {
        LicensedVoice x = with(ONE, "give s p;give s q;give s q;give t p;give t p;");
        x.live(0);
        lived(x, 3, 0, 0, 0, 0);
        check.due("s", x.set(0, 2), 1);
        check.due("t", x.set(1, 2), 0);
    }

    private static void colds() {
        LicensedVoice x = with(ONE, "well v;cold v;cold v;well v;well v;cold v;");
        x.live(0);
        lived(x, 3, 0, 0, 0, 0);
        check.due("cold", x.many(8), 1);
        LicensedVoice y = with(ONE, "cold v;year 20;year 20;year 20;year 20;year 20;year 18;year 1;cold v;well v;well v;cold v;");
        y.live(0);
        lived(y, 3, 0, 0, 1, 0);
        check.due("well", y.many(8), 0);
    }

    // ---- draws

    private static void anyOfNone() {
        LicensedVoice x = with("odds 16;subject a;person p;", "any;any;hour 1;");
        check.due("steps", x.live(7), 3);
        lived(x, 2, 1, 0, 0, 0);
        LicensedVoice y = with(ONE, "any;any;");
        y.rule(16);
        y.live(3);
        lived(y, 0, 0, 0, 0, 0);
        check.due("cold", y.many(8), 1);
        y.year(99);
        y.year(99);
        y.rule(0);
        y.live(3);
        lived(y, 2, 0, 0, 0, 0);
        check.due("a dead one stays as it is", y.many(8), 1);
    }

    private static int draw(int[] s, int n) {
        s[0] = (int) ((s[0] * 2971L + 10847) % 65536);
        return s[0] / 8 % n;
    }

    /** For each ODDS a cold, if the second draw is below: the seeds of all 16 draws. */
    private static void anyByOdds() {
        boolean[] seen = new boolean[16];
        for (int seed = 0; seed < 40; seed++) {
            int[] s = {seed};
            draw(s, 1);
            int second = draw(s, 16);
            seen[second] = true;
            LicensedVoice x = with(ONE, "any;");
            for (int odds = 0; odds <= 16; odds++) {
                x.rule(odds);
                x.live(seed);
                check.due("seed " + seed + " by " + odds, x.many(8), second < odds ? 1 : 0);
                check.due("not MISSED", x.lived(0), 0);
            }
        }
        for (boolean each : seen) {
            check.due("each draw by 16 was seen", each, true);
        }
    }

    /** Draws go on through a LIVE; those of a dead VOICE are made, those without VOICES aren't. */
    private static void anyBySeeds() {
        for (int seed : new int[] {0, 1, 2, 3, 77, 4095, 4096, 8191, 9998, 9999}) {
            LicensedVoice x = with(Check.FULL, "year 1;loop 20;any;end;");
            x.rule(8);
            check.due("steps", x.live(seed), 22);
            int[] s = {seed};
            int colds = 0;
            int missed = 0;
            for (int i = 0; i < 20; i++) {
                int voice = draw(s, 6);
                boolean cold = draw(s, 16) < 8;
                if (voice < 2) {
                    missed++;
                } else {
                    colds = cold ? colds | 1 << voice : colds & ~(1 << voice);
                }
            }
            check.due("colds by seed " + seed, x.many(8), colds);
            lived(x, missed, 0, 0, 2, 0);
        }
    }

    // ---- TESTS, loops

    private static void glad() {
        String[] signs = {"<", ">", "="};
        int[] numbers = {0, 8, 9, 10, 9999};
        boolean[][] holds = {{false, false, false, true, true}, {true, true, false, false, false}, {false, false, true, false, false}};
        for (int i = 0; i < 3; i++) {
            for (int k = 0; k < 5; k++) {
                LicensedVoice x = with(ONE, "hour 1;when glad p " + signs[i] + numbers[k] + ";give t p;any;end;");
                check.due("9 " + signs[i] + numbers[k], x.live(0), holds[i][k] ? 4 : 2);
                check.due("t", x.set(1, 2), holds[i][k] ? 0 : -1);
            }
        }
        LicensedVoice x = with(ONE, "when glad q = 0;give t q;end;when glad q < 0;give s q;end;when glad q > 0;give s q;end;");
        check.due("0 of the other", x.live(0), 4);
        check.due("t", x.set(1, 2), 1);
        check.due("s", x.set(0, 2), 0);
    }

    private static void gladToTheLast() {
        LicensedVoice x = late(1111, 0, "when glad p = 9999;cold v;end;when glad p < 9999;stop;end;when glad p > 9999;stop;end;any;");
        check.due("9,999", x.person(0, 1), 9999);
        check.due("steps", x.live(0), 5);
        LicensedVoice y = late(1112, 0, "when glad p = 9999;stop;end;when glad p < 9999;stop;end;when glad p > 9999;cold v;stop;end;any;");
        check.due("steps", y.live(0), 5);
        check.due("cold", y.many(8), 1);
        lived(y, 0, 0, 0, 0, 0);
    }

    private static void livesAndOwns() {
        LicensedVoice x = with(ONE, "when lives v;hour 1;end;when owns p s;hour 2;end;when owns q s;hour 4;end;when owns p t;hour 8;end;");
        check.due("steps", x.live(0), 6);
        lived(x, 0, 3, 27, 0, 0);
        x.year(99);
        x.year(20);
        x.give(0, 1);
        x.give(1, 0);
        check.due("steps", x.live(0), 6);
        lived(x, 0, 12, 0, 0, 0);
        LicensedVoice y = with(ONE, "when lives v;when owns p s;when glad p = 0;hour 1;end;hour 2;end;hour 4;end;hour 8;");
        check.due("within one another", y.live(0), 7);
        lived(y, 0, 15, 135, 0, 0);
        check.due("not the innermost", y.live(0), 6);
        lived(y, 0, 14, 126, 0, 0);
        y.dump(0);
        check.due("not the middle one", y.live(0), 4);
        lived(y, 0, 12, 0, 0, 0);
        y.year(99);
        y.year(99);
        check.due("not the outermost", y.live(0), 2);
        lived(y, 0, 8, 0, 0, 0);
    }

    private static void loops() {
        for (int n : new int[] {1, 2, 98, 99}) {
            LicensedVoice x = with(ONE, "loop " + n + ";hour 1;end;");
            check.due("as often", x.live(0), 1 + n);
            lived(x, 0, n, 9 * n, 0, 0);
        }
        LicensedVoice x = with(ONE, "loop 2;loop 3;loop 4;hour 1;end;end;year 1;end;hour 1;");
        check.due("each is counted when it is come to from ahead", x.live(0), 1 + 2 + 6 + 24 + 2 + 1);
        lived(x, 0, 25, 225, 0, 0);
        check.due("YEARS", x.many(6), 2);
        check.due("and so again", x.live(0), 36);
        LicensedVoice y = with(ONE, "loop 2;when owns p s;give s q;end;hour 1;end;");
        check.due("a TEST is asked each time", y.live(0), 1 + 2 + 1 + 2);
        lived(y, 0, 2, 0, 0, 0);
        LicensedVoice z = with(ONE, "loop 99;hour 1;when glad p > 26;stop;end;end;hour 9;");
        check.due("stop", z.live(0), 1 + 3 * 2 + 1);
        lived(z, 0, 3, 27, 0, 0);
        LicensedVoice e = with(ONE, "loop 99;loop 2;end;end;");
        check.due("empty ones", e.live(0), 100);
        lived(e, 0, 0, 0, 0, 0);
    }

    // ---- 300 STEPS

    private static void threeHundred() {
        String[] behind = {"hour 1;", "year 1;", "stop;", "any;", "give s p;", "when glad p = 1;end;", "loop 1;end;", "when lives v;end;"};
        for (String step : behind) {
            // 1 + 99 times 3 are 298.
            LicensedVoice x = with(ONE, "loop 99;any;any;any;end;cold v;" + step);
            check.due("300 with " + step, x.live(0), 300);
            check.due("nothing is left behind " + step, x.lived(4), 0);
            LicensedVoice y = with(ONE, "loop 99;any;any;any;end;cold v;well v;" + step);
            check.due("300 ahead of " + step, y.live(0), 300);
            check.due("one is left, " + step, y.lived(4), 1);
            check.due("and not done", y.many(5) + y.many(6) + y.lived(0), 0);
            LicensedVoice z = with(ONE, "loop 99;any;any;any;end;" + step);
            check.due("299 with " + step, z.live(0), 299);
            check.due("nothing is left", z.lived(4), 0);
        }
        LicensedVoice x = with(ONE, "loop 99;hour 48;hour 48;hour 48;end;");
        check.due("298", x.live(0), 298);
        check.due("of HOURS", x.lived(1), 9984);
        check.due("the others are MISSED", x.lived(0), 297 - 208);
        LicensedVoice y = with(ONE, "loop 99;loop 99;hour 1;end;end;");
        check.due("300", y.live(0), 300);
        // 1 + 3 times (1 + 99) are 301, the last HOUR is left.
        lived(y, 0, 296, 2664, 0, 1);
    }

    private static void left() {
        LicensedVoice x = with(ONE, "any;loop 99;any;any;any;end;any;loop 1;end;");
        check.due("a loop is left", x.live(0), 300);
        check.due("left", x.lived(4), 1);
        LicensedVoice y = with(ONE, "any;any;loop 99;any;any;any;end;");
        check.due("300, ends behind them", y.live(0), 300);
        check.due("nothing is left", y.lived(4), 0);
        LicensedVoice z = with(ONE, "any;loop 1;when lives v;any;any;loop 98;any;any;any;end;end;end;");
        check.due("300, three ends behind them", z.live(0), 300);
        check.due("nothing is left", z.lived(4), 0);
        LicensedVoice again = with(ONE, "any;loop 2;loop 99;any;any;any;end;end;");
        check.due("300, a round behind them", again.live(0), 300);
        check.due("left", again.lived(4), 1);
        Check.dials(again, "stop;any;");
        check.due("stop", again.live(0), 1);
        check.due("not by stop", again.lived(4), 0);
        LicensedVoice late = with(ONE, "loop 99;any;any;any;end;any;stop;any;");
        check.due("stop is the 300th", late.live(0), 300);
        check.due("not by stop", late.lived(4), 0);
    }

    private static void livedOfLatest() {
        LicensedVoice x = with(ONE, "hour 5;give s q;give s q;year 20;hour 5;");
        x.live(0);
        lived(x, 1, 10, 45, 0, 0);
        check.due("whatever came since", x.hour(99), 0);
        x.year(99);
        x.mean(0, 1);
        x.live(-1);
        lived(x, 1, 10, 45, 0, 0);
        Check.dials(x, "hour 1;");
        lived(x, 1, 10, 45, 0, 0);
        Check.town(x, ONE);
        x.live(0);
        lived(x, 1, 10, 45, 0, 0);
        x.mark();
        x.back();
        lived(x, 1, 10, 45, 0, 0);
        Check.dials(x, "");
        check.due("DIALS of none", x.live(0), 0);
        lived(x, 0, 0, 0, 0, 0);
    }

    // ---- the mean

    private static void means() {
        LicensedVoice x = with(ONE, "hour 2;");
        check.fraction("one seed", x, x.mean(0, 1), 18, 1);
        check.fraction("20 seeds", x, x.mean(0, 20), 18, 1);
        check.fraction("the last seed", x, x.mean(9999, 1), 18, 1);
        check.fraction("20 to the last", x, x.mean(9980, 20), 18, 1);
        check.denied("20 beyond the last", x, x.mean(9981, 20), 5);
        x.hour(1);
        check.fraction("how GLAD all are, not by how much more", x, x.mean(3, 2), 27, 1);
        LicensedVoice y = with(ONE, "any;hour 1;");
        y.rule(8);
        for (int seed = 0; seed < 20; seed++) {
            for (int many = 1; many <= 20; many++) {
                int all = 0;
                for (int i = seed; i < seed + many; i++) {
                    int[] s = {i};
                    draw(s, 1);
                    all += draw(s, 16) < 8 ? 0 : 9;
                }
                int divisor = BigInteger.valueOf(all).gcd(BigInteger.valueOf(many)).intValue();
                if (seed % 5 == 0) {
                    check.fraction("mean " + seed + ", " + many, y, y.mean(seed, many), all / divisor, many / divisor);
                }
            }
        }
        LicensedVoice z = with("subject a;", "hour 1;");
        check.fraction("of nobody", z, z.mean(0, 20), 0, 1);
        Check.dials(x, "");
        check.fraction("DIALS of none", x, x.mean(0, 7), 9, 1);
    }

    private static void meanChangesNothing() {
        LicensedVoice x = with(Check.FULL, "any;hour 9;year 20;give v m;sell w n 7;any;cold k;hour 1;");
        LicensedVoice y = with(Check.FULL, "any;hour 9;year 20;give v m;sell w n 7;any;cold k;hour 1;");
        x.mark();
        y.mark();
        x.mean(3, 20);
        check.due("all stays", Twin.town(x).equals(Twin.town(y)), true);
        check.refused("no LIVED", x, x.lived(0), 8);
        x.live(8);
        y.live(8);
        x.mean(0, 20);
        check.due("all stays", Twin.town(x).equals(Twin.town(y)), true);
        check.due("MARKS, too", x.back(), y.back());
        check.due("MARKS, too", Twin.town(x).equals(Twin.town(y)), true);
    }

    // ---- MARKS

    private static void threeMarks() {
        LicensedVoice x = Check.inTown(ONE);
        for (int round = 0; round < 2; round++) {
            for (int n = 1; n <= 3; n++) {
                check.due("mark", x.mark(), n);
                x.hour(n);
            }
            check.refused("a fourth", x, x.mark(), 7);
            check.due("HOUR", x.many(5), 6);
            for (int n = 2; n >= 0; n--) {
                check.due("back", x.back(), n);
                check.due("HOUR", x.many(5), n == 2 ? 3 : n == 1 ? 1 : 0);
            }
            check.refused("once too often", x, x.back(), 8);
            check.due("HOUR", x.many(5), 0);
        }
    }

    private static void marksKeepAll() {
        LicensedVoice x = Check.inTown(Check.FULL);
        x.hour(4);
        x.year(2);
        x.cold(5, true);
        List<Long> before = Twin.town(x);
        check.due("mark", x.mark(), 1);
        x.hour(50);
        x.rule(3);
        x.sell(5, 1, 9);
        x.sell(0, 4, 3);
        for (int i = 0; i < 6; i++) {
            x.teach(i, 5 - i);
            x.give(i, (i + 1) % 6);
            x.flaw(i, (i + 3) % 6);
            x.cold(i, i % 2 == 0);
            for (int s = 0; s < 6; s++) {
                x.please(i, s, 8);
            }
        }
        x.hour(99);
        x.year(99);
        x.dump(4);
        check.due("all is other", before.equals(Twin.town(x)), false);
        check.due("back", x.back(), 0);
        check.due("all is back", Twin.town(x), before);
    }

    private static void marksKeepDials() {
        LicensedVoice x = Check.inTown(ONE);
        x.mark();
        Check.dials(x, "loop 3;hour 1;end;");
        x.mark();
        Check.dials(x, "");
        x.mark();
        Check.dials(x, "year 1;year 1;year 1;year 1;when glad p > 5;hour 9;end;");
        check.due("live", x.live(0), 5);
        x.back();
        check.due("DIALS of none", x.live(0), 0);
        x.back();
        check.due("those of the second MARK", x.live(0), 4);
        check.due("HOUR", x.many(5), 3);
        x.back();
        check.refused("none", x, x.live(0), 8);
    }

    private static void marksAndTowns() {
        LicensedVoice x = Check.inTown(ONE);
        List<Long> one = Twin.town(x);
        x.mark();
        Check.town(x, Check.FULL);
        List<Long> full = Twin.town(x);
        x.mark();
        Check.town(x, "");
        check.due("a TOWN of nobody", x.many(1) + x.many(2), 0);
        x.tray(0, 0, 1);
        x.back();
        check.due("the TOWN ahead", Twin.town(x), full);
        check.due("all NAMES", Check.dials(x, "give s m;give x r;give t n;cold g;cold l;when owns r x;end;"), 6);
        check.refused("a NAME that was not", x, Check.dials(x, "cold a;"), 10);
        check.due("TRAYS stay", x.write(0, 0, 1), true);
        x.back();
        check.due("the TOWN ahead of it", Twin.town(x), one);
        check.due("TRAYS stay", x.read(0, 0), 1);
    }

    // ---- FRACTIONS

    private static void fractions() {
        LicensedVoice x = with(ONE, "hour 1;");
        check.due("at first 0", x.top(), 0);
        check.due("by 1", x.bottom(), 1);
        x.rule(12);
        check.fraction("alive", x, x.alive(0, 3), 1, 64);
        check.fraction("warm", x, x.warm(0), 1, 4);
        check.fraction("mean", x, x.mean(0, 2), 9, 1);
        x.live(0);
        x.hour(1);
        Check.town(x, "");
        x.mark();
        x.back();
        check.due("that told latest", x.top(), 9);
        check.due("that told latest", x.bottom(), 1);
    }
}
