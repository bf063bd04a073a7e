/**
 * All promises: every STATUS that a call may have, the first value that is refused on either side, which STATUS
 * comes ahead of which; and that a refused call gives NONE, or false, and changes nothing but STATUS.
 */
public final class RefusedTest {
    private static final Check check = new Check();
    private static final int LEAST = Integer.MIN_VALUE;
    private static final int MOST = Integer.MAX_VALUE;

    private static final Twin fresh = new Twin(check, "new", x -> { });
    private static final Twin rich = new Twin(check, "rich", RefusedTest::bringRich);
    private static final Twin late = new Twin(check, "late", RefusedTest::bringLate);
    private static final Twin untaped = new Twin(check, "untaped", RefusedTest::bringUntaped);
    private static final Twin poor = new Twin(check, "poor", x -> Check.town(x,
            "subject a;voice v age 1 life 2 says a;person p;person q;set e gets v for q;"));
    private static final Twin mute = new Twin(check, "mute", x -> Check.town(x, "person p;person q;"));

    public static void main(String[] args) {
        trays();
        pours();
        texts();
        faults();
        asks();
        hoursAndYears();
        sales();
        colds();
        likes();
        ahead();
        deals();
        picks();
        who();
        says();
        games();
        dials();
        marks();
        check.end();
    }

    /**
     * TRAYS 0 to 2, two MARKS, some HOURS, a dead aunt, a cantor with a cold, ann owns oak and tin, ben nothing,
     * cyd old; box is nobody's. 340 bytes on the tape.
     */
    private static void bringRich(LicensedVoice x) {
        x.tray(0, 0, 6);
        int[] row = {2, 0, 1, 1, 3, -1};
        for (int i = 0; i < 6; i++) {
            x.write(0, i, row[i]);
        }
        x.tray(1, 3, 44);
        long[] twos = {0, 1, 10000, 0, -1, 0, 0, 3, 0, -1, 1L << 32, 0};
        for (int i = 0; i < twos.length; i++) {
            x.write(1, i, twos[i]);
        }
        x.tray(2, 0, 3);
        Check.town(x, Check.TOWN);
        x.mark();
        x.hour(5);
        x.year(1);
        x.cold(0, true);
        x.flaw(0, 1);
        Check.dials(x, "hour 1; sell oak ann 3; any; when lives aunt; hour 48; end; well aunt;");
        x.live(3);
        x.alive(1, 2);
        x.mark();
        Check.tape(x, "subject a;subject b;" + " ".repeat(320));
    }

    /** All there may be of everything, and the last HOUR and YEAR: a TOWN of 900 bytes, 3 MARKS, 900 bytes of tape. */
    private static void bringLate(LicensedVoice x) {
        x.tray(3, 3, 60);
        x.write(3, 59, -5);
        Check.town(x, Check.FULL);
        Check.dials(x, "loop 99;hour 48;hour 48;hour 5;end;");
        x.live(0);
        Check.dials(x, "loop 49;year 20;end;year 19;");
        x.live(0);
        x.mark();
        x.mark();
        x.warm(0);
        x.mark();
        for (int i = 0; i < 45; i++) {
            x.feed(0x73756200, 0, 0, 0, 0);
        }
    }

    private static void bringUntaped(LicensedVoice x) {
        Check.town(x, Check.TOWN);
        x.mark();
        x.hour(3);
        x.cold(1, true);
        Check.dials(x, "any; loop 2; hour 1; end;");
        x.live(1);
    }

    // ---- promises 5 to 8

    private static void trays() {
        rich.denied("tray(-1, 0, 1)", 1, x -> x.tray(-1, 0, 1));
        rich.denied("tray(4, 0, 1)", 1, x -> x.tray(4, 0, 1));
        rich.denied("tray(0, -1, 1)", 1, x -> x.tray(0, -1, 1));
        rich.denied("tray(0, 4, 1)", 1, x -> x.tray(0, 4, 1));
        rich.denied("tray(0, 4, 61)", 1, x -> x.tray(0, 4, 61));
        rich.denied("tray(4, 0, -1)", 1, x -> x.tray(4, 0, -1));
        rich.denied("tray(0, 0, 61)", 5, x -> x.tray(0, 0, 61));
        rich.denied("tray(3, 3, MOST)", 5, x -> x.tray(3, 3, MOST));
        rich.denied("tray(0, 0, -1)", 6, x -> x.tray(0, 0, -1));
        rich.denied("tray(3, 3, LEAST)", 6, x -> x.tray(3, 3, LEAST));
        rich.denied("write(-1, 0)", 1, x -> x.write(-1, 0, 7));
        rich.denied("write(4, -1)", 1, x -> x.write(4, -1, 7));
        rich.denied("write(3, 0)", 3, x -> x.write(3, 0, 7));
        rich.denied("write(3, -1)", 3, x -> x.write(3, -1, 7));
        rich.denied("write(0, -1)", 4, x -> x.write(0, -1, 7));
        rich.denied("write(0, 6)", 4, x -> x.write(0, 6, 7));
        rich.denied("write(2, LEAST)", 4, x -> x.write(2, LEAST, 7));
        rich.denied("write(2, MOST)", 4, x -> x.write(2, MOST, 7));
        late.denied("write(3, 60)", 4, x -> x.write(3, 60, 7));
        rich.refused("read(-1, 0)", 1, x -> x.read(-1, 0));
        rich.refused("read(4, -1)", 1, x -> x.read(4, -1));
        rich.refused("read(3, 0)", 3, x -> x.read(3, 0));
        rich.refused("read(3, -1)", 3, x -> x.read(3, -1));
        rich.refused("read(0, -1)", 4, x -> x.read(0, -1));
        rich.refused("read(0, 6)", 4, x -> x.read(0, 6));
        rich.refused("read(2, LEAST)", 4, x -> x.read(2, LEAST));
        rich.refused("read(2, MOST)", 4, x -> x.read(2, MOST));
        late.refused("read(3, 60)", 4, x -> x.read(3, 60));
        rich.told("read of -1", -1, x -> x.read(0, 5));
        for (int tray = 0; tray < 4; tray++) {
            int t = tray;
            fresh.refused("read of MISSING", 3, x -> x.read(t, 0));
            fresh.denied("write of MISSING", 3, x -> x.write(t, 0, 0));
        }
    }

    private static void pours() {
        rich.denied("pour(-1 ..)", 1, x -> x.pour(-1, 0, 0, 0, 1));
        rich.denied("pour(4 ..)", 1, x -> x.pour(4, 0, 3, 0, -1));
        rich.denied("pour(.. -1 ..)", 1, x -> x.pour(0, 0, -1, 0, 1));
        rich.denied("pour(.. 4 ..)", 1, x -> x.pour(3, 0, 4, 0, -1));
        rich.denied("pour of MISSING", 3, x -> x.pour(3, 0, 0, 0, 1));
        rich.denied("pour into MISSING", 3, x -> x.pour(0, 0, 3, 0, 1));
        rich.denied("pour of MISSING, -1", 3, x -> x.pour(3, 9, 1, 9, -1));
        rich.denied("pour of unlike sorts", 11, x -> x.pour(0, 0, 1, 0, 1));
        rich.denied("pour of unlike sorts, -1", 11, x -> x.pour(1, -1, 0, 9, -1));
        rich.denied("pour of -1", 6, x -> x.pour(0, 0, 2, 0, -1));
        rich.denied("pour of -1 from no place", 6, x -> x.pour(0, -1, 2, 9, -1));
        rich.denied("pour of LEAST", 6, x -> x.pour(0, 0, 2, 0, LEAST));
        rich.denied("pour from -1", 4, x -> x.pour(0, -1, 2, 0, 1));
        rich.denied("pour to -1", 4, x -> x.pour(0, 0, 2, -1, 1));
        rich.denied("pour from 6", 4, x -> x.pour(0, 6, 2, 0, 1));
        rich.denied("pour to 3", 4, x -> x.pour(0, 0, 2, 3, 1));
        rich.denied("pour beyond what there is", 4, x -> x.pour(0, 4, 2, 0, 3));
        rich.denied("pour beyond what there is room for", 4, x -> x.pour(0, 0, 2, 1, 3));
        rich.denied("pour of none from -1", 4, x -> x.pour(0, -1, 2, 0, 0));
        rich.denied("pour of none to 4", 4, x -> x.pour(0, 0, 2, 4, 0));
        rich.denied("pour of none from 7", 4, x -> x.pour(0, 7, 2, 0, 0));
        rich.denied("pour in itself", 4, x -> x.pour(0, 0, 0, 1, 6));
        rich.denied("pour of MOST from MOST", 4, x -> x.pour(0, MOST, 2, MOST, MOST));
        rich.denied("pour of MOST from 1", 4, x -> x.pour(0, 1, 2, 0, MOST));
    }

    // ---- promises 9 to 12

    private static void texts() {
        late.silent("feed above 900", x -> x.feed(1, 2, 3, 4, 5));
        rich.refused("town(-1)", 5, x -> x.town(-1));
        rich.refused("town(341)", 5, x -> x.town(341));
        rich.refused("town(LEAST)", 5, x -> x.town(LEAST));
        rich.refused("town(MOST)", 5, x -> x.town(MOST));
        late.refused("town(901)", 5, x -> x.town(901));
        fresh.refused("town(1)", 5, x -> x.town(1));
        rich.refused("dials(-1)", 5, x -> x.dials(-1));
        rich.refused("dials(301)", 5, x -> x.dials(301));
        rich.refused("dials(341)", 5, x -> x.dials(341));
        rich.refused("dials(LEAST)", 5, x -> x.dials(LEAST));
        late.refused("dials(MOST)", 5, x -> x.dials(MOST));
        fresh.refused("dials(1)", 5, x -> x.dials(1));
        untaped.refused("dials(1) behind those taken", 5, x -> x.dials(1));
        rich.silent("fault(-1)", x -> x.fault(-1));
        rich.silent("fault(2)", x -> x.fault(2));
        rich.silent("fault(LEAST)", x -> x.fault(LEAST));
        rich.silent("fault(MOST)", x -> x.fault(MOST));
        rich.silent("fault(1) without one", x -> x.fault(1));
        fresh.silent("fault(0) ahead of any", x -> x.fault(0));
        fresh.silent("fault(1) ahead of any", x -> x.fault(1));
    }

    private static void faults() {
        untaped.faulty("odds 16; subject Ann;", true, 1, 17);
        untaped.faulty("odds 16; subject ann", true, 2, 20);
        untaped.faulty("odds 1;subject ann;person ann;", true, 3, 26);
        untaped.faulty("person ann coins 1000;", true, 4, 17);
        untaped.faulty("odds 0;subject a;odds 0;", true, 5, 17);
        untaped.faulty("person a;person b;person c;person d;person e;person f;person g;", true, 6, 54);
        untaped.faulty("hour 1; year 1_", false, 1, 14);
        untaped.faulty("hour 1; stop; end;", false, 2, 14);
        untaped.faulty("loop 9; hour 1; give oak aunt; end;", false, 3, 25);
        untaped.faulty("year 1; hour 49; go", false, 4, 13);
        untaped.faulty("stop;".repeat(30) + "any;", false, 6, 150);
        untaped.faulty("loop 1;loop 2;loop 3;when lives aunt;", false, 7, 21);
        fresh.faulty("subject a; subject a;", true, 3, 19);
        fresh.faulty("hour;", false, 2, 4);
    }

    // ---- promises 13 to 18

    private static void asks() {
        rich.refused("many(-1)", 5, x -> x.many(-1));
        rich.refused("many(12)", 5, x -> x.many(12));
        rich.refused("many(LEAST)", 5, x -> x.many(LEAST));
        rich.refused("many(MOST)", 5, x -> x.many(MOST));
        rich.refused("voice(-1, 0)", 2, x -> x.voice(-1, 0));
        rich.refused("voice(3, 0)", 2, x -> x.voice(3, 0));
        rich.refused("voice(3, 5)", 2, x -> x.voice(3, 5));
        late.refused("voice(6, 0)", 2, x -> x.voice(6, 0));
        rich.refused("voice(0, -1)", 5, x -> x.voice(0, -1));
        rich.refused("voice(2, 5)", 5, x -> x.voice(2, 5));
        rich.refused("row(-1, 0)", 2, x -> x.row(-1, 0));
        rich.refused("row(3, -1)", 2, x -> x.row(3, -1));
        late.refused("row(6, 0)", 2, x -> x.row(6, 0));
        rich.refused("row(0, -1)", 8, x -> x.row(0, -1));
        rich.refused("row(0, 2)", 8, x -> x.row(0, 2));
        rich.refused("row(2, 1)", 8, x -> x.row(2, 1));
        late.refused("row(3, 8)", 8, x -> x.row(3, 8));
        late.refused("row(3, MOST)", 8, x -> x.row(3, MOST));
        rich.refused("person(-1, 0)", 2, x -> x.person(-1, 0));
        rich.refused("person(3, 4)", 2, x -> x.person(3, 4));
        late.refused("person(6, 0)", 2, x -> x.person(6, 0));
        rich.refused("person(0, -1)", 5, x -> x.person(0, -1));
        rich.refused("person(2, 4)", 5, x -> x.person(2, 4));
        rich.refused("like(-1, 0)", 2, x -> x.like(-1, 0));
        rich.refused("like(3, 0)", 2, x -> x.like(3, 0));
        rich.refused("like(0, -1)", 2, x -> x.like(0, -1));
        rich.refused("like(0, 3)", 2, x -> x.like(0, 3));
        late.refused("like(6, 0)", 2, x -> x.like(6, 0));
        late.refused("like(0, 6)", 2, x -> x.like(0, 6));
        rich.refused("set(-1, 0)", 2, x -> x.set(-1, 0));
        rich.refused("set(4, 3)", 2, x -> x.set(4, 3));
        late.refused("set(6, 0)", 2, x -> x.set(6, 0));
        rich.refused("set(1, -1)", 5, x -> x.set(1, -1));
        rich.refused("set(2, 3)", 5, x -> x.set(2, 3));
        rich.refused("set(1, 1) without a FLAW", 8, x -> x.set(1, 1));
        rich.refused("set(2, 2) that is nobody's", 8, x -> x.set(2, 2));
    }

    // ---- promises 19 to 28

    private static void hoursAndYears() {
        for (int n : new int[] {0, -1, 100, LEAST, MOST}) {
            rich.refused("hour(" + n + ")", 5, x -> x.hour(n));
            rich.refused("year(" + n + ")", 5, x -> x.year(n));
            late.refused("hour(" + n + ")", 5, x -> x.hour(n));
            late.refused("year(" + n + ")", 5, x -> x.year(n));
        }
        late.refused("hour(1) at 9,999", 7, x -> x.hour(1));
        late.refused("hour(99) at 9,999", 7, x -> x.hour(99));
        late.refused("year(1) at 999", 7, x -> x.year(1));
        late.refused("year(99) at 999", 7, x -> x.year(99));
    }

    private static void sales() {
        rich.refused("sell(-1, 0, 0)", 2, x -> x.sell(-1, 0, 0));
        rich.refused("sell(4, 0, 1000)", 2, x -> x.sell(4, 0, 1000));
        rich.refused("sell(0, -1, 0)", 2, x -> x.sell(0, -1, 0));
        rich.refused("sell(0, 3, -1)", 2, x -> x.sell(0, 3, -1));
        late.refused("sell(6, 0, 0)", 2, x -> x.sell(6, 0, 0));
        late.refused("sell(1, 6, 0)", 2, x -> x.sell(1, 6, 0));
        rich.refused("sell(0, 1, -1)", 5, x -> x.sell(0, 1, -1));
        rich.refused("sell(2, 1, 1000) of nobody's", 5, x -> x.sell(2, 1, 1000));
        rich.refused("sell(0, 0, -1) of his own", 5, x -> x.sell(0, 0, -1));
        rich.refused("sell(0, 1, MOST)", 5, x -> x.sell(0, 1, MOST));
        rich.refused("sell of nobody's", 9, x -> x.sell(2, 0, 0));
        rich.refused("sell of his own", 9, x -> x.sell(0, 0, 0));
        rich.refused("sell for one coin too many", 9, x -> x.sell(0, 1, 9));
        late.refused("sell for 1 to who has 0", 9, x -> x.sell(2, 0, 1));
        rich.refused("give(-1, 0)", 2, x -> x.give(-1, 0));
        rich.refused("give(4, 0)", 2, x -> x.give(4, 0));
        rich.refused("give(0, -1)", 2, x -> x.give(0, -1));
        rich.refused("give(0, 3)", 2, x -> x.give(0, 3));
        late.refused("give(6, 0)", 2, x -> x.give(6, 0));
        late.refused("give(0, 6)", 2, x -> x.give(0, 6));
        rich.refused("give of his own", 9, x -> x.give(1, 0));
        rich.refused("dump(-1)", 2, x -> x.dump(-1));
        rich.refused("dump(4)", 2, x -> x.dump(4));
        late.refused("dump(6)", 2, x -> x.dump(6));
        rich.refused("dump of nobody's", 8, x -> x.dump(2));
    }

    private static void colds() {
        for (int i = 0; i < 2; i++) {
            boolean is = i == 0;
            rich.denied("cold(-1, " + is + ")", 2, x -> x.cold(-1, is));
            rich.denied("cold(3, " + is + ")", 2, x -> x.cold(3, is));
            late.denied("cold(6, " + is + ")", 2, x -> x.cold(6, is));
            rich.denied("cold of a dead one that is well, " + is, 9, x -> x.cold(2, is));
        }
        rich.denied("cold of who has one", 9, x -> x.cold(0, true));
        rich.denied("well of who is well", 9, x -> x.cold(1, false));
        rich.denied("flaw(-1, 0)", 2, x -> x.flaw(-1, 0));
        rich.denied("flaw(4, 6)", 2, x -> x.flaw(4, 6));
        late.denied("flaw(6, 0)", 2, x -> x.flaw(6, 0));
        for (int voice : new int[] {-1, 3, 4, 5, 7, LEAST, MOST}) {
            rich.denied("flaw(0, " + voice + ")", 2, x -> x.flaw(0, voice));
        }
        late.denied("flaw(0, 7)", 2, x -> x.flaw(0, 7));
        rich.denied("flaw that is so", 9, x -> x.flaw(0, 1));
        rich.denied("no flaw, that is so", 9, x -> x.flaw(1, 6));
        rich.denied("flaw that is its VOICE", 9, x -> x.flaw(0, 0));
        rich.denied("flaw that is its VOICE, without one", 9, x -> x.flaw(1, 1));
    }

    private static void likes() {
        rich.refused("please(-1, 0, 1)", 2, x -> x.please(-1, 0, 1));
        rich.refused("please(3, 0, 10)", 2, x -> x.please(3, 0, 10));
        rich.refused("please(0, -1, 1)", 2, x -> x.please(0, -1, 1));
        rich.refused("please(0, 3, -1)", 2, x -> x.please(0, 3, -1));
        late.refused("please(6, 0, 1)", 2, x -> x.please(6, 0, 1));
        late.refused("please(0, 6, 1)", 2, x -> x.please(0, 6, 1));
        rich.refused("please(0, 0, -1)", 5, x -> x.please(0, 0, -1));
        rich.refused("please(0, 0, 10)", 5, x -> x.please(0, 0, 10));
        rich.refused("please as it is", 9, x -> x.please(0, 0, 2));
        rich.refused("please as nothing is told", 9, x -> x.please(0, 2, 0));
        rich.refused("teach(-1, 0)", 2, x -> x.teach(-1, 0));
        rich.refused("teach(3, 0)", 2, x -> x.teach(3, 0));
        rich.refused("teach(0, -1)", 2, x -> x.teach(0, -1));
        rich.refused("teach(0, 3)", 2, x -> x.teach(0, 3));
        late.refused("teach(6, 0)", 2, x -> x.teach(6, 0));
        late.refused("teach(3, 6) of a full row", 2, x -> x.teach(3, 6));
        late.refused("teach a ninth", 7, x -> x.teach(3, 0));
        rich.denied("rule(-1)", 5, x -> x.rule(-1));
        rich.denied("rule(17)", 5, x -> x.rule(17));
        rich.denied("rule(LEAST)", 5, x -> x.rule(LEAST));
        rich.denied("rule(MOST)", 5, x -> x.rule(MOST));
    }

    // ---- promises 29 to 35

    private static void ahead() {
        for (int no : new int[] {-1, 3, LEAST, MOST}) {
            rich.refused("saysIn(" + no + ", 1000)", 2, x -> x.saysIn(no, 1000));
            rich.refused("hearsIn(" + no + ", 1000)", 2, x -> x.hearsIn(no, 1000));
            rich.refused("gladIn(" + no + ", 301)", 2, x -> x.gladIn(no, 301));
            rich.refused("gladBy(" + no + ", 10000)", 2, x -> x.gladBy(no, 10000));
            rich.refused("lonelyIn(" + no + ")", 2, x -> x.lonelyIn(no));
            rich.refused("diesIn(" + no + ")", 2, x -> x.diesIn(no));
            rich.refused("crowd(" + no + ")", 2, x -> x.crowd(no));
            rich.refused("warm(" + no + ")", 2, x -> x.warm(no) ? 0 : -1);
        }
        for (int hours : new int[] {-1, 1000, LEAST, MOST}) {
            rich.refused("saysIn(1, " + hours + ")", 5, x -> x.saysIn(1, hours));
            rich.refused("saysIn(2, " + hours + ") of a dead one", 5, x -> x.saysIn(2, hours));
            rich.refused("hearsIn(0, " + hours + ")", 5, x -> x.hearsIn(0, hours));
        }
        rich.refused("saysIn of a cold one", 8, x -> x.saysIn(0, 0));
        rich.refused("saysIn of a dead one", 8, x -> x.saysIn(2, 999));
        for (int hours : new int[] {-1, 301, LEAST, MOST}) {
            rich.refused("gladIn(0, " + hours + ")", 5, x -> x.gladIn(0, hours));
        }
        for (int much : new int[] {-1, 10000, LEAST, MOST}) {
            rich.refused("gladBy(0, " + much + ")", 5, x -> x.gladBy(0, much));
        }
        rich.refused("gladBy(0, 9999)", 8, x -> x.gladBy(0, 9999));
        rich.refused("gladBy(1, 400)", 8, x -> x.gladBy(1, 400));
        rich.refused("lonelyIn(0), never", 8, x -> x.lonelyIn(0));
        rich.refused("diesIn of a dead one", 8, x -> x.diesIn(2));
    }

    // ---- promises 36 to 42

    private static void deals() {
        rich.refused("worth(-1, 0)", 2, x -> x.worth(-1, 0));
        rich.refused("worth(3, 0)", 2, x -> x.worth(3, 0));
        rich.refused("worth(0, -1)", 2, x -> x.worth(0, -1));
        rich.refused("worth(0, 4)", 2, x -> x.worth(0, 4));
        late.refused("worth(6, 0)", 2, x -> x.worth(6, 0));
        late.refused("worth(0, 6)", 2, x -> x.worth(0, 6));
        for (int people : new int[] {-1, 8, LEAST, MOST}) {
            rich.refused("best(" + people + ")", 5, x -> x.best(people));
            rich.refused("bestSet(" + people + ", 3)", 2, x -> x.bestSet(people, 3));
            rich.refused("bestSet(" + people + ", 0)", 5, x -> x.bestSet(people, 0));
        }
        late.refused("best(64)", 5, x -> x.best(64));
        fresh.refused("best(1)", 5, x -> x.best(1));
        rich.refused("bestSet(7, -1)", 2, x -> x.bestSet(7, -1));
        rich.refused("bestSet(6, 0)", 5, x -> x.bestSet(6, 0));
        rich.refused("bestSet(0, 0)", 5, x -> x.bestSet(0, 0));
        poor.refused("bestSet(3, 1) of one SET", 8, x -> x.bestSet(3, 1));
        rich.refused("trade(-1)", 2, x -> x.trade(-1));
        rich.refused("trade(3)", 2, x -> x.trade(3));
        rich.refused("trade of who owns none", 8, x -> x.trade(1));
        rich.refused("envies(-1, 0)", 2, x -> x.envies(-1, 0));
        rich.refused("envies(3, 3)", 2, x -> x.envies(3, 3));
        rich.refused("envies(0, -1)", 2, x -> x.envies(0, -1));
        rich.refused("envies(0, 3)", 2, x -> x.envies(0, 3));
        rich.refused("envies(0, 0)", 5, x -> x.envies(0, 0));
        rich.refused("envies(2, 2)", 5, x -> x.envies(2, 2));
    }

    private static void picks() {
        rich.refused("pick(-1, 0, 0)", 1, x -> x.pick(-1, 0, 0));
        rich.refused("pick(4, 99, 0)", 1, x -> x.pick(4, 99, 0));
        rich.refused("pick(3, 99, 0)", 3, x -> x.pick(3, 99, 0));
        rich.refused("pick(3, -1, 0)", 3, x -> x.pick(3, -1, 0));
        rich.refused("pick(2, 4, 0)", 4, x -> x.pick(2, 4, 0));
        rich.refused("pick(0, 7, 0)", 4, x -> x.pick(0, 7, 0));
        rich.refused("pick(0, MOST, 0)", 4, x -> x.pick(0, MOST, 0));
        rich.refused("pick(1, 7, 0)", 5, x -> x.pick(1, 7, 0));
        rich.refused("pick(0, -1, 0)", 5, x -> x.pick(0, -1, 0));
        rich.refused("pick(0, LEAST, 0)", 5, x -> x.pick(0, LEAST, 0));
        rich.refused("pick of one PERSON twice", 5, x -> x.pick(0, 4, 9));
        rich.refused("pick of 0 twice", 5, x -> x.pick(2, 2, 9));
        rich.refused("pick of no such PERSON", 5, x -> x.pick(1, 3, 9));
        poor.refused("pick without a TRAY", 3, x -> x.pick(0, 0, 0));
        rich.refused("pick(0, 3, -1)", 8, x -> x.pick(0, 3, -1));
        rich.refused("pick(0, 3, 3)", 8, x -> x.pick(0, 3, 3));
        rich.refused("pick(0, 0, 0)", 8, x -> x.pick(0, 0, 0));
        rich.refused("pick(0, 3, LEAST)", 8, x -> x.pick(0, 3, LEAST));
        rich.refused("pick(0, 3, MOST)", 8, x -> x.pick(0, 3, MOST));
        Twin row = new Twin(check, "row", x -> {
            Check.town(x, "subject a;voice v age 1 life 2 says a;person p;person q;set e gets v for q;");
            x.tray(0, 3, 6);
            x.write(0, 1, 1);
            x.write(0, 2, 2);
            x.write(0, 3, -1);
            x.write(0, 4, 1L << 32);
        });
        Twin twice = new Twin(check, "twice", x -> {
            Check.town(x, Check.TOWN);
            x.tray(0, 3, 6);
            x.write(0, 1, 1);
        });
        twice.refused("pick of one PERSON twice, one between", 5, x -> x.pick(0, 3, 0));
        row.refused("pick of who gets none", 8, x -> x.pick(0, 2, 1));
        row.refused("pick of PERSON 2 of two", 5, x -> x.pick(0, 3, 0));
    }

    // ---- promises 43 and 44

    private static void who() {
        for (int i = 0; i < 2; i++) {
            boolean ask = i == 0;
            String name = ask ? "ask" : "fits";
            rich.refused(name + "(-1, 99)", 1, x -> fitsOrAsk(x, ask, -1, 99));
            rich.refused(name + "(4, 0)", 1, x -> fitsOrAsk(x, ask, 4, 0));
            rich.refused(name + "(3, 99)", 3, x -> fitsOrAsk(x, ask, 3, 99));
            rich.refused(name + "(3, 0)", 3, x -> fitsOrAsk(x, ask, 3, 0));
            rich.refused(name + "(2, 2)", 4, x -> fitsOrAsk(x, ask, 2, 2));
            rich.refused(name + "(0, 4)", 4, x -> fitsOrAsk(x, ask, 0, 4));
            rich.refused(name + "(1, 23)", 4, x -> fitsOrAsk(x, ask, 1, 23));
            rich.refused(name + "(1, MOST)", 4, x -> fitsOrAsk(x, ask, 1, MOST));
            rich.refused(name + "(1, 1 << 30)", 4, x -> fitsOrAsk(x, ask, 1, 1 << 30));
            rich.refused(name + "(1, 21)", 5, x -> fitsOrAsk(x, ask, 1, 21));
            rich.refused(name + "(1, 22)", 5, x -> fitsOrAsk(x, ask, 1, 22));
            rich.refused(name + "(1, -1)", 5, x -> fitsOrAsk(x, ask, 1, -1));
            rich.refused(name + "(1, LEAST)", 5, x -> fitsOrAsk(x, ask, 1, LEAST));
            rich.refused(name + " of HOUR 10000", 5, x -> fitsOrAsk(x, ask, 1, 2));
            for (long[] two : new long[][] {{10000, 0}, {-1, 0}, {0, 3}, {0, -1}, {1L << 32, 0}, {0, 1L << 32}}) {
                Twin bad = new Twin(check, "two", x -> {
                    Check.town(x, Check.TOWN);
                    x.tray(0, 3, 4);
                    x.write(0, 1, 1);
                    x.write(0, 2, two[0]);
                    x.write(0, 3, two[1]);
                });
                bad.refused(name + " of " + two[0] + ", " + two[1], 5, x -> fitsOrAsk(x, ask, 0, 2));
                bad.refused(name + " of more than there are", 4, x -> fitsOrAsk(x, ask, 0, 3));
            }
        }
        rich.refused("ask of one VOICE", 8, x -> x.ask(1, 1));
        fresh.refused("ask of a MISSING one", 3, x -> x.ask(0, 0));
        mute.refused("ask without a TRAY", 3, x -> x.ask(0, 0));
    }

    private static long fitsOrAsk(LicensedVoice x, boolean ask, int tray, int n) {
        return ask ? x.ask(tray, n) : x.fits(tray, n);
    }

    // ---- promises 45 to 48

    private static void says() {
        for (int people : new int[] {0, -1, 8, LEAST, MOST}) {
            rich.refused("peace(" + people + ")", 5, x -> x.peace(people));
            rich.refused("peaceBy(" + people + ")", 5, x -> x.peaceBy(people));
            mute.refused("peace(" + people + ")", 5, x -> x.peace(people));
            mute.refused("peaceBy(" + people + ")", 5, x -> x.peaceBy(people));
        }
        mute.refused("peace(4)", 5, x -> x.peace(4));
        mute.refused("peace(3) without SUBJECTS", 8, x -> x.peace(3));
        mute.refused("peaceBy(1) without SUBJECTS", 8, x -> x.peaceBy(1));
        late.refused("peace(64)", 5, x -> x.peace(64));
        for (int voice : new int[] {-1, 3, LEAST, MOST}) {
            rich.refused("popular(" + voice + ")", 2, x -> x.popular(voice));
            rich.refused("popularBy(" + voice + ")", 2, x -> x.popularBy(voice));
        }
        mute.refused("popular(0) without VOICES", 2, x -> x.popular(0));
        mute.refused("popularBy(0) without VOICES", 2, x -> x.popularBy(0));
        late.refused("popular(6)", 2, x -> x.popular(6));
    }

    // ---- promises 49 to 52

    private static void games() {
        for (int turns : new int[] {1, -1, 6}) {
            rich.refused("game(-1, 0, " + turns + ")", 2, x -> x.game(-1, 0, turns));
            rich.refused("game(3, 3, " + turns + ")", 2, x -> x.game(3, 3, turns));
            rich.refused("game(0, -1, " + turns + ")", 2, x -> x.game(0, -1, turns));
            rich.refused("game(0, 3, " + turns + ")", 2, x -> x.game(0, 3, turns));
            rich.refused("moveOf(-1, 0, " + turns + ")", 2, x -> x.moveOf(-1, 0, turns));
            rich.refused("moveOf(3, 3, " + turns + ")", 2, x -> x.moveOf(3, 3, turns));
            rich.refused("moveOf(0, -1, " + turns + ")", 2, x -> x.moveOf(0, -1, turns));
            rich.refused("moveOf(0, 3, " + turns + ")", 2, x -> x.moveOf(0, 3, turns));
            rich.refused("game(1, 1, " + turns + ")", 5, x -> x.game(1, 1, turns));
            rich.refused("moveOf(1, 1, " + turns + ")", 5, x -> x.moveOf(1, 1, turns));
        }
        late.refused("game(6, 0, 1)", 2, x -> x.game(6, 0, 1));
        late.refused("game(0, 6, 1)", 2, x -> x.game(0, 6, 1));
        for (int turns : new int[] {-1, 6, LEAST, MOST}) {
            rich.refused("game(0, 1, " + turns + ")", 5, x -> x.game(0, 1, turns));
            rich.refused("moveOf(0, 1, " + turns + ")", 5, x -> x.moveOf(0, 1, turns));
        }
        rich.refused("moveOf(0, 1, 0)", 5, x -> x.moveOf(0, 1, 0));
        rich.refused("moveOf(0, 0, 0)", 5, x -> x.moveOf(0, 0, 0));
        poor.refused("moveOf of nothing to take", 8, x -> x.moveOf(0, 1, 5));
        for (int n : new int[] {-1, 13, LEAST, MOST}) {
            rich.denied("alive(-1, " + n + ")", 2, x -> x.alive(-1, n));
            rich.denied("alive(3, " + n + ")", 2, x -> x.alive(3, n));
            rich.denied("alive(0, " + n + ")", 5, x -> x.alive(0, n));
            rich.denied("alive(2, " + n + ") of a dead one", 5, x -> x.alive(2, n));
        }
        rich.denied("alive(2, 0) of a dead one", 9, x -> x.alive(2, 0));
        rich.denied("alive(2, 12) of a dead one", 9, x -> x.alive(2, 12));
        rich.denied("warm(-1)", 2, x -> x.warm(-1));
        rich.denied("warm(3)", 2, x -> x.warm(3));
        late.denied("warm(6)", 2, x -> x.warm(6));
    }

    // ---- promises 53 to 57

    private static void dials() {
        for (int seed : new int[] {-1, 10000, LEAST, MOST}) {
            rich.refused("live(" + seed + ")", 5, x -> x.live(seed));
            fresh.refused("live(" + seed + ") without DIALS", 5, x -> x.live(seed));
            rich.denied("mean(" + seed + ", 1)", 5, x -> x.mean(seed, 1));
            fresh.denied("mean(" + seed + ", 1) without DIALS", 5, x -> x.mean(seed, 1));
        }
        fresh.refused("live(0) without DIALS", 8, x -> x.live(0));
        poor.refused("live(9999) without DIALS", 8, x -> x.live(9999));
        for (int what : new int[] {-1, 5, LEAST, MOST}) {
            rich.refused("lived(" + what + ")", 5, x -> x.lived(what));
            fresh.refused("lived(" + what + ") ahead of any", 5, x -> x.lived(what));
        }
        for (int what = 0; what < 5; what++) {
            int w = what;
            fresh.refused("lived(" + what + ") ahead of any", 8, x -> x.lived(w));
        }
        for (int many : new int[] {0, -1, 21, LEAST, MOST}) {
            rich.denied("mean(0, " + many + ")", 5, x -> x.mean(0, many));
            fresh.denied("mean(0, " + many + ") without DIALS", 5, x -> x.mean(0, many));
        }
        rich.denied("mean(9999, 2)", 5, x -> x.mean(9999, 2));
        rich.denied("mean(9981, 20)", 5, x -> x.mean(9981, 20));
        rich.denied("mean(MOST, MOST)", 5, x -> x.mean(MOST, MOST));
        fresh.denied("mean(0, 1) without DIALS", 8, x -> x.mean(0, 1));
        fresh.denied("mean(9980, 20) without DIALS", 8, x -> x.mean(9980, 20));
    }

    private static void marks() {
        late.refused("a fourth mark", 7, x -> x.mark());
        fresh.refused("back without a MARK", 8, x -> x.back());
        poor.refused("back without a MARK", 8, x -> x.back());
        Twin unmarked = new Twin(check, "unmarked", x -> {
            Check.town(x, Check.TOWN);
            x.mark();
            x.mark();
            x.hour(4);
            x.back();
            x.hour(1);
            x.back();
        });
        unmarked.refused("back once too often", 8, x -> x.back());
    }
}
