/** Promises 9 to 18: the tape, TOWN and DIALS as texts, FAULTS, what there is. */
public final class TextTest {
    private static final Check check = new Check();
    private static final String S = "subject s;";
    private static final String V = S + "voice v age 1 life 2 says s;";
    private static final String P = S + "person p;";

    public static void main(String[] args) {
        tape();
        taken();
        staysBehindFault();
        noToken();
        cannotStand();
        names();
        numbers();
        toldAlready();
        tooMany();
        leastKind();
        dialsFaults();
        dialsLimits();
        faultTells();
        asks();
        check.end();
    }

    private static void tape() {
        LicensedVoice x = new LicensedVoice();
        for (int i = 1; i <= 45; i++) {
            check.due("feed", x.feed(0x20202020, 0x0a0a0a0a, 0x20202020, 0x20202020, 0x20202020), 20 * i);
        }
        check.due("feed above 900", x.feed(0, 0, 0, 0, 0), -1);
        check.refused("town of more", x, x.town(901), 5);
        check.refused("town below 0", x, x.town(-1), 5);
        check.refused("dials above 300", x, x.dials(301), 5);
        check.due("tape stays", x.feed(0, 0, 0, 0, 0), -1);
        check.due("town of blanks", x.town(900), 0);
        check.refused("tape is empty", x, x.town(1), 5);
        check.due("feed", x.feed(0x73756200, 0, 0, 0, 0), 20);
        check.refused("fault", x, x.town(4), 10);
        check.due("kind", x.fault(0), 2);
        check.refused("tape is empty behind a fault", x, x.dials(1), 5);
        Check.tape(x, " ".repeat(400));
        check.due("300 bytes of dials", x.dials(300), 0);
        check.due("dials of nothing live", x.live(1), 0);
        check.due("town of nothing", x.town(0), 0);
        check.refused("new town, no dials", x, x.live(1), 8);
        check.due("highest byte first", x.feed(0x6f646473, 0x2031363b, 0x80808080, 0, 0), 20);
        check.due("town", x.town(8), 0);
        check.due("odds", x.many(4), 16);
    }

    private static void taken() {
        LicensedVoice x = new LicensedVoice();
        check.due("town", Check.town(x, Check.TOWN), 4);
        check.due("fault", x.fault(0), 0);
        check.due("place", x.fault(1), -1);
        int[] many = {3, 3, 3, 4, 4, 0, 0, 7, 0, 4, 35, 0};
        for (int what = 0; what < many.length; what++) {
            check.due("many " + what, x.many(what), many[what]);
        }
        x.hour(5);
        x.year(2);
        x.cold(0, true);
        Check.dials(x, "any;");
        check.due("town again", Check.town(x, Check.TOWN), 4);
        for (int what = 0; what < many.length; what++) {
            check.due("many again " + what, x.many(what), many[what]);
        }
        check.due("lonely again", x.person(1, 2), 0);
        check.refused("no dials", x, x.live(0), 8);
        check.due("town without blanks", Check.town(x, "\nodds\n0;subject a;subject b;person p;likes p a 3;likes p b 2"
                + ";likes p a 9;voice v age 119 life 1 says a b;set q gets v for p;"), 1);
        check.due("told again", x.like(0, 0), 9);
        check.due("whatever AGE", x.voice(0, 3), 1);
        check.due("coins without", x.person(0, 0), 10);
        check.due("12 and a WORD need no blank", Check.town(x, "subject a;voice v age 12life 13says a;"), 0);
        check.due("odds without", x.many(4), 1);
        check.due("0007", Check.town(x, "odds 0007;"), 0);
        check.due("odds 0007", x.many(4), 7);
    }

    private static void staysBehindFault() {
        LicensedVoice x = Check.inTown(Check.TOWN);
        x.hour(3);
        Check.dials(x, "hour 1;");
        check.refused("town", x, Check.town(x, "subject a; subject a;"), 10);
        check.due("subjects", x.many(0), 3);
        check.due("hour", x.many(5), 3);
        check.refused("dials", x, Check.dials(x, "any; any"), 10);
        check.due("dials stay", x.live(0), 1);
        check.due("hour", x.many(5), 4);
    }

    private static void noToken() {
        check.townFault("Odds 1;", 1, 0);
        check.townFault("odds\t1;", 1, 4);
        check.townFault("odds -1;", 1, 5);
        check.townFault("odds 12345;", 1, 5);
        check.townFault("12345", 1, 0);
        check.townFault("subject caf\u00e9;", 1, 11);
        check.townFault("subject a\u0000;", 1, 9);
        check.townFault("subject 123456;", 1, 8);
        check.townFault("person p coins 99999;", 1, 15);
    }

    private static void cannotStand() {
        check.townFault("subject", 2, 7);
        check.townFault("subject a", 2, 9);
        check.townFault("subject a  \n", 2, 12);
        check.townFault("subject 7;", 2, 8);
        check.townFault("subject odds;", 2, 8);
        check.townFault("subject stop;", 2, 8);
        check.townFault("subject abcdefghi;", 2, 8);
        check.townFault("subject a b;", 2, 10);
        check.townFault(";", 2, 0);
        check.townFault("hour 1;", 2, 0);
        check.townFault("town;", 2, 0);
        check.townFault("odds a;", 2, 5);
        check.townFault("odds 1 2;", 2, 7);
        check.townFault("odds 1=", 2, 6);
        check.townFault("odds <", 2, 5);
        check.townFault(S + "voice v life", 2, 18);
        check.townFault(S + "voice v age 1 says", 2, 24);
        check.townFault(S + "voice v age 1 life 2;", 2, 30);
        check.townFault(S + "voice v age 1 life 2 says;", 2, 35);
        check.townFault(S + "voice v age 1 life 2 says s 5;", 2, 38);
        check.townFault(S + "voice v age 1 life 2 says s abcdefghi;", 2, 38);
        check.townFault("person p coins;", 2, 14);
        check.townFault("person p 5;", 2, 9);
        check.townFault(P + "likes p s;", 2, 19 + 9);
        check.townFault(V + "set q for v;", 2, V.length() + 6);
        check.townFault(V + "set q gets v flaw;", 2, V.length() + 17);
        check.townFault(V + "person p;set q gets v for p flaw v;", 2, V.length() + 28);
        check.townFault("subject likes;", 2, 8);
    }

    private static void names() {
        check.townFault("subject a;subject a;", 3, 18);
        check.townFault("subject a;person a;", 3, 17);
        check.townFault(S + "voice s age", 3, 16);
        check.townFault(V + "person v;", 3, V.length() + 7);
        check.townFault(P + "subject p;", 3, P.length() + 8);
        check.townFault(V + "set q gets v;set q gets v;", 3, V.length() + 17);
        check.townFault(V + "set q gets v;subject q;", 3, V.length() + 21);
        check.townFault(S + "voice v age 1 life 2 says t;", 3, 36);
        check.townFault(S + "voice v age 1 life 2 says v;", 3, 36);
        check.townFault(P + "likes s s 1;", 3, P.length() + 6);
        check.townFault(P + "likes p p 1;", 3, P.length() + 8);
        check.townFault(V + "set q gets s;", 3, V.length() + 11);
        check.townFault(V + "set q gets v flaw s;", 3, V.length() + 18);
        check.townFault(V + "set q gets v for v;", 3, V.length() + 17);
        check.townFault(V + "set q gets v for p;person p;", 3, V.length() + 17);
        LicensedVoice x = new LicensedVoice();
        check.due("8 letters", Check.town(x, "subject abcdefgh;subject abcdefgi;subject abcdefg;"), 0);
        check.due("subjects", x.many(0), 3);
    }

    private static void numbers() {
        check.townFault("odds 17;", 4, 5);
        check.townFault(S + "voice v age 120 life", 4, 22);
        check.townFault(S + "voice v age 119 life 0 says", 4, 31);
        check.townFault(S + "voice v age 119 life 121 says", 4, 31);
        check.townFault("person p coins 1000;", 4, 15);
        check.townFault(P + "likes p s 10;", 4, P.length() + 10);
        LicensedVoice x = new LicensedVoice();
        check.due("the most", Check.town(x, "odds 16;" + P + "voice v age 119 life 120 says s;person q coins 999;likes q s 9;"
                + "voice u age 0 life 1 says s;person r coins 0;"), 0);
        check.due("age", x.voice(0, 0), 119);
        check.due("life", x.voice(0, 1), 120);
        check.due("coins", x.person(1, 0), 999);
        check.due("no coins", x.person(2, 0), 0);
    }

    private static void toldAlready() {
        check.townFault("odds 1;odds 1;", 5, 7);
        check.townFault("odds 1; subject s; odds 99999;", 5, 19);
        check.townFault(V + "set q gets v flaw v;", 5, V.length() + 18);
    }

    private static void tooMany() {
        String six = "subject a;subject b;subject c;subject d;subject e;subject f;";
        check.townFault(six + "subject g;", 6, 60);
        check.townFault(six + "subject 99999", 6, 60);
        StringBuilder voices = new StringBuilder(S);
        StringBuilder people = new StringBuilder(S);
        StringBuilder sets = new StringBuilder(V);
        for (char c = 'a'; c < 'g'; c++) {
            voices.append("voice ").append(c).append(" age 1 life 2 says s;");
            people.append("person ").append(c).append(";");
            sets.append("set ").append(c).append(" gets v;");
        }
        check.townFault(voices + " voice", 6, voices.length() + 1);
        check.townFault(people + "person a;", 6, people.length());
        check.townFault(sets + "set g gets v;", 6, sets.length());
        LicensedVoice x = new LicensedVoice();
        check.due("six", Check.town(x, sets.toString()), 6);
        String row = S + "voice v age 1 life 2 says s s s s s s s s";
        check.due("eight", Check.town(x, row + ";"), 0);
        check.due("row", x.voice(0, 2), 8);
        check.townFault(row + " s;", 6, row.length() + 1);
        check.townFault(row + " t;", 3, row.length() + 1);
        check.townFault(row + " says;", 2, row.length() + 1);
        check.townFault(row + " 12345;", 1, row.length() + 1);
    }

    private static void leastKind() {
        check.townFault("subject a;subject a;odds 12345;", 3, 18);
        check.townFault("odds 17;\t", 4, 5);
        check.townFault("odds 17 \t", 4, 5);
    }

    private static void dialsFaults() {
        check.dialsFault("go;", 2, 0);
        check.dialsFault("END;", 1, 0);
        check.dialsFault("end;", 2, 0);
        check.dialsFault("any; end;", 2, 5);
        check.dialsFault("loop 1; any;", 2, 12);
        check.dialsFault("loop 1; end", 2, 11);
        check.dialsFault("loop 1; end; end;", 2, 13);
        check.dialsFault("hour 0;", 4, 5);
        check.dialsFault("hour 49;", 4, 5);
        check.dialsFault("year 0;", 4, 5);
        check.dialsFault("year 21;", 4, 5);
        check.dialsFault("loop 0;", 4, 5);
        check.dialsFault("loop 100;", 4, 5);
        check.dialsFault("sell oak ann 1000;", 4, 13);
        check.dialsFault("sell ann ann 1;", 3, 5);
        check.dialsFault("sell oak oak 1;", 3, 9);
        check.dialsFault("give box;", 2, 8);
        check.dialsFault("give cantor ann;", 3, 5);
        check.dialsFault("give oak cantor;", 3, 9);
        check.dialsFault("cold ann;", 3, 5);
        check.dialsFault("well oak;", 3, 5);
        check.dialsFault("cold abcdefghi;", 2, 5);
        check.dialsFault("cold cold;", 2, 5);
        check.dialsFault("when any;", 2, 5);
        check.dialsFault("when glad cantor > 1;", 3, 10);
        check.dialsFault("when glad ann ; 1;", 2, 14);
        check.dialsFault("when glad ann > ann;", 2, 16);
        check.dialsFault("when glad ann > 10000;", 1, 16);
        check.dialsFault("when lives ann;", 3, 11);
        check.dialsFault("when owns oak ann;", 3, 10);
        check.dialsFault("when owns ann ann;", 3, 14);
        check.dialsFault("any 1;", 2, 4);
        check.dialsFault("stop", 2, 4);
        check.dialsFault("odds 1;", 2, 0);
    }

    private static void dialsLimits() {
        LicensedVoice x = Check.inTown(Check.TOWN);
        String thirty = "any;".repeat(30);
        check.due("30 steps", Check.dials(x, thirty), 30);
        check.dialsFault(thirty + "stop;", 6, 120);
        check.dialsFault(thirty + "end;", 2, 120);
        check.dialsFault(thirty + "go;", 2, 120);
        String open = "loop 1;when lives aunt;loop 2;";
        check.due("three within", Check.dials(x, open + "hour 1;end;end;end;"), 4);
        check.dialsFault(open + "loop 1;", 7, open.length());
        check.dialsFault(open + "when any;", 7, open.length());
        check.dialsFault(open + "any;".repeat(27) + "loop 1;", 6, open.length() + 108);
        check.due("end is no step", Check.dials(x, "loop 1;end;".repeat(15) + "any;".repeat(15)), 30);
        check.due("tests", Check.dials(x, "when glad ann<9999;end;when glad ann=0;end;when glad ann>1;end;"
                + "when owns ann oak;end;when lives aunt;end;"), 5);
        check.due("the most", Check.dials(x, "hour 48;year 20;sell oak ann 999;sell oak ann 0;loop 99;end;hour 1;year 1;"), 7);
    }

    private static void faultTells() {
        LicensedVoice x = new LicensedVoice();
        check.refused("5", x, x.town(3), 5);
        check.due("none yet", x.fault(0), -1);
        Check.town(x, "odds 17;");
        check.due("kind", x.fault(0), 4);
        check.due("place", x.fault(1), 5);
        check.due("other", x.fault(2), -1);
        check.due("other", x.fault(-1), -1);
        x.town(9);
        check.due("5 tells nothing", x.fault(0), 4);
        x.mark();
        Check.dials(x, "any;");
        check.due("kind", x.fault(0), 0);
        check.due("place", x.fault(1), -1);
        x.back();
        check.due("kind stays", x.fault(0), 0);
    }

    private static void asks() {
        LicensedVoice x = Check.inTown(Check.TOWN);
        check.refused("many", x, x.many(-1), 5);
        check.refused("many", x, x.many(12), 5);
        check.due("age", x.voice(2, 0), 69);
        check.due("life", x.voice(2, 1), 70);
        check.due("row", x.voice(1, 2), 3);
        check.due("lives", x.voice(0, 3), 1);
        check.due("cold", x.voice(0, 4), 0);
        x.cold(0, true);
        check.due("cold", x.voice(0, 4), 1);
        check.due("colds", x.many(8), 1);
        x.year(1);
        check.due("age of the living", x.voice(0, 0), 61);
        x.year(5);
        check.due("age of the dead", x.voice(2, 0), 70);
        check.due("lives", x.voice(2, 3), 0);
        check.refused("voice", x, x.voice(3, 9), 2);
        check.refused("voice", x, x.voice(-1, 0), 2);
        check.refused("voice", x, x.voice(0, 5), 5);
        check.refused("voice", x, x.voice(0, -1), 5);
        check.due("row", x.row(1, 2), 2);
        check.refused("row", x, x.row(1, 3), 8);
        check.refused("row", x, x.row(1, -1), 8);
        check.refused("row", x, x.row(3, 0), 2);
        check.due("coins", x.person(1, 0), 5);
        check.due("sets", x.person(2, 3), 8);
        check.refused("person", x, x.person(0, 4), 5);
        check.refused("person", x, x.person(0, -1), 5);
        check.refused("person", x, x.person(3, 4), 2);
        check.due("like", x.like(2, 2), 9);
        check.due("like nothing told", x.like(2, 0), 0);
        check.refused("like", x, x.like(3, 0), 2);
        check.refused("like", x, x.like(0, 3), 2);
        check.due("set", x.set(3, 0), 1);
        check.due("set", x.set(3, 1), 2);
        check.due("set", x.set(3, 2), 2);
        check.refused("set", x, x.set(0, 1), 8);
        check.refused("set", x, x.set(2, 2), 8);
        check.refused("set", x, x.set(0, 3), 5);
        check.refused("set", x, x.set(4, 3), 2);
    }
}
