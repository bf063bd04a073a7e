/**
 * Promises 9 to 12 and the Terms of TOWN and DIALS as texts: every limit of TOKENS, PARTS and STEPS,
 * the last that is taken and the first that is refused, each FAULT at its place.
 */
public final class TokensTest {
    private static final Check check = new Check();
    private static final String[] RESERVED = {"odds", "subject", "voice", "age", "life", "says", "person", "coins", "likes", "set",
        "gets", "flaw", "for", "hour", "year", "sell", "give", "cold", "well", "any", "when", "glad", "lives", "owns", "loop",
        "end", "stop"};
    private static final String S = "subject s;";
    private static final String V = S + "voice v age 1 life 2 says s;";
    private static final String VP = V + "voice w age 1 life 2 says s;person p;";

    public static void main(String[] args) {
        feeds();
        tapeBehindAll();
        lengths();
        bytes();
        bytesOfDials();
        wordsAsLong();
        numbersAsLong();
        reserved();
        namesOfOne();
        kindsOfNames();
        everyEnd(Check.TOWN, true);
        everyEnd("hour 3; year 2; sell oak ann 5; give box ben; cold aunt; well aunt; any; when glad ann < 3; when lives aunt;"
                + "when owns ben oak; end; end; end; loop 9; stop; end;", false);
        numbersOfTown();
        numbersOfDials();
        sixOfEach();
        eightInRow();
        leastKindOfToken();
        toldAhead();
        signs();
        thirtySteps();
        threeWithin();
        ends();
        dialsOfTown();
        townsInTurn();
        check.end();
    }

    private static void town(String text, int sets) {
        LicensedVoice x = new LicensedVoice();
        check.due("town " + text, Check.town(x, text), sets);
        check.due("fault(0) of " + text, x.fault(0), 0);
        check.due("fault(1) of " + text, x.fault(1), -1);
        check.due("STATUS of " + text, x.status(), 0);
    }

    private static void dials(String text, int steps) {
        LicensedVoice x = Check.inTown(Check.TOWN);
        check.due("dials " + text, Check.dials(x, text), steps);
        check.due("fault(0) of " + text, x.fault(0), 0);
        check.due("fault(1) of " + text, x.fault(1), -1);
    }

    // ---- the tape

    private static void feeds() {
        LicensedVoice x = new LicensedVoice();
        x.rule(17);
        for (int i = 1; i <= 45; i++) {
            check.due("feed", x.feed(-1, 0, Integer.MIN_VALUE, Integer.MAX_VALUE, 1), 20 * i);
        }
        check.due("a 46th", x.feed(0x20202020, 0x20202020, 0x20202020, 0x20202020, 0x20202020), -1);
        check.due("no STATUS", x.status(), 5);
        check.refused("town", x, x.town(900), 10);
        check.due("byte 255", x.fault(0), 1);
        check.due("at once", x.fault(1), 0);
        check.due("the tape is empty", x.feed(0, 0, 0, 0, 0), 20);
        // "odds" " 9 ;" " sub" "ject" " q; "
        LicensedVoice y = new LicensedVoice();
        check.due("feed", y.feed(0x6f646473, 0x2039203b, 0x20737562, 0x6a656374, 0x20713b20), 20);
        check.due("feed", y.feed(0x73756200, 0, 0, 0, 0), 40);
        check.due("the first 19", y.town(19), 0);
        check.due("odds", y.many(4), 9);
        check.due("subjects", y.many(0), 1);
        check.due("those behind are gone, too", y.feed(0, 0, 0, 0, 0), 20);
    }

    private static void tapeBehindAll() {
        LicensedVoice x = new LicensedVoice();
        Check.tape(x, "odds 5; odds 6;");
        check.due("empty behind a TOWN of none", x.town(0), 0);
        check.refused("it is", x, x.town(1), 5);
        Check.tape(x, "any; ");
        check.due("empty behind DIALS of none", x.dials(0), 0);
        check.refused("it is", x, x.dials(1), 5);
        Check.tape(x, "any; _");
        check.refused("a FAULT", x, x.dials(20), 10);
        check.refused("empty behind it", x, x.dials(1), 5);
        Check.tape(x, "odds 5; odds 6;");
        check.refused("a FAULT", x, x.town(20), 10);
        check.refused("empty behind it", x, x.town(1), 5);
        Check.tape(x, "odds 5; odds 6;");
        check.refused("one too many", x, x.town(21), 5);
        check.refused("one too few", x, x.town(-1), 5);
        check.refused("one too many", x, x.dials(21), 5);
        check.refused("one too few", x, x.dials(-1), 5);
        check.due("it stays behind 5", x.town(7), 0);
        check.due("odds", x.many(4), 5);
    }

    private static void lengths() {
        LicensedVoice x = new LicensedVoice();
        check.due("900 bytes to the last", Check.town(x, Check.FULL), 6);
        check.due("the last PART", x.like(5, 0), 9);
        check.refused("899 of them", x, x.town(Check.tape(x, Check.FULL) - 1), 10);
        check.due("the end", x.fault(0), 2);
        check.due("its place", x.fault(1), 899);
        String steps = "any;" + " ".repeat(290) + "stop; ";
        check.due("300 bytes", steps.length(), 300);
        check.due("DIALS of 300", Check.dials(x, steps), 2);
        Check.tape(x, steps + " ");
        check.refused("DIALS of 301", x, x.dials(301), 5);
        check.due("the first 299", x.dials(299), 2);
        Check.tape(x, "odds 16;");
        check.refused("a NUMBER cut off", x, x.town(6), 10);
        check.due("the end", x.fault(1), 6);
        Check.tape(x, "odds 12345;");
        check.refused("4 digits of 5", x, x.town(9), 10);
        check.due("a NUMBER that can't be", x.fault(0), 4);
        Check.tape(x, "subject abcdefghi;");
        check.refused("8 letters of 9", x, x.town(16), 10);
        check.due("the end", x.fault(1), 16);
        Check.tape(x, "subject a;odds 3;");
        check.refused("a WORD cut off", x, x.town(13), 10);
        check.due("no such PART", x.fault(1), 10);
        Check.tape(x, steps + " ");
        check.refused("the first 298", x, x.dials(298), 10);
        check.due("the end", x.fault(1), 298);
    }

    // ---- TOKENS

    /** What a TOKEN may begin with: letters a to z, digits 0 to 9, ; < > =, and 10 and 32 between them. */
    private static void bytes() {
        for (int b = 0; b < 256; b++) {
            String text = "odds 3;" + (char) b;
            boolean blank = b == 10 || b == 32;
            boolean begins = b >= 'a' && b <= 'z' || b >= '0' && b <= '9' || b == ';' || b == '<' || b == '=' || b == '>';
            if (blank) {
                town(text, 0);
            } else {
                check.townFault(text, begins ? 2 : 1, 7);
            }
            String inside = "odds" + (char) b + "3;";
            if (blank) {
                town(inside, 0);
            } else if (b >= '0' && b <= '1') {
                town(inside, 0);
            } else if (b >= '2' && b <= '9') {
                check.townFault(inside, 4, 4);
            } else if (b >= 'a' && b <= 'z') {
                check.townFault(inside, 2, 0);
            } else {
                check.townFault(inside, begins ? 2 : 1, 4);
            }
        }
        town("odds\n \n 3 \n;\n", 0);
        town("\n\n  odds 3;", 0);
        town("subject az;subject za;subject zz;", 0);
        check.townFault("odds 3;\n \n;", 2, 10);
    }

    private static void bytesOfDials() {
        for (int b = 0; b < 256; b++) {
            boolean blank = b == 10 || b == 32;
            boolean begins = b >= 'a' && b <= 'z' || b >= '0' && b <= '9' || b == ';' || b == '<' || b == '=' || b == '>';
            String text = "any;" + (char) b;
            if (blank) {
                dials(text, 1);
            } else {
                check.dialsFault(text, begins ? 2 : 1, 4);
            }
        }
        dials("\nany\n;\n\nstop ;", 2);
    }

    private static void wordsAsLong() {
        town("subject a;subject abcdefgh;subject abcdefg;subject abcdefgi;subject bbcdefgh;subject hgfedcba;", 0);
        check.townFault("subject abcdefgh;subject abcdefgh;", 3, 25);
        town("subject q;subject aa;subject a;subject p;subject ap;subject ba;", 0);
        town("subject z;subject az;person aza;person aaz;person zaaaaaaa;person azaaaaaa;", 0);
        check.townFault("subject abcdefghi;", 2, 8);
        check.townFault("subject " + "z".repeat(800) + ";", 2, 8);
        check.townFault(S + "person pp;likes abcdefghi s 1;", 2, 26);
        check.townFault(S + "voice v age 1 life 2 says abcdefghi;", 2, 36);
        check.townFault(V + "set q gets abcdefghi;", 2, V.length() + 11);
        check.townFault(VP + "set q gets v flaw abcdefghi;", 2, VP.length() + 18);
        check.townFault(VP + "set q gets v for abcdefghi;", 2, VP.length() + 17);
        check.townFault("subjects s;", 2, 0);
        check.townFault("subjec s;", 2, 0);
        check.townFault("subject s abcdefghi", 2, 10);
        check.townFault("oddsodds 3;", 2, 0);
        check.townFault("oddsoddsodds 3;", 2, 0);
        check.dialsFault("sell abcdefghi ann 1;", 2, 5);
        check.dialsFault("give oak abcdefghi;", 2, 9);
        check.dialsFault("well abcdefghi;", 2, 5);
        check.dialsFault("when lives abcdefghi;", 2, 11);
        check.dialsFault("when owns abcdefghi oak;", 2, 10);
        check.dialsFault("when owns ann abcdefghi;", 2, 14);
        check.dialsFault("when glad abcdefghi > 1;", 2, 10);
        check.dialsFault("hours 1;", 2, 0);
        town("odds1;subject a;voice b age2life3says a;person c coins4;likes c a5;set d gets b for c;", 1);
        dials("hour3;sell oak ann5;when glad ann<3;end;loop2;end;", 4);
        check.townFault("subjecta;", 2, 0);
    }

    private static void numbersAsLong() {
        town("odds 0;", 0);
        town("odds 00;", 0);
        town("odds 016;", 0);
        town("odds 0016;", 0);
        check.townFault("odds 00016;", 1, 5);
        check.townFault("odds 00000;", 1, 5);
        check.townFault("odds 9999;", 4, 5);
        check.townFault("odds 10000;", 1, 5);
        check.townFault("odds " + "9".repeat(890) + ";", 1, 5);
        check.townFault("odds " + "0".repeat(890) + ";", 1, 5);
        check.townFault("12345 odds", 1, 0);
        check.townFault("1234 odds", 2, 0);
        check.townFault("odds 3 12345", 1, 7);
        check.townFault("odds 3 1234", 2, 7);
        check.dialsFault("hour 00048;", 1, 5);
        dials("hour 0048;", 1);
        check.dialsFault("any 12345;", 1, 4);
        check.dialsFault("when glad ann = 10000;", 1, 16);
        check.dialsFault("when glad ann 12345;", 1, 14);
    }

    // ---- NAMES

    private static void reserved() {
        for (String word : RESERVED) {
            check.townFault("subject " + word + ";", 2, 8);
            check.townFault(S + "voice " + word + " age", 2, 16);
            check.townFault("person " + word + ";", 2, 7);
            check.townFault(V + "set " + word + " gets v;", 2, V.length() + 4);
            check.townFault(S + "person p;likes " + word + " s 1;", 2, 25);
            check.townFault(S + "person p;likes p " + word + " 1;", 2, 27);
            check.townFault(S + "voice v age 1 life 2 says " + word + ";", 2, 36);
            check.townFault(V + "set q gets " + word + ";", 2, V.length() + 11);
            check.townFault(VP + "set q gets v flaw " + word + ";", 2, VP.length() + 18);
            check.townFault(VP + "set q gets v for " + word + ";", 2, VP.length() + 17);
            check.dialsFault("cold " + word + ";", 2, 5);
            check.dialsFault("give " + word + " ann;", 2, 5);
            check.dialsFault("give oak " + word + ";", 2, 9);
            check.dialsFault("when lives " + word + ";", 2, 11);
            boolean begins = " hour year sell give cold well any when loop stop ".contains(" " + word + " ");
            if (!begins) {
                check.dialsFault(word + ";", 2, 0);
                check.dialsFault("any; " + word + ";", 2, 5);
            } else if (!word.equals("any") && !word.equals("stop")) {
                check.dialsFault(word + ";", 2, word.length());
            }
            if (!" odds subject voice person likes set ".contains(" " + word + " ")) {
                check.townFault(word + ";", 2, 0);
            } else {
                check.townFault(word + ";", 2, word.length());
            }
            town("subject " + word + "x;", 0);
            town("subject x" + word + ";", 0);
            town("subject " + word.substring(1) + "q;", 0);
        }
        town("subject none;subject nobody;subject town;subject dials;subject step;subject test;", 0);
    }

    /** A NAME of one thing alone, whatever the two are. */
    private static void namesOfOne() {
        String[] ahead = {"subject n;", "voice n age 1 life 2 says s;", "person n;", "set n gets v;"};
        String[] again = {"subject n;", "voice n age", "person n;", "set n gets"};
        for (String first : ahead) {
            for (String second : again) {
                String text = V + first;
                check.townFault(text + second, 3, text.length() + second.indexOf('n', second.indexOf(' ')));
            }
        }
        town("subject n;subject nn;voice nnn age 1 life 2 says n;person nnnn;set nnnnn gets nnn;", 1);
    }

    /** What is named must be of its kind and told ahead. */
    private static void kindsOfNames() {
        String all = VP + "set e gets v;";
        for (String name : new String[] {"s", "v", "p", "e", "zz"}) {
            kind(all + "voice x age 1 life 2 says ", name, " s;", name.equals("s"));
            kind(all + "likes ", name, " s 1;", name.equals("p"));
            kind(all + "likes p ", name, " 1;", name.equals("s"));
            kind(all + "set x gets ", name, ";", name.equals("v"));
            kind(all + "set x gets w flaw ", name, ";", name.equals("v"));
            kind(all + "set x gets w for ", name, ";", name.equals("p"));
        }
        for (String name : new String[] {"fish", "aunt", "ann", "oak", "zz"}) {
            step("sell ", name, " ann 1;", name.equals("oak"));
            step("sell oak ", name, " 1;", name.equals("ann"));
            step("give ", name, " ann;", name.equals("oak"));
            step("give oak ", name, ";", name.equals("ann"));
            step("cold ", name, ";", name.equals("aunt"));
            step("well ", name, ";", name.equals("aunt"));
            step("when lives ", name, ";end;", name.equals("aunt"));
            step("when owns ", name, " oak;end;", name.equals("ann"));
            step("when owns ann ", name, ";end;", name.equals("oak"));
            step("when glad ", name, " = 1;end;", name.equals("ann"));
        }
    }

    private static void kind(String ahead, String name, String rest, boolean fits) {
        if (fits) {
            town(ahead + name + rest, ahead.contains("set x") ? 2 : 1);
        } else {
            check.townFault(ahead + name + rest, 3, ahead.length());
        }
    }

    private static void step(String ahead, String name, String rest, boolean fits) {
        if (fits) {
            dials(ahead + name + rest, 1);
        } else {
            check.dialsFault(ahead + name + rest, 3, ahead.length());
        }
    }

    private static void toldAhead() {
        check.townFault("voice v age 1 life 2 says s;subject s;", 3, 26);
        check.townFault("likes p s 1;person p;subject s;", 3, 6);
        check.townFault(S + "likes p s 1;person p;", 3, 16);
        check.townFault(S + "set q gets v;voice v age 1 life 2 says s;", 3, 21);
        check.townFault(V + "set q gets v flaw w;voice w age 1 life 2 says s;", 3, V.length() + 18);
        check.townFault(V + "set q gets v for p;person p;", 3, V.length() + 17);
        check.townFault(S + "voice v age 1 life 2 says v;", 3, 36);
        check.townFault(V + "set q gets q;", 3, V.length() + 11);
    }

    // ---- FAULTS 1 and 2

    /** Cut off behind a TOKEN, a text has FAULT 2 at its end, but for whole PARTS or STEPS; with a TAB there FAULT 1. */
    private static void everyEnd(String text, boolean isTown) {
        StringBuilder cut = new StringBuilder();
        int within = 0;
        boolean whole = true;
        for (String token : text.replace(";", " ; ").strip().split(" +")) {
            oneEnd(cut.toString(), isTown, whole);
            oneEnd(cut + "\n ", isTown, whole);
            within += token.equals("when") || token.equals("loop") ? 1 : token.equals("end") ? -1 : 0;
            whole = within == 0 && token.equals(";");
            cut.append(' ').append(token);
        }
        oneEnd(cut.toString(), isTown, true);
    }

    private static void oneEnd(String cut, boolean isTown, boolean whole) {
        LicensedVoice x = Check.inTown(Check.TOWN);
        int n = Check.tape(x, cut);
        int got = isTown ? x.town(n) : x.dials(n);
        check.due("STATUS of " + cut, x.status(), whole ? 0 : 10);
        check.due("answer of " + cut, got < 0, !whole);
        check.due("fault(0) of " + cut, x.fault(0), whole ? 0 : 2);
        check.due("fault(1) of " + cut, x.fault(1), whole ? -1 : n);
        String tab = cut + "\t";
        LicensedVoice y = Check.inTown(Check.TOWN);
        int m = Check.tape(y, tab);
        check.refused("with a TAB " + cut, y, isTown ? y.town(m) : y.dials(m), 10);
        check.due("fault(0) with a TAB", y.fault(0), 1);
        check.due("fault(1) with a TAB", y.fault(1), n);
    }

    private static void signs() {
        for (String sign : new String[] {"<", ">", "="}) {
            dials("when glad ann " + sign + " 5; end;", 1);
            dials("when glad ann" + sign + "5;end;", 1);
            check.dialsFault("when glad ann " + sign + sign + " 5; end;", 2, 15);
            check.dialsFault("when lives aunt " + sign + ";", 2, 16);
            check.townFault("odds " + sign + " 5;", 2, 5);
            check.townFault(sign, 2, 0);
        }
        check.dialsFault("when glad ann ; 5; end;", 2, 14);
        check.dialsFault("when glad ann : 5; end;", 1, 14);
        check.dialsFault("when glad ann != 5; end;", 1, 14);
        check.dialsFault("when glad ann 5; end;", 2, 14);
        check.dialsFault("when glad ann < ann; end;", 2, 16);
        check.dialsFault("when glad ann < 5 end;", 2, 18);
        check.dialsFault("when hour; end;", 2, 5);
        check.dialsFault("when; end;", 2, 4);
        check.dialsFault("when 5; end;", 2, 5);
        check.dialsFault("when aunt; end;", 2, 5);
        check.dialsFault("glad ann < 5;", 2, 0);
        check.dialsFault("lives aunt;", 2, 0);
        check.dialsFault("owns ann oak;", 2, 0);
        check.dialsFault("any;;", 2, 4);
        check.dialsFault("loop;", 2, 4);
        check.dialsFault("loop ann;", 2, 5);
        check.dialsFault("stop 1;", 2, 5);
        check.dialsFault("loop 1; end 1;", 2, 12);
        check.dialsFault("subject s;", 2, 0);
    }

    // ---- FAULTS 4 to 7

    private static void number(String ahead, int n, String rest, boolean can) {
        if (can) {
            town(ahead + n + rest, 0);
        } else {
            check.townFault(ahead + n + rest, 4, ahead.length());
        }
    }

    private static void numbersOfTown() {
        for (int n = 0; n < 1200; n++) {
            if (n < 200 || n > 990 && n < 1010) {
                number("odds ", n, ";", n <= 16);
                number(S + "voice v age ", n, " life 9 says s;", n <= 119);
                number(S + "voice v age 9 life ", n, " says s;", n >= 1 && n <= 120);
                number("person p coins ", n, ";", n <= 999);
                number(S + "person p;likes p s ", n, ";", n <= 9);
            }
        }
    }

    private static void step(String ahead, int n, String rest, boolean can) {
        if (can) {
            dials(ahead + n + rest, 1);
        } else {
            check.dialsFault(ahead + n + rest, 4, ahead.length());
        }
    }

    private static void numbersOfDials() {
        for (int n : new int[] {0, 1, 2, 19, 20, 21, 22, 47, 48, 49, 50, 98, 99, 100, 101, 998, 999, 1000, 1001, 9998, 9999}) {
            step("hour ", n, ";", n >= 1 && n <= 48);
            step("year ", n, ";", n >= 1 && n <= 20);
            step("sell oak ann ", n, ";", n <= 999);
            step("when glad ann < ", n, ";end;", true);
            step("loop ", n, ";end;", n >= 1 && n <= 99);
        }
    }

    private static void sixOfEach() {
        String[] parts = {"subject n#;", "voice n# age 1 life 2 says s;", "person n#;", "set n# gets v;"};
        int[] there = {1, 1, 0, 0};
        for (int kind = 0; kind < 4; kind++) {
            StringBuilder text = new StringBuilder(V);
            for (int i = there[kind]; i < 6; i++) {
                town(text.toString(), kind == 3 ? i : 0);
                text.append(parts[kind].replace('#', (char) ('a' + i)));
            }
            town(text.toString(), kind == 3 ? 6 : 0);
            LicensedVoice x = Check.inTown(text.toString());
            check.due("six", x.many(kind), 6);
            check.townFault(text + parts[kind].replace('#', 'z'), 6, text.length());
            check.townFault(text + "\n" + parts[kind].substring(0, parts[kind].indexOf(' ')), 6, text.length() + 1);
            check.townFault(text + parts[kind].replace('#', 'f'), 6, text.length());
        }
    }

    private static void eightInRow() {
        String row = S + "voice v age 1 life 2 says";
        check.townFault(row + ";", 2, row.length());
        check.townFault(row + " 1;", 2, row.length() + 1);
        for (int k = 1; k <= 8; k++) {
            row += " s";
            town(row + ";", 0);
            LicensedVoice x = Check.inTown(row + ";");
            check.due("row", x.voice(0, 2), k);
        }
        check.townFault(row + " s;", 6, row.length() + 1);
        check.townFault(row + " s s s;", 6, row.length() + 1);
        check.townFault(row + " s", 6, row.length() + 1);
        check.townFault(row + " v;", 3, row.length() + 1);
        check.townFault(row + " zz;", 3, row.length() + 1);
        check.townFault(row + " age;", 2, row.length() + 1);
        check.townFault(row + " abcdefghi;", 2, row.length() + 1);
        check.townFault(row + " 9;", 2, row.length() + 1);
        check.townFault(row + " _;", 1, row.length() + 1);
        check.townFault(row, 2, row.length());
    }

    /** Of one TOKEN the least kind; else the first along the text. */
    private static void leastKindOfToken() {
        check.townFault("odds 3; odds", 5, 8);
        check.townFault("odds 3; odds 99;", 5, 8);
        check.townFault("odds 99; odds 3;", 4, 5);
        check.townFault("odds 3; subject s; subject s; odds 4;", 3, 27);
        check.townFault(VP + "set q gets v flaw v;", 5, VP.length() + 18);
        check.townFault(VP + "set q gets v flaw p;", 3, VP.length() + 18);
        check.townFault(VP + "set q gets v flaw v for zz;", 5, VP.length() + 18);
        check.townFault(VP + "set q gets v flaw w flaw w;", 2, VP.length() + 20);
        check.townFault(VP + "set q gets v for p for p;", 2, VP.length() + 19);
        town(VP + "set q gets v flaw w for p;set r gets w flaw v;", 2);
        check.dialsFault("any;".repeat(30) + "loop 0;", 6, 120);
        check.dialsFault("any;".repeat(30) + "12345;", 1, 120);
        check.dialsFault("any;".repeat(30) + "1234;", 2, 120);
        check.dialsFault("any;".repeat(30) + "glad;", 2, 120);
        check.dialsFault("loop 1;loop 1;loop 1;loop 0;", 7, 21);
        check.dialsFault("loop 1;loop 1;loop 1;loop", 7, 21);
        check.dialsFault("loop 1;loop 1;loop 0;loop 1;", 4, 19);
    }

    private static void thirtySteps() {
        String[] steps = {"hour 1;", "year 1;", "give oak ann;", "cold aunt;", "well aunt;", "any;", "stop;", "when lives aunt;", "loop 1;",
            "sell oak ann 1;"};
        String nine = "any;".repeat(29);
        for (String step : steps) {
            boolean opens = step.startsWith("when") || step.startsWith("loop");
            dials(nine + step + (opens ? "end;" : ""), 30);
            check.dialsFault(nine + "any;" + step, 6, 120);
            check.dialsFault(nine + "any; " + step.substring(0, 3), step.startsWith("any") ? 6 : 2, 121);
        }
        dials("loop 1;" + nine + "end;", 30);
        dials(nine + "loop 1; end;", 30);
        check.dialsFault("loop 1;" + nine + "any;end;", 6, 123);
        dials("", 0);
        dials(" \n ", 0);
        dials("any;", 1);
        dials("loop 1;end;".repeat(27), 27);
        dials("loop1;end;".repeat(30), 30);
        LicensedVoice x = Check.inTown(Check.TOWN);
        check.due("300 bytes, 30 STEPS, 30 ends", Check.dials(x, "loop9;end;".repeat(29) + "loop9;end;"), 30);
        check.due("all are come to", x.live(0), 30);
        dials("loop 1;end;".repeat(15) + "any;".repeat(15), 30);
    }

    private static void threeWithin() {
        String[] opens = {"loop 1;", "when lives aunt;", "when glad ann=0;", "when owns ann oak;"};
        for (String a : opens) {
            for (String b : opens) {
                dials(a + b + a + "any;end;end;end;", 4);
                dials(a + b + "end;" + b + a + "end;end;end;", 4);
                check.dialsFault(a + b + a + b, 7, (a + b + a).length());
                check.dialsFault(a + b + a + "end;any;" + b + " " + a, 7, (a + b + a + "end;any;" + b).length() + 1);
            }
        }
    }

    private static void ends() {
        check.dialsFault("end;", 2, 0);
        check.dialsFault("any;end;", 2, 4);
        check.dialsFault("loop 1;end;end;", 2, 11);
        check.dialsFault("loop 1;", 2, 7);
        check.dialsFault("loop 1; \n", 2, 9);
        check.dialsFault("loop 1;when lives aunt;end;", 2, 27);
        check.dialsFault("loop 1;end", 2, 10);
        check.dialsFault("loop 1;end any;", 2, 11);
        check.dialsFault("any;".repeat(30) + "end;", 2, 120);
        dials("loop 1;end;loop 2;end;", 2);
        LicensedVoice x = Check.inTown(Check.TOWN);
        check.refused("a FAULT within two", x, Check.dials(x, "loop 1;loop 2;any"), 10);
        check.refused("an end of nothing", x, Check.dials(x, "end;"), 10);
        check.due("at once", x.fault(1), 0);
        check.refused("a FAULT within three", x, Check.dials(x, "loop 1;loop 2;loop 3;loop 4;"), 10);
        check.due("three within", Check.dials(x, "loop 1;loop 2;loop 3;end;end;end;"), 3);
    }

    // ---- DIALS and TOWN

    /** The DIALS name what is in the TOWN that is there, and go with it. */
    private static void dialsOfTown() {
        LicensedVoice x = new LicensedVoice();
        check.refused("nobody is there", x, Check.dials(x, "cold aunt;"), 10);
        check.due("no such NAME", x.fault(0), 3);
        check.due("without NAMES", Check.dials(x, "hour 1;"), 1);
        Check.town(x, Check.TOWN);
        check.refused("no DIALS", x, x.live(0), 8);
        check.denied("no DIALS", x, x.mean(0, 1), 8);
        check.due("dials", Check.dials(x, "cold aunt;"), 1);
        check.refused("a TOWN with a FAULT", x, Check.town(x, "subject"), 10);
        check.due("the DIALS are there still", x.live(0), 1);
        check.due("aunt", x.many(8), 4);
        check.refused("DIALS with a FAULT", x, Check.dials(x, "hour 1;cold fish;"), 10);
        check.due("the old ones are there still", x.live(0), 1);
        check.due("missed", x.lived(0), 1);
        check.due("none", Check.dials(x, ""), 0);
        check.due("none to be come to", x.live(0), 0);
        x.mark();
        Check.town(x, "subject ann;voice oak age 1 life 2 says ann;");
        check.refused("an old NAME", x, Check.dials(x, "cold aunt;"), 10);
        check.due("a new NAME", Check.dials(x, "cold oak;"), 1);
        x.back();
        check.refused("a NAME that is gone", x, Check.dials(x, "cold oak;"), 10);
        check.due("an old NAME", Check.dials(x, "cold aunt;"), 1);
    }

    /** Nothing of TOWNS ahead is left, however many there were. */
    private static void townsInTurn() {
        LicensedVoice x = new LicensedVoice();
        String six = "subject a;subject b;subject c;subject d;subject e;subject f;person m;person n;person o;person p;person q;person r;";
        String[] towns = {Check.FULL, "", six, Check.FULL, Check.TOWN, "subject s;person p;", "", VP + "set q gets v flaw w for p;", Check.TOWN};
        for (int round = 0; round < 2; round++) {
            for (String text : towns) {
                LicensedVoice y = new LicensedVoice();
                Check.town(x, text);
                Check.town(y, text);
                check.due("as in a new object", Twin.town(x).equals(Twin.town(y)), true);
                check.refused("no DIALS", x, x.live(1), 8);
                Check.dials(x, "hour 9;year 20;any;");
                x.cold(0, true);
                x.rule(9);
                x.live(5);
                x.flaw(0, 1);
                x.give(0, 0);
                x.please(0, 0, 8);
                x.teach(0, 0);
                x.mean(1, 3);
                if (x.many(0) < 6) {
                    Check.town(x, "subject z;subject z;");
                }
            }
        }
    }
}
