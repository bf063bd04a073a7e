import java.util.List;

/** What all tests share: answers that are due, texts brought to the tape, the town most tests begin with. */
final class Check {
    static final String TOWN = "odds 4;subject fish;subject god;subject rain;voice cantor age 60 life 70 says god rain;"
            + "voice fishman age 30 life 60 says fish fish rain;voice aunt age 69 life 70 says rain;"
            + "person ann coins 20;person ben coins 5;person cyd;likes ann fish 2;likes ann god 7;likes ben fish 6;"
            + "likes ben rain 3;likes cyd rain 9;likes cyd god 1;set oak gets cantor for ben;"
            + "set tin gets fishman for ann;set box gets aunt flaw cantor;set old gets fishman flaw aunt for cyd;";

    /** Six of each, rows of 1 to 8, 900 bytes with the last one. */
    static final String FULL = full();

    private int wrong = 0;

    private static String full() {
        String text = "odds 16;subject a;subject b;subject c;subject d;subject e;subject f;"
                + "voice g age 0 life 1 says a;voice h age 119 life 120 says b a;voice i age 5 life 9 says c d e;"
                + "voice j age 7 life 9 says a b c d e f a b;voice k age 1 life 99 says f;voice l age 30 life 70 says f e d c b;"
                + "person m coins 0;person n coins 999;person o;person p coins 7;person q coins 20;person r coins 1;"
                + "set s gets g for m;set t gets h flaw g;set u gets i flaw l for n;set v gets j;set w gets k for r;set x gets l flaw k for r;"
                + "likes m a 9;likes m f 1;likes n c 5;likes n d 4;likes o b 6;likes o e 9;likes p f 3;likes q a 2;likes r f 9;likes r b 7;";
        return text + " ".repeat(888 - text.length()) + "likes r a 9;";
    }

    void due(String what, long got, long want) {
        if (got != want) {
            wrong++;
            System.out.println(what + " answered " + got + ", due is " + want);
        }
    }

    void due(String what, boolean got, boolean want) {
        due(what, got ? 1 : 0, want ? 1 : 0);
    }

    void due(String what, List<Long> got, List<Long> want) {
        if (!got.equals(want)) {
            wrong++;
            System.out.println(what + " told " + got + ", due is " + want);
        }
    }

    /** A call that is refused: NONE, and its STATUS. */
    void refused(String what, LicensedVoice x, long got, int status) {
        due(what, got, LicensedVoice.NONE);
        due(what + " STATUS", x.status(), status);
    }

    void denied(String what, LicensedVoice x, boolean got, int status) {
        due(what, got, false);
        due(what + " STATUS", x.status(), status);
    }

    void fraction(String what, LicensedVoice x, boolean got, long top, long bottom) {
        due(what, got, true);
        due(what + " STATUS", x.status(), 0);
        due(what + " top", x.top(), top);
        due(what + " bottom", x.bottom(), bottom);
    }

    void end() {
        if (wrong > 0) {
            System.out.println(wrong + " wrong");
            System.exit(1);
        }
    }

    /** Brings a text to the tape, blanks behind it; its length. */
    static int tape(LicensedVoice x, String text) {
        for (int i = 0; i < text.length(); i += 20) {
            int[] ints = new int[5];
            for (int k = 0; k < 20; k++) {
                int c = i + k < text.length() ? text.charAt(i + k) : ' ';
                ints[k / 4] = ints[k / 4] << 8 | c;
            }
            x.feed(ints[0], ints[1], ints[2], ints[3], ints[4]);
        }
        return text.length();
    }

    static int town(LicensedVoice x, String text) {
        return x.town(tape(x, text));
    }

    static int dials(LicensedVoice x, String text) {
        return x.dials(tape(x, text));
    }

    static LicensedVoice inTown(String text) {
        LicensedVoice x = new LicensedVoice();
        town(x, text);
        return x;
    }

    void townFault(String text, int kind, int place) {
        LicensedVoice x = new LicensedVoice();
        refused("town " + text, x, town(x, text), 10);
        due("fault(0) of " + text, x.fault(0), kind);
        due("fault(1) of " + text, x.fault(1), place);
    }

    void dialsFault(String text, int kind, int place) {
        LicensedVoice x = inTown(TOWN);
        refused("dials " + text, x, dials(x, text), 10);
        due("fault(0) of " + text, x.fault(0), kind);
        due("fault(1) of " + text, x.fault(1), place);
    }
}
