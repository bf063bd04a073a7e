/** What all tests share: answers that are due, texts brought to the tape, the town most tests begin with. */
final class Check {
    static final String TOWN = "odds 4;subject fish;subject god;subject rain;voice cantor age 60 life 70 says god rain;"
            + "voice fishman age 30 life 60 says fish fish rain;voice aunt age 69 life 70 says rain;"
            + "person ann coins 20;person ben coins 5;person cyd;likes ann fish 2;likes ann god 7;likes ben fish 6;"
            + "likes ben rain 3;likes cyd rain 9;likes cyd god 1;set oak gets cantor for ben;"
            + "set tin gets fishman for ann;set box gets aunt flaw cantor;set old gets fishman flaw aunt for cyd;";

    private int wrong = 0;

    void due(String what, long got, long want) {
        if (got != want) {
            wrong++;
            System.out.println(what + " answered " + got + ", due is " + want);
        }
    }

    void due(String what, boolean got, boolean want) {
        due(what, got ? 1 : 0, want ? 1 : 0);
    }

    /** A call that is refused: NONE, and its STATUS. */
    void refused(String what, LicensedVoice x, long got, int status) {
        due(what, got, LicensedVoice.NONE);
        due(what + " STATUS", x.status(), status);
    }

    void denied(String what, LicensedVoice x, boolean got, int status) {
        due(what, got, false);
        due(what + " STATUS", x.status(), status);
    }

    void fraction(String what, LicensedVoice x, boolean got, long top, long bottom) {
        due(what, got, true);
        due(what + " STATUS", x.status(), 0);
        due(what + " top", x.top(), top);
        due(what + " bottom", x.bottom(), bottom);
    }

    void end() {
        if (wrong > 0) {
            System.out.println(wrong + " wrong");
            System.exit(1);
        }
    }

    /** Brings a text to the tape, blanks behind it; its length. */
    static int tape(LicensedVoice x, String text) {
        for (int i = 0; i < text.length(); i += 20) {
            int[] ints = new int[5];
            for (int k = 0; k < 20; k++) {
                int c = i + k < text.length() ? text.charAt(i + k) : ' ';
                ints[k / 4] = ints[k / 4] << 8 | c;
            }
            x.feed(ints[0], ints[1], ints[2], ints[3], ints[4]);
        }
        return text.length();
    }

    static int town(LicensedVoice x, String text) {
        return x.town(tape(x, text));
    }

    static int dials(LicensedVoice x, String text) {
        return x.dials(tape(x, text));
    }

    static LicensedVoice inTown(String text) {
        LicensedVoice x = new LicensedVoice();
        town(x, text);
        return x;
    }

    void townFault(String text, int kind, int place) {
        LicensedVoice x = new LicensedVoice();
        refused("town " + text, x, town(x, text), 10);
        due("fault(0) of " + text, x.fault(0), kind);
        due("fault(1) of " + text, x.fault(1), place);
    }

    void dialsFault(String text, int kind, int place) {
        LicensedVoice x = inTown(TOWN);
        refused("dials " + text, x, dials(x, text), 10);
        due("fault(0) of " + text, x.fault(0), kind);
        due("fault(1) of " + text, x.fault(1), place);
    }
}
