/**
 * Receivers that are licensed for one voice each. The words in capitals (TOWN, SET, FAULT, STATUS ..)
 * are those of the document; README.md says how the class is used.
 */
public final class LicensedVoice {
    public static final int NONE = -1;

    // What a TOWN has, by kinds.
    private static final int SUBJECTS = 0;
    private static final int VOICES = 1;
    private static final int PEOPLE = 2;
    private static final int SETS = 3;
    private static final int KINDS = 4;

    // The limits of the document.
    private static final int MOST = 6;
    private static final int MOST_ROW = 8;
    private static final int MOST_TAPE = 900;
    private static final int MOST_DIALS = 300;
    private static final int MOST_STEPS = 30;
    private static final int MOST_LIVED = 300;
    private static final int MOST_WITHIN = 3;
    private static final int MOST_MARKS = 3;
    private static final int MOST_HOUR = 9999;
    private static final int MOST_YEAR = 999;
    private static final int MOST_COINS = 9999;
    private static final int MOST_PRICE = 999;
    private static final int MOST_SEED = 9999;
    private static final int MOST_AHEAD = 300;
    private static final int MOST_LIKE = 9;
    private static final int MOST_TURNS = 5;
    private static final int SIXTEENTHS = 16;
    private static final int WORTH_HOURS = 12;
    private static final int TRAYS = 4;
    private static final int TRAY_LENGTH = 60;
    private static final int WAYS = 1 << MOST;

    // STATUS.
    private static final int NO_TRAY = 1;
    private static final int NO_SUCH = 2;
    private static final int MISSING = 3;
    private static final int NO_PLACE = 4;
    private static final int NO_NUMBER = 5;
    private static final int BELOW = 6;
    private static final int TOO_MANY = 7;
    private static final int NOTHING = 8;
    private static final int CANNOT = 9;
    private static final int FAULTY = 10;
    private static final int UNLIKE = 11;

    // TOKENS: signs are told by their own byte, reserved WORDS by KEYWORD and their place among these.
    private static final int BAD = -1;
    private static final int OVER = 0;
    private static final int NUMBER = 1;
    private static final int NAME = 2;
    private static final int LONG_WORD = 3;
    private static final int SEMICOLON = ';';
    private static final int LESS = '<';
    private static final int MORE = '>';
    private static final int EQUAL = '=';
    private static final int KEYWORD = 100;
    private static final int ODDS = 100;
    private static final int SUBJECT = 101;
    private static final int VOICE = 102;
    private static final int AGE = 103;
    private static final int LIFE = 104;
    private static final int SAYS = 105;
    private static final int PERSON = 106;
    private static final int COINS = 107;
    private static final int LIKES = 108;
    private static final int SET = 109;
    private static final int GETS = 110;
    private static final int FLAW = 111;
    private static final int FOR = 112;
    private static final int HOUR = 113;
    private static final int YEAR = 114;
    private static final int SELL = 115;
    private static final int GIVE = 116;
    private static final int COLD = 117;
    private static final int WELL = 118;
    private static final int ANY = 119;
    private static final int WHEN = 120;
    private static final int GLAD = 121;
    private static final int LIVES = 122;
    private static final int OWNS = 123;
    private static final int LOOP = 124;
    private static final int END = 125;
    private static final int STOP = 126;
    private static final int KEYWORDS = 27;
    private static final String KEYWORD_TEXT = "odds subject voice age life says person coins likes set gets flaw for hour year sell give cold well any when glad lives owns loop end stop ";

    private final Tray[] trays;
    private final byte[] tape;
    private int taped;
    private Town here;
    private Town spare;
    private final Town[] marks;
    private int marked;
    private final Text text;
    private final TownReader townReader;
    private final DialsReader dialsReader;
    private final Deals deals;
    private final Player player;
    private final int[] livedRow;
    private boolean hasLived;
    private boolean hasRead;
    private int lastStatus;
    private long lastTop;
    private long lastBottom;

    public LicensedVoice() {
        trays = new Tray[TRAYS];
        for (int i = 0; i < TRAYS; i++) {
            trays[i] = new Tray();
        }
        tape = new byte[MOST_TAPE];
        here = new Town();
        spare = new Town();
        marks = new Town[MOST_MARKS];
        for (int i = 0; i < MOST_MARKS; i++) {
            marks[i] = new Town();
        }
        text = new Text(tape);
        townReader = new TownReader(text);
        dialsReader = new DialsReader(text);
        deals = new Deals();
        player = new Player();
        livedRow = new int[5];
        lastBottom = 1;
    }

    public int status() {
        return lastStatus;
    }

    public long top() {
        return lastTop;
    }

    public long bottom() {
        return lastBottom;
    }

    // ---- TRAYS

    public boolean tray(int tray, int sort, int many) {
        if (!isTray(tray) || sort < 0 || sort > 3) {
            return deny(NO_TRAY);
        }
        if (many > TRAY_LENGTH) {
            return deny(NO_NUMBER);
        }
        if (many < 0) {
            return deny(BELOW);
        }
        trays[tray].lay(sort, many);
        return agree();
    }

    public boolean write(int tray, int place, long v) {
        int wrong = placeStatus(tray, place);
        if (wrong != 0) {
            return deny(wrong);
        }
        trays[tray].put(place, v);
        return agree();
    }

    public long read(int tray, int place) {
        int wrong = placeStatus(tray, place);
        if (wrong != 0) {
            return refuse(wrong);
        }
        lastStatus = 0;
        return trays[tray].cells[place];
    }

    public boolean pour(int tray, int i, int to, int j, int many) {
        if (!isTray(tray) || !isTray(to)) {
            return deny(NO_TRAY);
        }
        Tray from = trays[tray];
        Tray into = trays[to];
        if (!from.there || !into.there) {
            return deny(MISSING);
        }
        if (from.sort != into.sort) {
            return deny(UNLIKE);
        }
        if (many < 0) {
            return deny(BELOW);
        }
        if (!from.hasRun(i, many) || !into.hasRun(j, many)) {
            return deny(NO_PLACE);
        }
        System.arraycopy(from.cells, i, into.cells, j, many);
        return agree();
    }

    private static boolean isTray(int tray) {
        return tray >= 0 && tray < TRAYS;
    }

    private int placeStatus(int tray, int place) {
        if (!isTray(tray)) {
            return NO_TRAY;
        }
        if (!trays[tray].there) {
            return MISSING;
        }
        return trays[tray].hasRun(place, 1) ? 0 : NO_PLACE;
    }

    /** What is wrong with the first so many numbers of a TRAY, as far as the TRAY alone tells it. */
    private int runStatus(int tray, long many) {
        if (!isTray(tray)) {
            return NO_TRAY;
        }
        if (!trays[tray].there) {
            return MISSING;
        }
        return many > trays[tray].many ? NO_PLACE : 0;
    }

    // ---- texts

    public int feed(int a, int b, int c, int d, int e) {
        if (taped > MOST_TAPE - 20) {
            return NONE;
        }
        feedFour(a);
        feedFour(b);
        feedFour(c);
        feedFour(d);
        feedFour(e);
        return taped;
    }

    private void feedFour(int bytes) {
        for (int shift = 24; shift >= 0; shift -= 8) {
            if (taped < MOST_TAPE) {
                tape[taped] = (byte) (bytes >> shift);
                taped++;
            }
        }
    }

    public int town(int n) {
        if (n < 0 || n > taped) {
            return refuse(NO_NUMBER);
        }
        text.open(n);
        taped = 0;
        hasRead = true;
        if (!townReader.readsInto(spare)) {
            return refuse(FAULTY);
        }
        Town old = here;
        here = spare;
        spare = old;
        return answer(here.counts[SETS]);
    }

    public int dials(int n) {
        if (n < 0 || n > taped || n > MOST_DIALS) {
            return refuse(NO_NUMBER);
        }
        text.open(n);
        taped = 0;
        hasRead = true;
        if (!dialsReader.readsFor(here)) {
            return refuse(FAULTY);
        }
        here.dials.take(dialsReader.made);
        return answer(here.dials.steps);
    }

    public int fault(int what) {
        if (!hasRead) {
            return NONE;
        }
        if (what == 0) {
            return text.fault;
        }
        return what == 1 ? text.faultPlace : NONE;
    }

    public int many(int what) {
        if (what < 0 || what > 11) {
            return refuse(NO_NUMBER);
        }
        if (what < KINDS) {
            return answer(here.counts[what]);
        }
        switch (what) {
            case 4:
                return answer(here.odds);
            case 5:
                return answer(here.hourNow);
            case 6:
                return answer(here.yearNow);
            case 7:
                return answer(here.living);
            case 8:
                return answer(here.colds);
            case 9:
                return answer(here.setsOf(NONE));
            case 10:
                return answer(here.coinsOfAll());
            default:
                return answer(here.gladOfAll());
        }
    }

    public int voice(int voice, int what) {
        if (!has(VOICES, voice)) {
            return refuse(NO_SUCH);
        }
        switch (what) {
            case 0:
                return answer(here.ages[voice]);
            case 1:
                return answer(here.lives[voice]);
            case 2:
                return answer(here.rowLengths[voice]);
            case 3:
                return answer(here.living >> voice & 1);
            case 4:
                return answer(here.colds >> voice & 1);
            default:
                return refuse(NO_NUMBER);
        }
    }

    public int row(int voice, int k) {
        if (!has(VOICES, voice)) {
            return refuse(NO_SUCH);
        }
        if (k < 0 || k >= here.rowLengths[voice]) {
            return refuse(NOTHING);
        }
        return answer(here.rows[voice * MOST_ROW + k]);
    }

    public int person(int person, int what) {
        if (!has(PEOPLE, person)) {
            return refuse(NO_SUCH);
        }
        switch (what) {
            case 0:
                return answer(here.coins[person]);
            case 1:
                return answer(here.glad[person]);
            case 2:
                return answer(here.lonely[person]);
            case 3:
                return answer(here.setsOf(person));
            default:
                return refuse(NO_NUMBER);
        }
    }

    public int like(int person, int subject) {
        if (!has(PEOPLE, person) || !has(SUBJECTS, subject)) {
            return refuse(NO_SUCH);
        }
        return answer(here.likes[person * MOST + subject]);
    }

    public int set(int set, int what) {
        if (!has(SETS, set)) {
            return refuse(NO_SUCH);
        }
        switch (what) {
            case 0:
                return answer(here.tied[set]);
            case 1:
                return answerIfAny(here.flaws[set]);
            case 2:
                return answerIfAny(here.owners[set]);
            default:
                return refuse(NO_NUMBER);
        }
    }

    // ---- what is done

    public int hour(int hours) {
        if (hours < 1 || hours > 99) {
            return refuse(NO_NUMBER);
        }
        if (!here.hasHours(hours)) {
            return refuse(TOO_MANY);
        }
        return answer(here.passHours(hours));
    }

    public int year(int years) {
        if (years < 1 || years > 99) {
            return refuse(NO_NUMBER);
        }
        if (!here.hasYears(years)) {
            return refuse(TOO_MANY);
        }
        return answer(here.passYears(years));
    }

    public int sell(int set, int person, int coins) {
        if (!has(SETS, set) || !has(PEOPLE, person)) {
            return refuse(NO_SUCH);
        }
        if (coins < 0 || coins > MOST_PRICE) {
            return refuse(NO_NUMBER);
        }
        if (!here.makesSale(set, person, coins)) {
            return refuse(CANNOT);
        }
        return answer(here.coins[person]);
    }

    public int give(int set, int person) {
        if (!has(SETS, set) || !has(PEOPLE, person)) {
            return refuse(NO_SUCH);
        }
        if (!here.makesGift(set, person)) {
            return refuse(CANNOT);
        }
        return answer(Integer.bitCount(here.setsOf(person)));
    }

    public int dump(int set) {
        if (!has(SETS, set)) {
            return refuse(NO_SUCH);
        }
        int owner = here.owners[set];
        here.owners[set] = NONE;
        return answerIfAny(owner);
    }

    public boolean cold(int voice, boolean is) {
        if (!has(VOICES, voice)) {
            return deny(NO_SUCH);
        }
        boolean can = is ? here.catchesCold(voice) : here.getsWell(voice);
        return can ? agree() : deny(CANNOT);
    }

    public boolean flaw(int set, int voice) {
        if (!has(SETS, set) || voice != MOST && !has(VOICES, voice)) {
            return deny(NO_SUCH);
        }
        int flaw = voice == MOST ? NONE : voice;
        if (here.flaws[set] == flaw || here.tied[set] == flaw) {
            return deny(CANNOT);
        }
        here.flaws[set] = flaw;
        return agree();
    }

    public int please(int person, int subject, int much) {
        if (!has(PEOPLE, person) || !has(SUBJECTS, subject)) {
            return refuse(NO_SUCH);
        }
        if (much < 0 || much > MOST_LIKE) {
            return refuse(NO_NUMBER);
        }
        int before = here.likes[person * MOST + subject];
        if (before == much) {
            return refuse(CANNOT);
        }
        here.likes[person * MOST + subject] = much;
        return answer(before);
    }

    public int teach(int voice, int subject) {
        if (!has(VOICES, voice) || !has(SUBJECTS, subject)) {
            return refuse(NO_SUCH);
        }
        if (here.rowLengths[voice] >= MOST_ROW) {
            return refuse(TOO_MANY);
        }
        here.addToRow(voice, subject);
        return answer(here.rowLengths[voice]);
    }

    public boolean rule(int odds) {
        if (odds < 0 || odds > SIXTEENTHS) {
            return deny(NO_NUMBER);
        }
        here.odds = odds;
        return agree();
    }

    // ---- HOURS ahead

    public int saysIn(int voice, int hours) {
        if (!has(VOICES, voice)) {
            return refuse(NO_SUCH);
        }
        if (hours < 0 || hours > 999) {
            return refuse(NO_NUMBER);
        }
        return answerIfAny(here.saysAt(voice, here.hourNow + hours));
    }

    public int hearsIn(int person, int hours) {
        if (!has(PEOPLE, person)) {
            return refuse(NO_SUCH);
        }
        if (hours < 0 || hours > 999) {
            return refuse(NO_NUMBER);
        }
        return answer(here.heardAt(here.voicesOf(person), here.hourNow + hours));
    }

    public int gladIn(int person, int hours) {
        if (!has(PEOPLE, person)) {
            return refuse(NO_SUCH);
        }
        if (hours < 0 || hours > MOST_AHEAD) {
            return refuse(NO_NUMBER);
        }
        return answer(here.glad[person] + here.joyAhead(person, here.voicesOf(person), hours));
    }

    public int gladBy(int person, int much) {
        if (!has(PEOPLE, person)) {
            return refuse(NO_SUCH);
        }
        if (much < 0 || much > 9999) {
            return refuse(NO_NUMBER);
        }
        int voices = here.voicesOf(person);
        int glad = here.glad[person];
        for (int i = 0; i <= MOST_AHEAD; i++) {
            if (glad >= much) {
                return answer(i);
            }
            glad += here.joyBy(person, here.heardAt(voices, here.hourNow + i));
        }
        return refuse(NOTHING);
    }

    public int lonelyIn(int person) {
        if (!has(PEOPLE, person)) {
            return refuse(NO_SUCH);
        }
        int voices = here.voicesOf(person);
        for (int i = 0; i < MOST_AHEAD; i++) {
            if (here.heardAt(voices, here.hourNow + i) == 0) {
                return answer(i);
            }
        }
        return refuse(NOTHING);
    }

    public int diesIn(int voice) {
        if (!has(VOICES, voice)) {
            return refuse(NO_SUCH);
        }
        if (!here.isLiving(voice)) {
            return refuse(NOTHING);
        }
        return answer(Math.max(1, here.lives[voice] - here.ages[voice]));
    }

    public int crowd(int voice) {
        if (!has(VOICES, voice)) {
            return refuse(NO_SUCH);
        }
        return answer(here.hearersOf(voice));
    }

    // ---- who gets what

    public int worth(int person, int set) {
        if (!has(PEOPLE, person) || !has(SETS, set)) {
            return refuse(NO_SUCH);
        }
        return answer(here.worthTo(person, set));
    }

    public int best(int people) {
        if (!isSetOfPeople(people)) {
            return refuse(NO_NUMBER);
        }
        return answer(deals.findBest(here, people));
    }

    public int bestSet(int people, int person) {
        if (!has(PEOPLE, person)) {
            return refuse(NO_SUCH);
        }
        if (!isSetOfPeople(people) || (people >> person & 1) == 0) {
            return refuse(NO_NUMBER);
        }
        return answerIfAny(deals.findBestSet(here, people, person));
    }

    public int trade(int person) {
        if (!has(PEOPLE, person)) {
            return refuse(NO_SUCH);
        }
        deals.makeTrades(here);
        return answerIfAny(deals.goes[person]);
    }

    public int trades() {
        deals.makeTrades(here);
        int others = 0;
        for (int p = 0; p < here.counts[PEOPLE]; p++) {
            if (deals.goes[p] != deals.comes[p]) {
                others++;
            }
        }
        return answer(others);
    }

    public int envies(int person, int other) {
        if (!has(PEOPLE, person) || !has(PEOPLE, other)) {
            return refuse(NO_SUCH);
        }
        if (person == other) {
            return refuse(NO_NUMBER);
        }
        boolean is = deals.mostWorth(here, person, other) > deals.mostWorth(here, person, person);
        return answer(is ? 1 : 0);
    }

    public int pick(int tray, int n, int k) {
        int wrong = runStatus(tray, n);
        if (wrong != 0) {
            return refuse(wrong);
        }
        if (n < 0 || n > MOST || !isRowOfPeople(trays[tray], n)) {
            return refuse(NO_NUMBER);
        }
        if (k < 0 || k >= n) {
            return refuse(NOTHING);
        }
        return answerIfAny(deals.findPick(here, trays[tray], k));
    }

    private boolean isSetOfPeople(int people) {
        return people >= 0 && people < 1 << here.counts[PEOPLE];
    }

    private boolean isRowOfPeople(Tray row, int n) {
        int seen = 0;
        for (int i = 0; i < n; i++) {
            long person = row.cells[i];
            if (person < 0 || person >= here.counts[PEOPLE] || (seen >> (int) person & 1) != 0) {
                return false;
            }
            seen |= 1 << (int) person;
        }
        return true;
    }

    // ---- who is it

    public int fits(int tray, int n) {
        int wrong = twosStatus(tray, n);
        if (wrong != 0) {
            return refuse(wrong);
        }
        return answer(here.voicesThatFit(trays[tray], n));
    }

    public int ask(int tray, int n) {
        int wrong = twosStatus(tray, n);
        if (wrong != 0) {
            return refuse(wrong);
        }
        int voices = here.voicesThatFit(trays[tray], n);
        if (Integer.bitCount(voices) < 2) {
            return refuse(NOTHING);
        }
        return answer(here.hourThatParts(voices));
    }

    private int twosStatus(int tray, int n) {
        int wrong = runStatus(tray, 2L * n);
        if (wrong != 0) {
            return wrong;
        }
        if (n < 0 || n > 20) {
            return NO_NUMBER;
        }
        for (int i = 0; i < n; i++) {
            long hour = trays[tray].cells[2 * i];
            long subject = trays[tray].cells[2 * i + 1];
            if (hour < 0 || hour > MOST_HOUR || subject < 0 || subject >= here.counts[SUBJECTS]) {
                return NO_NUMBER;
            }
        }
        return 0;
    }

    // ---- what to say

    public int peace(int people) {
        int wrong = peaceStatus(people);
        return wrong != 0 ? refuse(wrong) : answer(here.subjectOfPeace(people));
    }

    public int peaceBy(int people) {
        int wrong = peaceStatus(people);
        return wrong != 0 ? refuse(wrong) : answer(here.leastLike(people, here.subjectOfPeace(people)));
    }

    private int peaceStatus(int people) {
        if (people == 0 || !isSetOfPeople(people)) {
            return NO_NUMBER;
        }
        return here.counts[SUBJECTS] == 0 ? NOTHING : 0;
    }

    public int popular(int voice) {
        int wrong = popularStatus(voice);
        return wrong != 0 ? refuse(wrong) : answer(here.popularAmong(here.hearersOf(voice)));
    }

    public int popularBy(int voice) {
        int wrong = popularStatus(voice);
        if (wrong != 0) {
            return refuse(wrong);
        }
        int people = here.hearersOf(voice);
        return answer(here.fansAmong(people, here.popularAmong(people)));
    }

    private int popularStatus(int voice) {
        if (!has(VOICES, voice)) {
            return NO_SUCH;
        }
        return here.counts[SUBJECTS] == 0 ? NOTHING : 0;
    }

    // ---- games, odds

    public int game(int person, int other, int turns) {
        int wrong = gameStatus(person, other, turns);
        return wrong != 0 ? refuse(wrong) : answer(deals.playGame(here, person, other, turns));
    }

    public int moveOf(int person, int other, int turns) {
        int wrong = gameStatus(person, other, turns);
        if (wrong != 0) {
            return refuse(wrong);
        }
        if (turns == 0) {
            return refuse(NO_NUMBER);
        }
        return answerIfAny(deals.findMove(here, person, other, turns));
    }

    private int gameStatus(int person, int other, int turns) {
        if (!has(PEOPLE, person) || !has(PEOPLE, other)) {
            return NO_SUCH;
        }
        return person == other || turns < 0 || turns > MOST_TURNS ? NO_NUMBER : 0;
    }

    public boolean alive(int voice, int n) {
        if (!has(VOICES, voice)) {
            return deny(NO_SUCH);
        }
        if (n < 0 || n > 12) {
            return deny(NO_NUMBER);
        }
        if (!here.isLiving(voice)) {
            return deny(CANNOT);
        }
        tell(power(SIXTEENTHS - here.odds, n), power(SIXTEENTHS, n));
        return agree();
    }

    public boolean warm(int person) {
        if (!has(PEOPLE, person)) {
            return deny(NO_SUCH);
        }
        int living = Integer.bitCount(here.voicesOf(person) & here.living);
        long all = power(SIXTEENTHS, living);
        tell(all - power(here.odds, living), all);
        return agree();
    }

    private static long power(int base, int times) {
        long power = 1;
        for (int i = 0; i < times; i++) {
            power *= base;
        }
        return power;
    }

    /** Keeps a FRACTION in its least form; the top is not below 0, the bottom above 0. */
    private void tell(long above, long below) {
        long a = above;
        long b = below;
        for (int i = 0; i < 200 && b != 0; i++) {
            long rest = a % b;
            a = b;
            b = rest;
        }
        long divisor = a > 0 ? a : 1;
        lastTop = above / divisor;
        lastBottom = below / divisor;
    }

    // ---- DIALS

    public int live(int seed) {
        if (seed < 0 || seed > MOST_SEED) {
            return refuse(NO_NUMBER);
        }
        if (!here.dials.there) {
            return refuse(NOTHING);
        }
        int before = here.gladOfAll();
        player.play(here, seed);
        hasLived = true;
        livedRow[0] = player.missed;
        livedRow[1] = player.hours;
        livedRow[2] = here.gladOfAll() - before;
        livedRow[3] = player.died;
        livedRow[4] = player.cut ? 1 : 0;
        return answer(player.steps);
    }

    public int lived(int what) {
        if (what < 0 || what > 4) {
            return refuse(NO_NUMBER);
        }
        return hasLived ? answer(livedRow[what]) : refuse(NOTHING);
    }

    public boolean mean(int seed, int many) {
        if (seed < 0 || seed > MOST_SEED || many < 1 || many > 20 || seed + many - 1 > MOST_SEED) {
            return deny(NO_NUMBER);
        }
        if (!here.dials.there) {
            return deny(NOTHING);
        }
        long glad = 0;
        for (int i = 0; i < many; i++) {
            spare.take(here);
            player.play(spare, seed + i);
            glad += spare.gladOfAll();
        }
        tell(glad, many);
        return agree();
    }

    // ---- MARKS

    public int mark() {
        if (marked >= MOST_MARKS) {
            return refuse(TOO_MANY);
        }
        marks[marked].take(here);
        marked++;
        return answer(marked);
    }

    public int back() {
        if (marked <= 0) {
            return refuse(NOTHING);
        }
        marked--;
        here.take(marks[marked]);
        return answer(marked);
    }

    // ---- STATUS

    private boolean has(int kind, int number) {
        return number >= 0 && number < here.counts[kind];
    }

    private int answer(int value) {
        lastStatus = 0;
        return value;
    }

    private int answerIfAny(int value) {
        return value == NONE ? refuse(NOTHING) : answer(value);
    }

    private int refuse(int why) {
        lastStatus = why;
        return NONE;
    }

    private boolean agree() {
        lastStatus = 0;
        return true;
    }

    private boolean deny(int why) {
        lastStatus = why;
        return false;
    }

    /** A row of numbers of one sort; the room for the longest is there from the first on. */
    private static final class Tray {
        final long[] cells = new long[TRAY_LENGTH];
        boolean there;
        int sort;
        int many;

        void lay(int newSort, int length) {
            there = true;
            sort = newSort;
            many = length;
            for (int i = 0; i < TRAY_LENGTH; i++) {
                cells[i] = 0;
            }
        }

        /** In long, as a place and a length together may be above what an int holds. */
        boolean hasRun(int place, int length) {
            return place >= 0 && (long) place + length <= many;
        }

        void put(int place, long v) {
            if (sort == 0) {
                cells[place] = (byte) v;
            } else if (sort == 1) {
                cells[place] = (short) v;
            } else if (sort == 2) {
                cells[place] = (int) v;
            } else {
                cells[place] = v;
            }
        }
    }

    /**
     * A TOWN with all that became of it. Sets of VOICES, SETS, PEOPLE and SUBJECTS are bits (1 for number 0 ..).
     * The DIALS name what is in the TOWN by numbers, so they come, are marked and go with it.
     */
    private static final class Town {
        final long[] names = new long[KINDS * MOST];
        final int[] counts = new int[KINDS];
        int odds = 1;
        int hourNow;
        int yearNow;
        int living;
        int colds;
        final int[] ages = new int[MOST];
        final int[] lives = new int[MOST];
        final int[] rowLengths = new int[MOST];
        final int[] rows = new int[MOST * MOST_ROW];
        final int[] coins = new int[MOST];
        final int[] glad = new int[MOST];
        final int[] lonely = new int[MOST];
        final int[] likes = new int[MOST * MOST];
        final int[] tied = new int[MOST];
        final int[] flaws = new int[MOST];
        final int[] owners = new int[MOST];
        final Dials dials = new Dials();

        void clear() {
            for (int kind = 0; kind < KINDS; kind++) {
                counts[kind] = 0;
            }
            odds = 1;
            hourNow = 0;
            yearNow = 0;
            living = 0;
            colds = 0;
            dials.clear();
        }

        void take(Town other) {
            odds = other.odds;
            hourNow = other.hourNow;
            yearNow = other.yearNow;
            living = other.living;
            colds = other.colds;
            System.arraycopy(other.names, 0, names, 0, KINDS * MOST);
            System.arraycopy(other.counts, 0, counts, 0, KINDS);
            System.arraycopy(other.ages, 0, ages, 0, MOST);
            System.arraycopy(other.lives, 0, lives, 0, MOST);
            System.arraycopy(other.rowLengths, 0, rowLengths, 0, MOST);
            System.arraycopy(other.rows, 0, rows, 0, MOST * MOST_ROW);
            System.arraycopy(other.coins, 0, coins, 0, MOST);
            System.arraycopy(other.glad, 0, glad, 0, MOST);
            System.arraycopy(other.lonely, 0, lonely, 0, MOST);
            System.arraycopy(other.likes, 0, likes, 0, MOST * MOST);
            System.arraycopy(other.tied, 0, tied, 0, MOST);
            System.arraycopy(other.flaws, 0, flaws, 0, MOST);
            System.arraycopy(other.owners, 0, owners, 0, MOST);
            dials.take(other.dials);
        }

        // -- names

        int find(int kind, long name) {
            for (int i = 0; i < counts[kind]; i++) {
                if (names[kind * MOST + i] == name) {
                    return i;
                }
            }
            return NONE;
        }

        boolean isTaken(long name) {
            for (int kind = 0; kind < KINDS; kind++) {
                if (find(kind, name) != NONE) {
                    return true;
                }
            }
            return false;
        }

        boolean isFull(int kind) {
            return counts[kind] >= MOST;
        }

        /** A thing more, as it is if its PART tells nothing more of it; isFull() is asked ahead. */
        int add(int kind, long name) {
            int i = counts[kind];
            names[kind * MOST + i] = name;
            counts[kind]++;
            if (kind == VOICES) {
                living |= 1 << i;
                rowLengths[i] = 0;
            } else if (kind == PEOPLE) {
                coins[i] = 10;
                glad[i] = 0;
                lonely[i] = 0;
                for (int s = 0; s < MOST; s++) {
                    likes[i * MOST + s] = 0;
                }
            } else if (kind == SETS) {
                flaws[i] = NONE;
                owners[i] = NONE;
            }
            return i;
        }

        void addToRow(int voice, int subject) {
            int k = rowLengths[voice];
            if (k < MOST_ROW) {
                rows[voice * MOST_ROW + k] = subject;
                rowLengths[voice] = k + 1;
            }
        }

        // -- who has what

        /** The set of SETS of a PERSON; with NONE, of those that nobody owns. */
        int setsOf(int person) {
            int sets = 0;
            for (int s = 0; s < counts[SETS]; s++) {
                if (owners[s] == person) {
                    sets |= 1 << s;
                }
            }
            return sets;
        }

        int voicesIn(int set) {
            int voices = 1 << tied[set];
            return flaws[set] == NONE ? voices : voices | 1 << flaws[set];
        }

        int voicesOf(int person) {
            int voices = 0;
            for (int s = 0; s < counts[SETS]; s++) {
                if (owners[s] == person) {
                    voices |= voicesIn(s);
                }
            }
            return voices;
        }

        int hearersOf(int voice) {
            int people = 0;
            for (int p = 0; p < counts[PEOPLE]; p++) {
                people |= (voicesOf(p) >> voice & 1) << p;
            }
            return people;
        }

        int coinsOfAll() {
            int all = 0;
            for (int p = 0; p < counts[PEOPLE]; p++) {
                all += coins[p];
            }
            return all;
        }

        int gladOfAll() {
            int all = 0;
            for (int p = 0; p < counts[PEOPLE]; p++) {
                all += glad[p];
            }
            return all;
        }

        // -- what is said and heard

        boolean isLiving(int voice) {
            return (living >> voice & 1) != 0;
        }

        boolean hasCold(int voice) {
            return (colds >> voice & 1) != 0;
        }

        /** The SUBJECT in the place of an HOUR, whether or not the VOICE can say it. */
        int placedAt(int voice, int hour) {
            int length = rowLengths[voice];
            return length <= 0 ? NONE : rows[voice * MOST_ROW + hour % length];
        }

        int saysAt(int voice, int hour) {
            return isLiving(voice) && !hasCold(voice) ? placedAt(voice, hour) : NONE;
        }

        /** The set of SUBJECTS that those of a set of VOICES say who can. */
        int heardAt(int voices, int hour) {
            int able = voices & living & ~colds;
            int subjects = 0;
            for (int v = 0; v < counts[VOICES]; v++) {
                int length = rowLengths[v];
                if ((able >> v & 1) != 0 && length > 0) {
                    subjects |= 1 << rows[v * MOST_ROW + hour % length];
                }
            }
            return subjects;
        }

        int joyBy(int person, int subjects) {
            int joy = 0;
            for (int s = 0; s < counts[SUBJECTS]; s++) {
                if ((subjects >> s & 1) != 0) {
                    joy += likes[person * MOST + s];
                }
            }
            return joy;
        }

        int joyAhead(int person, int voices, int hours) {
            int joy = 0;
            for (int i = 0; i < hours; i++) {
                joy += joyBy(person, heardAt(voices, hourNow + i));
            }
            return joy;
        }

        int worthTo(int person, int set) {
            return joyAhead(person, voicesIn(set), WORTH_HOURS);
        }

        // -- what is done

        boolean hasHours(int hours) {
            return hourNow + hours <= MOST_HOUR;
        }

        boolean hasYears(int years) {
            return yearNow + years <= MOST_YEAR;
        }

        /** By how much all are more GLAD. */
        int passHours(int hours) {
            int more = 0;
            for (int p = 0; p < counts[PEOPLE]; p++) {
                int voices = voicesOf(p);
                for (int i = 0; i < hours; i++) {
                    int subjects = heardAt(voices, hourNow + i);
                    int joy = joyBy(p, subjects);
                    glad[p] += joy;
                    more += joy;
                    if (subjects == 0) {
                        lonely[p]++;
                    }
                }
            }
            hourNow += hours;
            return more;
        }

        /** The set of VOICES that DIED. */
        int passYears(int years) {
            int before = living;
            for (int i = 0; i < years; i++) {
                for (int v = 0; v < counts[VOICES]; v++) {
                    if (isLiving(v)) {
                        ages[v]++;
                        if (ages[v] >= lives[v]) {
                            living &= ~(1 << v);
                        }
                    }
                }
            }
            yearNow += years;
            return before & ~living;
        }

        boolean makesSale(int set, int person, int price) {
            int owner = owners[set];
            if (owner == NONE || owner == person || coins[person] < price || coins[owner] + price > MOST_COINS) {
                return false;
            }
            coins[person] -= price;
            coins[owner] += price;
            owners[set] = person;
            return true;
        }

        boolean makesGift(int set, int person) {
            if (owners[set] == person) {
                return false;
            }
            owners[set] = person;
            return true;
        }

        boolean catchesCold(int voice) {
            if (hasCold(voice) || !isLiving(voice)) {
                return false;
            }
            colds |= 1 << voice;
            return true;
        }

        boolean getsWell(int voice) {
            if (!hasCold(voice)) {
                return false;
            }
            colds &= ~(1 << voice);
            return true;
        }

        // -- who is it

        int voicesThatFit(Tray row, int twos) {
            int voices = (1 << counts[VOICES]) - 1;
            for (int i = 0; i < twos && 2 * i + 1 < TRAY_LENGTH; i++) {
                int hour = (int) row.cells[2 * i];
                long subject = row.cells[2 * i + 1];
                for (int v = 0; v < counts[VOICES]; v++) {
                    if (placedAt(v, hour) != subject) {
                        voices &= ~(1 << v);
                    }
                }
            }
            return voices;
        }

        int hourThatParts(int voices) {
            int first = 0;
            int fewest = MOST + 1;
            for (int hour = 0; hour < 100; hour++) {
                int most = mostWithOne(voices, hour);
                if (most < fewest) {
                    fewest = most;
                    first = hour;
                }
            }
            return first;
        }

        private int mostWithOne(int voices, int hour) {
            int most = 0;
            for (int s = 0; s < counts[SUBJECTS]; s++) {
                int with = 0;
                for (int v = 0; v < counts[VOICES]; v++) {
                    if ((voices >> v & 1) != 0 && placedAt(v, hour) == s) {
                        with++;
                    }
                }
                most = Math.max(most, with);
            }
            return most;
        }

        // -- what to say

        int leastLike(int people, int subject) {
            int least = MOST_LIKE;
            for (int p = 0; p < counts[PEOPLE]; p++) {
                if ((people >> p & 1) != 0) {
                    least = Math.min(least, likes[p * MOST + subject]);
                }
            }
            return least;
        }

        private int likeOfAll(int people, int subject) {
            int all = 0;
            for (int p = 0; p < counts[PEOPLE]; p++) {
                if ((people >> p & 1) != 0) {
                    all += likes[p * MOST + subject];
                }
            }
            return all;
        }

        int subjectOfPeace(int people) {
            int first = 0;
            for (int s = 1; s < counts[SUBJECTS]; s++) {
                int more = leastLike(people, s) - leastLike(people, first);
                if (more > 0 || more == 0 && likeOfAll(people, s) > likeOfAll(people, first)) {
                    first = s;
                }
            }
            return first;
        }

        int fansAmong(int people, int subject) {
            int fans = 0;
            for (int p = 0; p < counts[PEOPLE]; p++) {
                if ((people >> p & 1) != 0 && likes[p * MOST + subject] >= 5) {
                    fans++;
                }
            }
            return fans;
        }

        int popularAmong(int people) {
            int first = 0;
            for (int s = 1; s < counts[SUBJECTS]; s++) {
                if (fansAmong(people, s) > fansAmong(people, first)) {
                    first = s;
                }
            }
            return first;
        }
    }

    /** STEPS and ends, one behind the other; a when is told by the WORD of its TEST. */
    private static final class Dials {
        static final int LENGTH = 2 * MOST_STEPS;
        final int[] words = new int[LENGTH];
        final int[] firsts = new int[LENGTH];
        final int[] seconds = new int[LENGTH];
        final int[] numbers = new int[LENGTH];
        /** Of a when, loop the place of its end; of an end that of its when, loop. */
        final int[] mates = new int[LENGTH];
        boolean there;
        int size;
        int steps;

        void clear() {
            there = false;
            size = 0;
            steps = 0;
        }

        void take(Dials other) {
            there = other.there;
            size = other.size;
            steps = other.steps;
            System.arraycopy(other.words, 0, words, 0, size);
            System.arraycopy(other.firsts, 0, firsts, 0, size);
            System.arraycopy(other.seconds, 0, seconds, 0, size);
            System.arraycopy(other.numbers, 0, numbers, 0, size);
            System.arraycopy(other.mates, 0, mates, 0, size);
        }
    }

    /** The TOKENS of a text, one at a time, and the first FAULT along it. */
    private static final class Text {
        /** A WORD of up to 8 letters is kept as a number, each letter as 1 to 26, so that no two are alike. */
        static final int LETTER_BITS = 5;
        final byte[] bytes;
        final long[] keywords = new long[KEYWORDS];
        int length;
        int at;
        int kind;
        int start;
        int value;
        long name;
        /** What takesNumber() and isNameOf() found last. */
        int number;
        int found;
        int fault;
        int faultPlace = NONE;

        Text(byte[] tape) {
            bytes = tape;
            int k = 0;
            for (int i = 0; i < KEYWORD_TEXT.length() && k < KEYWORDS; i++) {
                char c = KEYWORD_TEXT.charAt(i);
                if (c == ' ') {
                    k++;
                } else {
                    keywords[k] = keywords[k] << LETTER_BITS | c - 'a' + 1;
                }
            }
        }

        void open(int n) {
            length = Math.min(n, bytes.length);
            at = 0;
            fault = 0;
            faultPlace = NONE;
            advance();
        }

        void advance() {
            while (at < length && (bytes[at] == 10 || bytes[at] == 32)) {
                at++;
            }
            start = at;
            if (at >= length) {
                kind = OVER;
                return;
            }
            int c = bytes[at];
            if (c >= 'a' && c <= 'z') {
                advanceWord();
            } else if (c >= '0' && c <= '9') {
                advanceNumber();
            } else {
                kind = c == SEMICOLON || c == LESS || c == MORE || c == EQUAL ? c : BAD;
                at++;
            }
        }

        private void advanceWord() {
            name = 0;
            while (at < length && bytes[at] >= 'a' && bytes[at] <= 'z') {
                name = name << LETTER_BITS | bytes[at] - 'a' + 1;
                at++;
            }
            kind = at - start > 8 ? LONG_WORD : NAME;
            for (int i = 0; i < KEYWORDS && kind == NAME; i++) {
                if (keywords[i] == name) {
                    kind = KEYWORD + i;
                }
            }
        }

        private void advanceNumber() {
            value = 0;
            while (at < length && bytes[at] >= '0' && bytes[at] <= '9') {
                value = value * 10 + bytes[at] - '0';
                at++;
            }
            kind = at - start > 4 ? BAD : NUMBER;
        }

        boolean fail(int why) {
            fault = why;
            faultPlace = start;
            return false;
        }

        boolean refuses() {
            fault = kind == BAD ? 1 : 2;
            faultPlace = start;
            return false;
        }

        boolean takes(int wanted) {
            if (kind != wanted) {
                return refuses();
            }
            advance();
            return true;
        }

        boolean takesNumber(int least, int most) {
            if (kind != NUMBER) {
                return refuses();
            }
            if (value < least || value > most) {
                return fail(4);
            }
            number = value;
            advance();
            return true;
        }

        /** Stays at the NAME, as it may have another FAULT yet. */
        boolean isNameOf(Town town, int what) {
            if (kind != NAME) {
                return refuses();
            }
            found = town.find(what, name);
            return found != NONE || fail(3);
        }

        boolean takesName(Town town, int what) {
            if (!isNameOf(town, what)) {
                return false;
            }
            advance();
            return true;
        }

        boolean takesNewName(Town town, int what) {
            if (kind != NAME) {
                return refuses();
            }
            if (town.isTaken(name)) {
                return fail(3);
            }
            found = town.add(what, name);
            advance();
            return true;
        }
    }

    /** Reads a TOWN; what it has read into is of no use if there is a FAULT. */
    private static final class TownReader {
        final Text text;
        Town town;
        boolean oddsTold;

        TownReader(Text text) {
            this.text = text;
        }

        boolean readsInto(Town empty) {
            town = empty;
            town.clear();
            oddsTold = false;
            for (int part = 0; part <= MOST_TAPE && text.kind != OVER; part++) {
                if (!readsPart()) {
                    return false;
                }
            }
            return true;
        }

        private boolean readsPart() {
            switch (text.kind) {
                case ODDS:
                    return readsOdds();
                case SUBJECT:
                    return readsNew(SUBJECTS) && text.takes(SEMICOLON);
                case VOICE:
                    return readsNew(VOICES) && readsVoice(text.found);
                case PERSON:
                    return readsNew(PEOPLE) && readsPerson(text.found);
                case LIKES:
                    return readsLikes();
                case SET:
                    return readsNew(SETS) && readsSet(text.found);
                default:
                    return text.refuses();
            }
        }

        private boolean readsNew(int kind) {
            if (town.isFull(kind)) {
                return text.fail(6);
            }
            text.advance();
            return text.takesNewName(town, kind);
        }

        private boolean readsOdds() {
            if (oddsTold) {
                return text.fail(5);
            }
            oddsTold = true;
            text.advance();
            if (!text.takesNumber(0, SIXTEENTHS)) {
                return false;
            }
            town.odds = text.number;
            return text.takes(SEMICOLON);
        }

        private boolean readsVoice(int voice) {
            if (!text.takes(AGE) || !text.takesNumber(0, 119)) {
                return false;
            }
            town.ages[voice] = text.number;
            if (!text.takes(LIFE) || !text.takesNumber(1, 120)) {
                return false;
            }
            town.lives[voice] = text.number;
            return text.takes(SAYS) && readsRow(voice) && text.takes(SEMICOLON);
        }

        private boolean readsRow(int voice) {
            for (int k = 0; k <= MOST_ROW; k++) {
                if (k > 0 && text.kind == SEMICOLON) {
                    return true;
                }
                if (!text.isNameOf(town, SUBJECTS)) {
                    return false;
                }
                if (k == MOST_ROW) {
                    return text.fail(6);
                }
                town.addToRow(voice, text.found);
                text.advance();
            }
            return true;
        }

        private boolean readsPerson(int person) {
            if (text.kind == COINS) {
                text.advance();
                if (!text.takesNumber(0, 999)) {
                    return false;
                }
                town.coins[person] = text.number;
            }
            return text.takes(SEMICOLON);
        }

        private boolean readsLikes() {
            text.advance();
            if (!text.takesName(town, PEOPLE)) {
                return false;
            }
            int person = text.found;
            if (!text.takesName(town, SUBJECTS)) {
                return false;
            }
            int subject = text.found;
            if (!text.takesNumber(0, MOST_LIKE)) {
                return false;
            }
            town.likes[person * MOST + subject] = text.number;
            return text.takes(SEMICOLON);
        }

        private boolean readsSet(int set) {
            if (!text.takes(GETS) || !text.takesName(town, VOICES)) {
                return false;
            }
            town.tied[set] = text.found;
            if (text.kind == FLAW && !readsFlaw(set)) {
                return false;
            }
            if (text.kind == FOR) {
                text.advance();
                if (!text.takesName(town, PEOPLE)) {
                    return false;
                }
                town.owners[set] = text.found;
            }
            return text.takes(SEMICOLON);
        }

        private boolean readsFlaw(int set) {
            text.advance();
            if (!text.isNameOf(town, VOICES)) {
                return false;
            }
            if (text.found == town.tied[set]) {
                return text.fail(5);
            }
            town.flaws[set] = text.found;
            text.advance();
            return true;
        }
    }

    /** Reads DIALS for a TOWN; what is made is of no use if there is a FAULT. */
    private static final class DialsReader {
        final Text text;
        final Dials made = new Dials();
        /** The places of the whens and loops that have no end yet. */
        final int[] open = new int[MOST_WITHIN];
        int within;
        Town town;

        DialsReader(Text text) {
            this.text = text;
        }

        boolean readsFor(Town names) {
            town = names;
            made.clear();
            within = 0;
            for (int i = 0; i <= MOST_TAPE && text.kind != OVER; i++) {
                if (!readsNext()) {
                    return false;
                }
            }
            made.there = true;
            return within == 0 || text.refuses();
        }

        private boolean readsNext() {
            int word = text.kind;
            if (word == END && within > 0) {
                return readsEnd();
            }
            if (!isStep(word)) {
                return text.refuses();
            }
            if (made.steps >= MOST_STEPS || made.size >= Dials.LENGTH) {
                return text.fail(6);
            }
            if ((word == WHEN || word == LOOP) && within >= MOST_WITHIN) {
                return text.fail(7);
            }
            int place = adds(word);
            text.advance();
            if (word == WHEN && !readsTestWord(place)) {
                return false;
            }
            if (!readsRest(place)) {
                return false;
            }
            // The NUMBER read last: that of this STEP, if it has one; else it is never asked for.
            made.numbers[place] = text.number;
            return text.takes(SEMICOLON);
        }

        private static boolean isStep(int word) {
            return word >= HOUR && word <= WHEN || word == LOOP || word == STOP;
        }

        private int adds(int word) {
            int place = made.size;
            made.words[place] = word;
            made.size++;
            made.steps++;
            if (word == WHEN || word == LOOP) {
                open[within] = place;
                within++;
            }
            return place;
        }

        private boolean readsEnd() {
            if (made.size >= Dials.LENGTH) {
                return text.refuses();
            }
            within--;
            int place = made.size;
            made.words[place] = END;
            made.mates[place] = open[within];
            made.mates[open[within]] = place;
            made.size++;
            text.advance();
            return text.takes(SEMICOLON);
        }

        private boolean readsTestWord(int place) {
            int word = text.kind;
            if (word != GLAD && word != LIVES && word != OWNS) {
                return text.refuses();
            }
            made.words[place] = word;
            text.advance();
            return true;
        }

        private boolean readsRest(int place) {
            switch (made.words[place]) {
                case HOUR:
                    return text.takesNumber(1, 48);
                case YEAR:
                    return text.takesNumber(1, 20);
                case SELL:
                    return readsFirst(place, SETS) && readsSecond(place, PEOPLE) && text.takesNumber(0, MOST_PRICE);
                case GIVE:
                    return readsFirst(place, SETS) && readsSecond(place, PEOPLE);
                case COLD:
                case WELL:
                case LIVES:
                    return readsFirst(place, VOICES);
                case GLAD:
                    return readsFirst(place, PEOPLE) && readsCompares(place) && text.takesNumber(0, 9999);
                case OWNS:
                    return readsFirst(place, PEOPLE) && readsSecond(place, SETS);
                case LOOP:
                    return text.takesNumber(1, 99);
                default:
                    return true;
            }
        }

        private boolean readsCompares(int place) {
            int sign = text.kind;
            if (sign != LESS && sign != MORE && sign != EQUAL) {
                return text.refuses();
            }
            made.seconds[place] = sign;
            text.advance();
            return true;
        }

        private boolean readsFirst(int place, int kind) {
            if (!text.isNameOf(town, kind)) {
                return false;
            }
            made.firsts[place] = text.found;
            text.advance();
            return true;
        }

        private boolean readsSecond(int place, int kind) {
            if (!text.isNameOf(town, kind)) {
                return false;
            }
            made.seconds[place] = text.found;
            text.advance();
            return true;
        }
    }

    /** Who gets which SET. */
    private static final class Deals {
        final int[] worths = new int[MOST * MOST];
        /** For PEOPLE (or turns) from one on and a set of SETS that are gone the most that can be had. */
        final int[] ahead = new int[(MOST + 1) * WAYS];
        final int[] comes = new int[MOST];
        final int[] goes = new int[MOST];
        final int[] points = new int[MOST];

        private void weigh(Town town) {
            for (int p = 0; p < town.counts[PEOPLE]; p++) {
                for (int s = 0; s < town.counts[SETS]; s++) {
                    worths[p * MOST + s] = town.worthTo(p, s);
                }
            }
        }

        // -- BEST

        int findBest(Town town, int people) {
            weigh(town);
            int last = town.counts[PEOPLE];
            int ways = 1 << town.counts[SETS];
            for (int gone = 0; gone < ways; gone++) {
                ahead[last * WAYS + gone] = 0;
            }
            for (int p = last - 1; p >= 0; p--) {
                for (int gone = 0; gone < ways; gone++) {
                    int without = ahead[(p + 1) * WAYS + gone];
                    boolean isIn = (people >> p & 1) != 0;
                    ahead[p * WAYS + gone] = isIn ? Math.max(without, mostBySet(town, p, gone)) : without;
                }
            }
            return ahead[0];
        }

        private int mostBySet(Town town, int person, int gone) {
            int most = 0;
            for (int s = 0; s < town.counts[SETS]; s++) {
                if ((gone >> s & 1) == 0) {
                    most = Math.max(most, bySet(person, gone, s));
                }
            }
            return most;
        }

        private int bySet(int person, int gone, int set) {
            return worths[person * MOST + set] + ahead[(person + 1) * WAYS + (gone | 1 << set)];
        }

        int findBestSet(Town town, int people, int person) {
            findBest(town, people);
            int gone = 0;
            int got = NONE;
            for (int p = 0; p <= person && p < MOST; p++) {
                if ((people >> p & 1) != 0) {
                    got = firstBest(town, p, gone);
                    gone = got == NONE ? gone : gone | 1 << got;
                }
            }
            return got;
        }

        private int firstBest(Town town, int person, int gone) {
            for (int s = 0; s < town.counts[SETS]; s++) {
                if ((gone >> s & 1) == 0 && bySet(person, gone, s) == ahead[person * WAYS + gone]) {
                    return s;
                }
            }
            return NONE;
        }

        // -- TRADES

        void makeTrades(Town town) {
            weigh(town);
            int people = town.counts[PEOPLE];
            int left = 0;
            for (int p = 0; p < people; p++) {
                comes[p] = firstSetOf(town, p);
                goes[p] = comes[p];
                if (comes[p] != NONE) {
                    left |= 1 << p;
                }
            }
            for (int round = 0; round < MOST && left != 0; round++) {
                for (int p = 0; p < people; p++) {
                    if ((left >> p & 1) != 0) {
                        points[p] = pointsTo(people, left, p);
                    }
                }
                left &= ~leaveInRings(people, left);
            }
        }

        private static int firstSetOf(Town town, int person) {
            for (int s = 0; s < town.counts[SETS]; s++) {
                if (town.owners[s] == person) {
                    return s;
                }
            }
            return NONE;
        }

        /** The PERSON who came with the SET that a PERSON would go with. */
        private int pointsTo(int people, int left, int person) {
            int to = person;
            for (int p = 0; p < people; p++) {
                if ((left >> p & 1) != 0 && isBetter(person, p, to)) {
                    to = p;
                }
            }
            return to;
        }

        private boolean isBetter(int person, int p, int to) {
            int more = worths[person * MOST + comes[p]] - worths[person * MOST + comes[to]];
            return more > 0 || more == 0 && to != person && comes[p] < comes[to];
        }

        private int leaveInRings(int people, int left) {
            int gone = 0;
            for (int p = 0; p < people; p++) {
                if ((left >> p & 1) != 0 && isInRing(p)) {
                    goes[p] = comes[points[p]];
                    gone |= 1 << p;
                }
            }
            return gone;
        }

        private boolean isInRing(int person) {
            int p = points[person];
            for (int i = 0; i < MOST && p != person; i++) {
                p = points[p];
            }
            return p == person;
        }

        // -- ENVY, PICKS

        /** What is WORTH the most to a PERSON of what another one (or he himself) owns; 0 without. */
        int mostWorth(Town town, int person, int owner) {
            int most = 0;
            for (int s = 0; s < town.counts[SETS]; s++) {
                if (town.owners[s] == owner) {
                    most = Math.max(most, town.worthTo(person, s));
                }
            }
            return most;
        }

        /** The SET of that one in place k of a row of PEOPLE, or NONE. */
        int findPick(Town town, Tray row, int k) {
            weigh(town);
            int gone = 0;
            int got = NONE;
            for (int i = 0; i <= k && i < MOST; i++) {
                got = firstMost(town, (int) row.cells[i], gone);
                gone = got == NONE ? gone : gone | 1 << got;
            }
            return got;
        }

        private int firstMost(Town town, int person, int gone) {
            int first = NONE;
            for (int s = 0; s < town.counts[SETS]; s++) {
                boolean isLeft = (gone >> s & 1) == 0;
                if (isLeft && (first == NONE || worths[person * MOST + s] > worths[person * MOST + first])) {
                    first = s;
                }
            }
            return first;
        }

        // -- GAME

        int playGame(Town town, int person, int other, int turns) {
            weigh(town);
            int free = town.setsOf(NONE);
            int ways = 1 << town.counts[SETS];
            for (int gone = 0; gone < ways; gone++) {
                ahead[turns * WAYS + gone] = 0;
            }
            for (int turn = turns - 1; turn >= 0; turn--) {
                for (int gone = 0; gone < ways; gone++) {
                    int value = turn % 2 == 0 ? firstsBest(free, person, turn, gone) : secondsBest(free, other, turn, gone);
                    ahead[turn * WAYS + gone] = value;
                }
            }
            return ahead[0];
        }

        private int firstsBest(int free, int person, int turn, int gone) {
            int most = ahead[(turn + 1) * WAYS + gone];
            for (int s = 0; s < MOST; s++) {
                if (((free & ~gone) >> s & 1) != 0) {
                    most = Math.max(most, worths[person * MOST + s] + ahead[(turn + 1) * WAYS + (gone | 1 << s)]);
                }
            }
            return most;
        }

        private int secondsBest(int free, int other, int turn, int gone) {
            int least = ahead[(turn + 1) * WAYS + gone];
            for (int s = 0; s < MOST; s++) {
                if (((free & ~gone) >> s & 1) != 0) {
                    least = Math.min(least, ahead[(turn + 1) * WAYS + (gone | 1 << s)] - worths[other * MOST + s]);
                }
            }
            return least;
        }

        int findMove(Town town, int person, int other, int turns) {
            int value = playGame(town, person, other, turns);
            int free = town.setsOf(NONE);
            for (int s = 0; s < MOST; s++) {
                if ((free >> s & 1) != 0 && worths[person * MOST + s] + ahead[WAYS + (1 << s)] == value) {
                    return s;
                }
            }
            return NONE;
        }
    }

    /** Goes through the DIALS of a TOWN and changes it by them. */
    private static final class Player {
        /** How many rounds of a loop are left, by its place. */
        final int[] rounds = new int[Dials.LENGTH];
        int drawn;
        int steps;
        int missed;
        int hours;
        int died;
        boolean cut;

        void play(Town town, int seed) {
            Dials dials = town.dials;
            drawn = seed;
            steps = 0;
            missed = 0;
            hours = 0;
            died = 0;
            cut = false;
            int at = 0;
            for (int turn = 0; turn < 1000000 && at < dials.size; turn++) {
                int word = dials.words[at];
                if (word == END) {
                    at = placeBehindEnd(dials, at);
                    continue;
                }
                if (steps >= MOST_LIVED) {
                    cut = true;
                    return;
                }
                steps++;
                if (word == STOP) {
                    return;
                }
                if (word >= GLAD && word <= LOOP) {
                    at = placeBehindOpener(town, at);
                } else {
                    missed += does(town, at) ? 0 : 1;
                    at++;
                }
            }
        }

        private int placeBehindEnd(Dials dials, int at) {
            int opener = dials.mates[at];
            if (dials.words[opener] == LOOP && rounds[opener] > 1) {
                rounds[opener]--;
                return opener + 1;
            }
            return at + 1;
        }

        private int placeBehindOpener(Town town, int at) {
            if (town.dials.words[at] == LOOP) {
                rounds[at] = town.dials.numbers[at];
                return at + 1;
            }
            return holds(town, at) ? at + 1 : town.dials.mates[at] + 1;
        }

        private static boolean holds(Town town, int at) {
            int first = town.dials.firsts[at];
            int second = town.dials.seconds[at];
            int word = town.dials.words[at];
            if (word == LIVES) {
                return town.isLiving(first);
            }
            if (word == OWNS) {
                return town.owners[second] == first;
            }
            int glad = town.glad[first];
            int number = town.dials.numbers[at];
            if (second == LESS) {
                return glad < number;
            }
            return second == MORE ? glad > number : glad == number;
        }

        private boolean does(Town town, int at) {
            int first = town.dials.firsts[at];
            int second = town.dials.seconds[at];
            int number = town.dials.numbers[at];
            switch (town.dials.words[at]) {
                case HOUR:
                    return doesHours(town, number);
                case YEAR:
                    return doesYears(town, number);
                case SELL:
                    return town.makesSale(first, second, number);
                case GIVE:
                    return town.makesGift(first, second);
                case COLD:
                    return town.catchesCold(first);
                case WELL:
                    return town.getsWell(first);
                default:
                    return doesAny(town);
            }
        }

        private boolean doesHours(Town town, int number) {
            if (!town.hasHours(number)) {
                return false;
            }
            town.passHours(number);
            hours += number;
            return true;
        }

        private boolean doesYears(Town town, int number) {
            if (!town.hasYears(number)) {
                return false;
            }
            died += Integer.bitCount(town.passYears(number));
            return true;
        }

        /** Of a living VOICE nothing is MISSED, even if it is as it was. */
        private boolean doesAny(Town town) {
            int voices = town.counts[VOICES];
            if (voices <= 0) {
                return false;
            }
            int voice = draw(voices);
            boolean cold = draw(SIXTEENTHS) < town.odds;
            if (!town.isLiving(voice)) {
                return false;
            }
            if (cold) {
                town.catchesCold(voice);
            } else {
                town.getsWell(voice);
            }
            return true;
        }

        private int draw(int by) {
            drawn = (drawn * 2971 + 10847) % 65536;
            return by > 0 ? drawn / 8 % by : 0;
        }
    }
}
