import java.util.Arrays;

/**
 * A street of HOSTS and GUESTS, in which a GUEST who is asked by several goes where the CUSTOM says.
 * What each method promises stands in the document (README.md tells where); inside, nobody is NOBODY, on the
 * face he is NONE.
 */
public final class SoleGuest {
    public static final int NONE = -1;
    public static final int NOTHING = -1000000;

    private static final int HOST_ROOM = 5;
    private static final int GUEST_ROOM = 6;
    private static final int LAW_ROOM = 6;
    private static final int TAPE_ROOM = 400;
    private static final int IMAGE_ROOM = 2;
    private static final int EVENING_ROOM = 40;

    /** Nobody stands above all GUESTS in every order, so he is the number behind the last GUEST. */
    private static final int NOBODY = GUEST_ROOM;
    private static final int CHOICES = GUEST_ROOM + 1;
    private static final int PAIRS = HOST_ROOM * GUEST_ROOM;
    private static final int CELLS = HOST_ROOM * CHOICES;
    /** CHOICES multiplied by itself as often as there is room for HOSTS. */
    private static final int ALL_ASKINGS = 16807;

    private static final int TENTHS = 10;
    private static final int SIXTIETHS = 60;
    private static final int FARTHEST = 99;
    private static final int MANNERS = 6;
    private static final int CUSTOM_LOWEST = 1;
    private static final int CUSTOM_LOT = 2;

    private static final int BAD_NUMBER = -1;
    private static final int NO_SUCH = -2;
    private static final int NOT_AS_IT_STANDS = -3;
    private static final int NO_ROOM = -5;
    private static final int BAD_TEXT = -6;

    private final Street town = new Street();
    private final Street[] images = new Street[IMAGE_ROOM];
    private final boolean[] imageKept = new boolean[IMAGE_ROOM];
    private final Tape tape = new Tape();
    private final LawReader reader = new LawReader();
    private final Judge judge = new Judge();
    private final Table table = new Table();
    private final Walk walk = new Walk();
    private final Survey survey = new Survey();
    private final Turns turns = new Turns();
    private final Chances chances = new Chances();
    private final Year latest = new Year();
    private final int[] asks = new int[HOST_ROOM];
    private final int[] unmet = new int[PAIRS];
    private final int[] refusals = new int[5];
    private int lastRefusal = 0;
    private int lastFault = NONE;
    private int lastSmudged = 0;

    public SoleGuest() {
        for (int k = 0; k < IMAGE_ROOM; k++) {
            images[k] = new Street();
        }
    }

    public int host(int street) {
        if (street < 0 || street > 9) {
            return refuse(BAD_NUMBER);
        }
        if (town.hosts >= HOST_ROOM) {
            return refuse(NO_ROOM);
        }
        town.streets[town.hosts] = street;
        town.hosts++;
        return grant(town.hosts - 1);
    }

    public int guest(int wit) {
        if (wit < 0 || wit > 9) {
            return refuse(BAD_NUMBER);
        }
        if (town.guests >= GUEST_ROOM) {
            return refuse(NO_ROOM);
        }
        town.wits[town.guests] = wit;
        town.guests++;
        return grant(town.guests - 1);
    }

    public int base(int host, int guest, int base) {
        if (isTooFar(base)) {
            refuse(BAD_NUMBER);
            return NOTHING;
        }
        if (!town.hasPair(host, guest)) {
            refuse(NO_SUCH);
            return NOTHING;
        }
        int was = town.bases[pair(host, guest)];
        town.bases[pair(host, guest)] = base;
        return grant(was);
    }

    public int of(int host, int guest, int what) {
        if (!town.hasPair(host, guest)) {
            return NOTHING;
        }
        switch (what) {
            case 0:
                return town.bases[pair(host, guest)];
            case 1:
                fillTable();
                return table.worth[cell(host, guest)];
            case 2:
                fillTable();
                return table.barred[cell(host, guest)] ? 1 : 0;
            default:
                return NOTHING;
        }
    }

    public int terms(int what, int value) {
        if (what == 0 && value >= 0 && value <= CUSTOM_LOT) {
            int was = town.custom;
            town.custom = value;
            return grant(was);
        }
        if (what == 1 && !isTooFar(value)) {
            int was = town.lone;
            town.lone = value;
            return grant(was);
        }
        refuse(BAD_NUMBER);
        return NOTHING;
    }

    public int feed(int a, int b, int c, int d, int e) {
        if (tape.length + 20 > TAPE_ROOM) {
            return NONE;
        }
        tape.add(a);
        tape.add(b);
        tape.add(c);
        tape.add(d);
        tape.add(e);
        return tape.length;
    }

    public int end(int n) {
        if (n < 0 || n > tape.length) {
            return NONE;
        }
        tape.length = n;
        return n;
    }

    public int row() {
        if (tape.length == 0) {
            return refuse(BAD_TEXT);
        }
        int came = 0;
        int smudges = 0;
        for (int at = 0; at < tape.length; at += 3) {
            if (takeRow(at)) {
                came++;
            } else {
                smudges++;
            }
        }
        tape.length = 0;
        lastSmudged = smudges;
        return grant(came);
    }

    public int smudged() {
        return lastSmudged;
    }

    public int law() {
        int length = tape.length;
        tape.length = 0;
        if (town.lawCount >= LAW_ROOM) {
            return refuse(NO_ROOM);
        }
        Law read = reader.read(tape.bytes, length);
        lastFault = reader.faultAt;
        if (read == null) {
            return refuse(BAD_TEXT);
        }
        town.laws[town.lawCount] = read;
        town.lawCount++;
        return grant(town.lawCount - 1);
    }

    public int fault() {
        return lastFault;
    }

    public int force(int law) {
        if (law < NONE || law >= town.lawCount) {
            return refuse(NO_SUCH);
        }
        int was = town.inForce;
        town.inForce = law;
        return grant(was);
    }

    public int ask(int host, int guest) {
        if (!town.hasHost(host) || guest != NONE && !town.hasGuest(guest)) {
            return refuse(NO_SUCH);
        }
        int was = town.told[host];
        town.told[host] = guest == NONE ? NOBODY : guest;
        return grant(shown(was));
    }

    public int asked(int guest) {
        if (!town.hasGuest(guest)) {
            return NONE;
        }
        takeTold();
        return Integer.bitCount(table.askersOf(asks, guest));
    }

    public int goes(int guest) {
        if (!town.hasGuest(guest)) {
            return NONE;
        }
        takeTold();
        int askers = table.askersOf(asks, guest);
        if (askers == 0 || Integer.bitCount(askers) > 1 && table.custom != CUSTOM_LOWEST) {
            return NONE;
        }
        return lowestIn(askers);
    }

    public int gain(int host) {
        if (host != NONE && !town.hasHost(host)) {
            return NOTHING;
        }
        takeTold();
        if (host != NONE) {
            return table.gainIf(asks, host, asks[host]);
        }
        int sum = 0;
        for (int h = 0; h < town.hosts; h++) {
            sum += table.gainIf(asks, h, asks[h]);
        }
        return sum;
    }

    public int most(int what) {
        if (what != 0 && what != 1) {
            return NOTHING;
        }
        surveyAll();
        return what == 0 ? survey.mostSum : survey.mostCount;
    }

    public int mostOf(int host) {
        if (!town.hasHost(host)) {
            return NONE;
        }
        surveyAll();
        return shown(survey.askedBy(host, survey.mostFirst));
    }

    public int fair(int what) {
        if (what != 0 && what != 1 || town.hosts == 0) {
            return NOTHING;
        }
        surveyAll();
        return what == 0 ? survey.fairLeast : survey.fairCount;
    }

    public int steady() {
        surveyAll();
        return survey.steadyCount;
    }

    public int steadyOf(int i, int host) {
        if (!town.hasHost(host) || i < 0) {
            return NONE;
        }
        surveyAll();
        int askings = survey.steadyAt(i);
        return askings == NONE ? NONE : shown(survey.askedBy(host, askings));
    }

    public int steadySum(int what) {
        if (what != 0 && what != 1) {
            return NOTHING;
        }
        surveyAll();
        if (survey.steadyCount == 0) {
            return NOTHING;
        }
        return what == 0 ? survey.steadyGreatest : survey.steadyLeast;
    }

    public int answers(int host) {
        if (!town.hasHost(host)) {
            return NONE;
        }
        takeTold();
        return table.answerBits(asks, host);
    }

    public int rounds(int what) {
        if (what != 0 && what != 1) {
            return NONE;
        }
        takeTold();
        turns.play(table, asks);
        if (what == 0) {
            return turns.played;
        }
        return turns.cameToRest ? 1 : 0;
    }

    public int turned(int host) {
        if (!town.hasHost(host)) {
            return NONE;
        }
        takeTold();
        turns.play(table, asks);
        return shown(turns.asks[host]);
    }

    public int breaks(int hosts) {
        if (hosts <= 0 || hosts >= 1 << town.hosts) {
            return NONE;
        }
        takeTold();
        return walk.allCanGain(table, asks, hosts) ? 1 : 0;
    }

    public int breaker() {
        takeTold();
        for (int set = 1; set < 1 << town.hosts; set++) {
            if (walk.allCanGain(table, asks, set)) {
                return set;
            }
        }
        return NONE;
    }

    public int dice(int host, int guest, int tenths) {
        if (tenths < 0 || tenths > TENTHS) {
            return refuse(BAD_NUMBER);
        }
        if (!town.hasPair(host, guest)) {
            return refuse(NO_SUCH);
        }
        int was = town.tenths[pair(host, guest)];
        if (town.tenthsOf(host) - was + tenths > TENTHS) {
            return refuse(NOT_AS_IT_STANDS);
        }
        town.tenths[pair(host, guest)] = tenths;
        return grant(was);
    }

    public long mean(int host) {
        if (host != NONE && !town.hasHost(host)) {
            return NOTHING;
        }
        fillTable();
        chances.takeDice(table, town);
        if (host != NONE) {
            return chances.byDice(table, host);
        }
        long sum = 0;
        for (int h = 0; h < town.hosts; h++) {
            sum += chances.byDice(table, h);
        }
        return sum;
    }

    public int restless() {
        fillTable();
        chances.takeDice(table, town);
        for (int h = 0; h < town.hosts; h++) {
            if (chances.bestAlone(table, h) > chances.byDice(table, h)) {
                return h;
            }
        }
        return NONE;
    }

    public long alike(int what) {
        if (what != 0 && what != 1) {
            return NOTHING;
        }
        fillTable();
        chances.weighAlike(table);
        return what == 0 ? chances.alikeSum(table) : chances.alikeRows();
    }

    public int alikeOf(int guest) {
        if (!town.hasGuest(guest)) {
            return NONE;
        }
        fillTable();
        chances.weighAlike(table);
        return chances.firstAlike(table, guest);
    }

    public int manner(int host, int manner) {
        if (manner < 0 || manner >= MANNERS) {
            return refuse(BAD_NUMBER);
        }
        if (!town.hasHost(host)) {
            return refuse(NO_SUCH);
        }
        int was = town.manners[host];
        town.manners[host] = manner;
        return grant(was);
    }

    public int year(int seed, int n) {
        if (seed < 0 || seed > 1000000 || n < 1 || n > EVENING_ROOM) {
            return refuse(BAD_NUMBER);
        }
        return grant(latest.live(town, judge, seed, n));
    }

    public int dined(int evening, int host, int what) {
        if (evening < 0 || evening >= latest.evenings || host < 0 || host >= latest.hosts) {
            return NONE;
        }
        if (what == 0) {
            return shown(latest.askedOn[evening * HOST_ROOM + host]);
        }
        return what == 1 ? shown(latest.dinedOn[evening * HOST_ROOM + host]) : NONE;
    }

    public int earned(int host) {
        if (host < 0 || host >= latest.hosts) {
            return NOTHING;
        }
        return latest.sums[host];
    }

    public int settled() {
        if (latest.evenings == 0) {
            return NONE;
        }
        int first = latest.evenings - 1;
        while (first > 0 && latest.askedAlike(first - 1, first)) {
            first--;
        }
        return first;
    }

    public int image(int k) {
        if (k < 0 || k >= IMAGE_ROOM) {
            return refuse(BAD_NUMBER);
        }
        images[k].become(town);
        imageKept[k] = true;
        return grant(0);
    }

    public int back(int k) {
        if (k < 0 || k >= IMAGE_ROOM) {
            return refuse(BAD_NUMBER);
        }
        if (!imageKept[k]) {
            return refuse(NO_SUCH);
        }
        town.become(images[k]);
        return grant(0);
    }

    public int count(int what) {
        switch (what) {
            case 0:
                return town.hosts;
            case 1:
                return town.guests;
            case 2:
                return town.lawCount;
            case 3:
                return tape.length;
            case 9:
                return town.inForce;
            case 10:
                return town.custom;
            default:
                return what >= 4 && what <= 8 ? refusals[what - 4] : NONE;
        }
    }

    public int status() {
        return lastRefusal;
    }

    private int refuse(int by) {
        lastRefusal = by;
        refusals[placeOf(by)]++;
        return by;
    }

    private int grant(int answer) {
        lastRefusal = 0;
        return answer;
    }

    private static int placeOf(int refusal) {
        switch (refusal) {
            case BAD_NUMBER:
                return 0;
            case NO_SUCH:
                return 1;
            case NOT_AS_IT_STANDS:
                return 2;
            case NO_ROOM:
                return 3;
            default:
                return 4;
        }
    }

    private boolean takeRow(int at) {
        if (at + 2 >= tape.length) {
            return false;
        }
        int host = tape.bytes[at];
        int guest = tape.bytes[at + 1];
        int base = tape.bytes[at + 2] - 100;
        if (isTooFar(base) || !town.hasPair(host, guest)) {
            return false;
        }
        town.bases[pair(host, guest)] = base;
        return true;
    }

    private void fillTable() {
        table.fill(town, judge, unmet, 0);
    }

    private void takeTold() {
        table.fill(town, judge, unmet, 0);
        for (int h = 0; h < town.hosts; h++) {
            asks[h] = table.allowed(h, town.told[h]);
        }
    }

    private void surveyAll() {
        table.fill(town, judge, unmet, 0);
        survey.look(table);
    }

    private static boolean isTooFar(int value) {
        return value < -FARTHEST || value > FARTHEST;
    }

    private static int pair(int host, int guest) {
        return host * GUEST_ROOM + guest;
    }

    private static int cell(int host, int choice) {
        return host * CHOICES + choice;
    }

    private static int shown(int choice) {
        return choice == NOBODY ? NONE : choice;
    }

    /** The lowest of HOSTS or choices as bits; NOBODY, if there is none. */
    private static int lowestIn(int bits) {
        for (int i = 0; i < NOBODY; i++) {
            if ((bits >> i & 1) == 1) {
                return i;
            }
        }
        return NOBODY;
    }

    /** ASKINGS as one number. */
    private static int packed(int[] asks, int hosts) {
        int all = 0;
        for (int h = 0; h < hosts; h++) {
            all = all * CHOICES + asks[h];
        }
        return all;
    }

    /** All that an IMAGE keeps. */
    private static final class Street {
        private int hosts = 0;
        private int guests = 0;
        private int custom = 0;
        private int lone = 0;
        private int lawCount = 0;
        private int inForce = NONE;
        private final int[] streets = new int[HOST_ROOM];
        private final int[] wits = new int[GUEST_ROOM];
        private final int[] bases = new int[PAIRS];
        private final int[] told = new int[HOST_ROOM];
        private final int[] tenths = new int[PAIRS];
        private final int[] manners = new int[HOST_ROOM];
        private final Law[] laws = new Law[LAW_ROOM];

        private Street() {
            for (int h = 0; h < HOST_ROOM; h++) {
                told[h] = NOBODY;
            }
        }

        private boolean hasHost(int host) {
            return host >= 0 && host < hosts;
        }

        private boolean hasGuest(int guest) {
            return guest >= 0 && guest < guests;
        }

        private boolean hasPair(int host, int guest) {
            return hasHost(host) && hasGuest(guest);
        }

        private int tenthsOf(int host) {
            int sum = 0;
            for (int g = 0; g < guests; g++) {
                sum += tenths[pair(host, g)];
            }
            return sum;
        }

        /** LAWS never change once read, so both may hold the same ones. */
        private void become(Street other) {
            hosts = other.hosts;
            guests = other.guests;
            custom = other.custom;
            lone = other.lone;
            lawCount = other.lawCount;
            inForce = other.inForce;
            System.arraycopy(other.streets, 0, streets, 0, HOST_ROOM);
            System.arraycopy(other.wits, 0, wits, 0, GUEST_ROOM);
            System.arraycopy(other.bases, 0, bases, 0, PAIRS);
            System.arraycopy(other.told, 0, told, 0, HOST_ROOM);
            System.arraycopy(other.tenths, 0, tenths, 0, PAIRS);
            System.arraycopy(other.manners, 0, manners, 0, HOST_ROOM);
            for (int i = 0; i < LAW_ROOM; i++) {
                laws[i] = other.laws[i];
            }
        }
    }

    private static final class Tape {
        private final int[] bytes = new int[TAPE_ROOM];
        private int length = 0;

        private void add(int four) {
            for (int shift = 24; shift >= 0 && length < TAPE_ROOM; shift -= 8) {
                bytes[length] = four >>> shift & 255;
                length++;
            }
        }
    }

    /**
     * A LAW as steps for a Judge: the low four bits tell which step, those above them its number (a NUMBER, a word,
     * or where to go on).
     */
    private static final class Law {
        private static final int NUMBER = 0;
        private static final int WORD = 1;
        private static final int PLUS = 2;
        private static final int MINUS = 3;
        private static final int TIMES = 4;
        private static final int OVER = 5;
        private static final int LESS = 6;
        private static final int MORE = 7;
        private static final int SAME = 8;
        private static final int NOT = 9;
        private static final int OR = 10;
        private static final int AND = 11;
        private static final int CLAUSE = 12;
        private static final int WORTH = 13;
        private static final int BARS = 14;

        private final int[] steps;

        private Law(int[] steps) {
            this.steps = steps;
        }
    }

    /** Reads a TEXT into a LAW: first its TOKENS, then the grammar of the document over them. */
    private static final class LawReader {
        /** Kinds of TOKENS; a single byte that is no letter and no digit is a kind by itself, 0 .. 255. */
        private static final int END = 256;
        private static final int DIGITS = 257;
        private static final int UNKNOWN = 258;
        private static final int IF = 259;
        private static final int OR = 260;
        private static final int AND = 261;
        private static final int NOT = 262;
        private static final int WORTH = 263;
        private static final int BARS = 264;
        /** The words that are PARTS follow one another from here, as a Judge numbers them. */
        private static final int FIRST_PART = 265;
        private static final int LAST_PART = 271;

        private static final int MOST_CLAUSES = 12;
        private static final int MOST_PARTS = 50;
        private static final int MOST_BRACKETS = 8;
        private static final int LARGEST = 1000;

        private final int[] kinds = new int[TAPE_ROOM + 1];
        private final int[] places = new int[TAPE_ROOM + 1];
        private final int[] numbers = new int[TAPE_ROOM + 1];
        private final int[] steps = new int[TAPE_ROOM + 1];
        private int at = 0;
        private int size = 0;
        private int parts = 0;
        private int faultAt = NONE;

        /** null, if there is a FAULT. */
        private Law read(int[] text, int length) {
            cut(text, Math.min(length, TAPE_ROOM));
            at = 0;
            size = 0;
            parts = 0;
            faultAt = NONE;
            boolean fits = readClause();
            for (int clauses = 1; fits && clauses <= MOST_CLAUSES && kindHere() == ';'; clauses++) {
                at++;
                fits = clauses < MOST_CLAUSES ? readClause() : failHere();
            }
            if (fits && kindHere() != END) {
                fits = failHere();
            }
            return fits ? new Law(Arrays.copyOf(steps, size)) : null;
        }

        private void cut(int[] text, int length) {
            int tokens = 0;
            int from = 0;
            while (from < length) {
                int to = from + 1;
                if (isLetter(text[from])) {
                    while (to < length && isLetter(text[to])) {
                        to++;
                    }
                    kinds[tokens] = wordKind(text, from, to);
                } else if (isDigit(text[from])) {
                    while (to < length && isDigit(text[to])) {
                        to++;
                    }
                    kinds[tokens] = DIGITS;
                    numbers[tokens] = numberIn(text, from, to);
                } else {
                    kinds[tokens] = text[from];
                }
                places[tokens] = from;
                if (text[from] != ' ') {
                    tokens++;
                }
                from = to;
            }
            kinds[tokens] = END;
            places[tokens] = length;
        }

        private static boolean isLetter(int sign) {
            return sign >= 'a' && sign <= 'z';
        }

        private static boolean isDigit(int sign) {
            return sign >= '0' && sign <= '9';
        }

        /** What is beyond LARGEST is a FAULT however large, so it needn't grow further. */
        private static int numberIn(int[] text, int from, int to) {
            int number = 0;
            for (int i = from; i < to; i++) {
                number = Math.min(number * 10 + text[i] - '0', LARGEST + 1);
            }
            return number;
        }

        private static int wordKind(int[] text, int from, int to) {
            for (int kind = IF; kind <= LAST_PART; kind++) {
                if (spells(text, from, to, wordOf(kind))) {
                    return kind;
                }
            }
            return UNKNOWN;
        }

        private static String wordOf(int kind) {
            switch (kind) {
                case IF:
                    return "if";
                case OR:
                    return "or";
                case AND:
                    return "and";
                case NOT:
                    return "not";
                case WORTH:
                    return "worth";
                case BARS:
                    return "bars";
                case FIRST_PART + Judge.HOST:
                    return "host";
                case FIRST_PART + Judge.GUEST:
                    return "guest";
                case FIRST_PART + Judge.BASE:
                    return "base";
                case FIRST_PART + Judge.WIT:
                    return "wit";
                case FIRST_PART + Judge.STREET:
                    return "street";
                case FIRST_PART + Judge.MET:
                    return "met";
                default:
                    return "evening";
            }
        }

        private static boolean spells(int[] text, int from, int to, String word) {
            if (to - from != word.length()) {
                return false;
            }
            for (int i = from; i < to; i++) {
                if (text[i] != word.charAt(i - from)) {
                    return false;
                }
            }
            return true;
        }

        private int kindHere() {
            return at >= 0 && at <= TAPE_ROOM ? kinds[at] : END;
        }

        private boolean failHere() {
            faultAt = at >= 0 && at <= TAPE_ROOM ? places[at] : NONE;
            return false;
        }

        private void emit(int step, int number) {
            if (size < steps.length) {
                steps[size] = number << 4 | step;
                size++;
            }
        }

        /** Tells the step that stands at a place where to go on, which is known only behind what it skips. */
        private void goOnHere(int place, int step) {
            if (place < steps.length) {
                steps[place] = size << 4 | step;
            }
        }

        private boolean readClause() {
            int start = size;
            int kind = kindHere();
            if (kind != WORTH && kind != BARS) {
                return failHere();
            }
            at++;
            emit(Law.CLAUSE, 0);
            if (kind == WORTH && !readSum(0)) {
                return false;
            }
            boolean hasTest = kindHere() == IF;
            if (hasTest) {
                at++;
                if (!readTest(0)) {
                    return false;
                }
            }
            emit(kind == WORTH ? Law.WORTH : Law.BARS, hasTest ? 1 : 0);
            goOnHere(start, Law.CLAUSE);
            return true;
        }

        private boolean readTest(int depth) {
            boolean fits = readBoth(depth);
            for (int more = 0; fits && more < TAPE_ROOM && kindHere() == OR; more++) {
                at++;
                int skip = size;
                emit(Law.OR, 0);
                fits = readBoth(depth);
                goOnHere(skip, Law.OR);
            }
            return fits;
        }

        private boolean readBoth(int depth) {
            boolean fits = readPlain(depth);
            for (int more = 0; fits && more < TAPE_ROOM && kindHere() == AND; more++) {
                at++;
                int skip = size;
                emit(Law.AND, 0);
                fits = readPlain(depth);
                goOnHere(skip, Law.AND);
            }
            return fits;
        }

        /** A row of "not" counts by whether it is odd: a TEXT has room for more of them than calls should be open. */
        private boolean readPlain(int depth) {
            boolean odd = false;
            for (int more = 0; more < TAPE_ROOM && kindHere() == NOT; more++) {
                at++;
                odd = !odd;
            }
            boolean fits = kindHere() == '(' ? readInBrackets(depth) : readComparison(depth);
            if (odd) {
                emit(Law.NOT, 0);
            }
            return fits;
        }

        private boolean readInBrackets(int depth) {
            if (depth >= MOST_BRACKETS) {
                return failHere();
            }
            at++;
            return readTest(depth + 1) && readSign(')');
        }

        private boolean readComparison(int depth) {
            if (!readSum(depth)) {
                return false;
            }
            int step = comparison(kindHere());
            if (step == NONE) {
                return failHere();
            }
            at++;
            if (!readSum(depth)) {
                return false;
            }
            emit(step, 0);
            return true;
        }

        private static int comparison(int kind) {
            switch (kind) {
                case '<':
                    return Law.LESS;
                case '>':
                    return Law.MORE;
                case '=':
                    return Law.SAME;
                default:
                    return NONE;
            }
        }

        private boolean readSign(int sign) {
            if (kindHere() != sign) {
                return failHere();
            }
            at++;
            return true;
        }

        private boolean readSum(int depth) {
            boolean fits = readTerm(depth);
            for (int more = 0; fits && more < TAPE_ROOM && (kindHere() == '+' || kindHere() == '-'); more++) {
                int step = kindHere() == '+' ? Law.PLUS : Law.MINUS;
                at++;
                fits = readTerm(depth);
                emit(step, 0);
            }
            return fits;
        }

        private boolean readTerm(int depth) {
            boolean fits = readPart(depth);
            for (int more = 0; fits && more < TAPE_ROOM && (kindHere() == '*' || kindHere() == '/'); more++) {
                int step = kindHere() == '*' ? Law.TIMES : Law.OVER;
                at++;
                fits = readPart(depth);
                emit(step, 0);
            }
            return fits;
        }

        private boolean readPart(int depth) {
            int kind = kindHere();
            if (kind == '[' && depth < MOST_BRACKETS) {
                at++;
                return readSum(depth + 1) && readSign(']');
            }
            boolean isWord = kind >= FIRST_PART && kind <= LAST_PART;
            boolean isNumber = kind == DIGITS && numbers[at] <= LARGEST;
            if (!isWord && !isNumber || parts >= MOST_PARTS) {
                return failHere();
            }
            parts++;
            if (isWord) {
                emit(Law.WORD, kind - FIRST_PART);
            } else {
                emit(Law.NUMBER, numbers[at]);
            }
            at++;
            return true;
        }
    }

    /** Asks a LAW of one HOST and one GUEST. */
    private static final class Judge {
        private static final int HOST = 0;
        private static final int GUEST = 1;
        private static final int BASE = 2;
        private static final int WIT = 3;
        private static final int STREET = 4;
        private static final int MET = 5;
        private static final int EVENING = 6;
        private static final int WORDS = 7;
        private static final long BEYOND = 1000000000L;

        /** What the words stand for: set ahead of hear(). */
        private final int[] words = new int[WORDS];
        private final long[] held = new long[TAPE_ROOM];
        private int top = 0;
        private boolean broken = false;
        private int worth = 0;
        private boolean barred = false;

        private void hear(Law law) {
            worth = words[BASE];
            barred = false;
            int[] steps = law.steps;
            int clauseEnd = 0;
            int at = 0;
            // steps only ever go on further behind, so none is taken twice
            for (int taken = 0; taken < steps.length && at >= 0 && at < steps.length; taken++) {
                int step = steps[at] & 15;
                int number = steps[at] >> 4;
                at++;
                broken = false;
                if (step == Law.CLAUSE) {
                    clauseEnd = number;
                    top = 0;
                } else if (step == Law.OR || step == Law.AND) {
                    boolean decided = isSo() == (step == Law.OR);
                    at = decided ? number : at;
                    top = decided ? top : top - 1;
                } else if (step == Law.WORTH || step == Law.BARS) {
                    close(step, number == 1);
                } else {
                    take(step, number);
                }
                if (broken) {
                    at = clauseEnd;
                }
            }
        }

        private boolean isSo() {
            return top > 0 && held[top - 1] != 0;
        }

        private void push(long value) {
            if (top >= 0 && top < held.length) {
                held[top] = value;
                top++;
            }
        }

        private long pop() {
            if (top <= 0) {
                return 0;
            }
            top--;
            return held[top];
        }

        private void close(int step, boolean hasTest) {
            boolean holds = !hasTest || pop() != 0;
            if (!holds) {
                return;
            }
            if (step == Law.BARS) {
                barred = true;
            } else {
                worth = (int) Math.max(-FARTHEST, Math.min(FARTHEST, pop()));
            }
        }

        private void take(int step, int number) {
            switch (step) {
                case Law.NUMBER:
                    push(number);
                    break;
                case Law.WORD:
                    push(number >= 0 && number < WORDS ? words[number] : 0);
                    break;
                case Law.NOT:
                    push(pop() == 0 ? 1 : 0);
                    break;
                default:
                    long right = pop();
                    long left = pop();
                    push(joined(step, left, right));
            }
        }

        private long joined(int step, long left, long right) {
            switch (step) {
                case Law.LESS:
                    return left < right ? 1 : 0;
                case Law.MORE:
                    return left > right ? 1 : 0;
                case Law.SAME:
                    return left == right ? 1 : 0;
                case Law.PLUS:
                    return within(left + right);
                case Law.MINUS:
                    return within(left - right);
                case Law.TIMES:
                    return within(left * right);
                default:
                    if (right == 0) {
                        broken = true;
                        return 0;
                    }
                    return within(left / right);
            }
        }

        private long within(long result) {
            broken = result > BEYOND || result < -BEYOND;
            return result;
        }
    }

    /** WORTH and BARRED of all HOSTS and GUESTS at one time, and the GAINS that come of them. */
    private static final class Table {
        private int hosts = 0;
        private int guests = 0;
        private int custom = 0;
        private int lone = 0;
        /** By cells; that of NOBODY is LONE, so that dining alone needs no case of its own. */
        private final int[] worth = new int[CELLS];
        private final boolean[] barred = new boolean[CELLS];
        /** By cells: whom a HOST can ask, in order, NOBODY last. */
        private final int[] choices = new int[CELLS];
        private final int[] choiceCounts = new int[HOST_ROOM];

        private void fill(Street town, Judge judge, int[] met, int evening) {
            hosts = town.hosts;
            guests = town.guests;
            custom = town.custom;
            lone = town.lone;
            Law law = town.inForce == NONE ? null : town.laws[town.inForce];
            for (int h = 0; h < hosts; h++) {
                for (int g = 0; g < guests; g++) {
                    int pair = pair(h, g);
                    worth[cell(h, g)] = town.bases[pair];
                    barred[cell(h, g)] = false;
                    if (law != null) {
                        judge.words[Judge.HOST] = h;
                        judge.words[Judge.GUEST] = g;
                        judge.words[Judge.BASE] = town.bases[pair];
                        judge.words[Judge.WIT] = town.wits[g];
                        judge.words[Judge.STREET] = town.streets[h];
                        judge.words[Judge.MET] = met[pair];
                        judge.words[Judge.EVENING] = evening;
                        judge.hear(law);
                        worth[cell(h, g)] = judge.worth;
                        barred[cell(h, g)] = judge.barred;
                    }
                }
                worth[cell(h, NOBODY)] = lone;
                barred[cell(h, NOBODY)] = false;
                listChoices(h);
            }
        }

        private void listChoices(int host) {
            int found = 0;
            for (int g = 0; g < guests; g++) {
                if (!barred[cell(host, g)]) {
                    choices[cell(host, found)] = g;
                    found++;
                }
            }
            choices[cell(host, found)] = NOBODY;
            choiceCounts[host] = found + 1;
        }

        private boolean isLike(Table other) {
            if (hosts != other.hosts || guests != other.guests || custom != other.custom || lone != other.lone) {
                return false;
            }
            for (int h = 0; h < hosts; h++) {
                for (int g = 0; g < guests; g++) {
                    int cell = cell(h, g);
                    if (worth[cell] != other.worth[cell] || barred[cell] != other.barred[cell]) {
                        return false;
                    }
                }
            }
            return true;
        }

        private void become(Table other) {
            hosts = other.hosts;
            guests = other.guests;
            custom = other.custom;
            lone = other.lone;
            for (int i = 0; i < CELLS; i++) {
                worth[i] = other.worth[i];
                barred[i] = other.barred[i];
                choices[i] = other.choices[i];
            }
            for (int h = 0; h < HOST_ROOM; h++) {
                choiceCounts[h] = other.choiceCounts[h];
            }
        }

        private int allowed(int host, int choice) {
            return barred[cell(host, choice)] ? NOBODY : choice;
        }

        /** HOSTS as bits. */
        private int askersOf(int[] asks, int choice) {
            int askers = 0;
            for (int h = 0; h < hosts; h++) {
                if (asks[h] == choice) {
                    askers |= 1 << h;
                }
            }
            return askers;
        }

        private int gainAmong(int host, int choice, int askers) {
            return shareAmong(host, askers) * (worth[cell(host, choice)] - lone) + SIXTIETHS * lone;
        }

        private int shareAmong(int host, int askers) {
            int others = askers & ~(1 << host);
            int rivals = custom == CUSTOM_LOWEST ? others & (1 << host) - 1 : others;
            return shareAgainst(Integer.bitCount(rivals));
        }

        /** Sixtieths of a GUEST that a HOST has if so many others stand in his way. */
        private int shareAgainst(int rivals) {
            if (rivals <= 0) {
                return SIXTIETHS;
            }
            return custom == CUSTOM_LOT ? SIXTIETHS / (rivals + 1) : 0;
        }

        private int gainIf(int[] asks, int host, int choice) {
            return gainAmong(host, choice, askersOf(asks, choice));
        }

        private int answerBits(int[] asks, int host) {
            int bits = 0;
            int best = 0;
            for (int i = 0; i < choiceCounts[host]; i++) {
                int choice = choices[cell(host, i)];
                int gain = gainIf(asks, host, choice);
                if (bits == 0 || gain > best) {
                    bits = 1 << choice;
                    best = gain;
                } else if (gain == best) {
                    bits |= 1 << choice;
                }
            }
            return bits;
        }
    }

    /** Goes through all that some HOSTS can ask, in order, the others asking as they did. */
    private static final class Walk {
        private final int[] asks = new int[HOST_ROOM];
        private final int[] picks = new int[HOST_ROOM];
        /** By choices, HOSTS as bits. */
        private final int[] askers = new int[CHOICES];
        private final int[] gains = new int[HOST_ROOM];

        /** At the first: how many there are. */
        private int begin(Table table, int[] from, int walkers) {
            int all = 1;
            Arrays.fill(askers, 0);
            for (int h = 0; h < table.hosts; h++) {
                picks[h] = 0;
                asks[h] = from[h];
                if ((walkers >> h & 1) == 1) {
                    asks[h] = table.choices[cell(h, 0)];
                    all *= table.choiceCounts[h];
                }
                askers[asks[h]] |= 1 << h;
            }
            return all;
        }

        private void step(Table table, int walkers) {
            for (int h = table.hosts - 1; h >= 0; h--) {
                if ((walkers >> h & 1) == 1) {
                    boolean isLast = picks[h] + 1 >= table.choiceCounts[h];
                    picks[h] = isLast ? 0 : picks[h] + 1;
                    askers[asks[h]] &= ~(1 << h);
                    asks[h] = table.choices[cell(h, picks[h])];
                    askers[asks[h]] |= 1 << h;
                    if (!isLast) {
                        return;
                    }
                }
            }
        }

        private int gainNow(Table table, int host) {
            return table.gainAmong(host, asks[host], askers[asks[host]]);
        }

        private boolean allCanGain(Table table, int[] from, int set) {
            for (int h = 0; h < table.hosts; h++) {
                gains[h] = table.gainIf(from, h, from[h]);
            }
            int all = begin(table, from, set);
            for (int i = 0; i < all; i++) {
                if (allGain(table, set)) {
                    return true;
                }
                step(table, set);
            }
            return false;
        }

        private boolean allGain(Table table, int set) {
            for (int h = 0; h < table.hosts; h++) {
                if ((set >> h & 1) == 1 && gainNow(table, h) <= gains[h]) {
                    return false;
                }
            }
            return true;
        }
    }

    /**
     * MOST, FAIR and STEADY of a Table; kept while the next one asked about is like it, for it is dear. ASKINGS are
     * numbered in their order, without BARRED ones; nothing but a bit is kept of each, for there are many, and each
     * new object has rows of its own.
     */
    private static final class Survey {
        private static final int SETS = 1 << HOST_ROOM;
        /** Farther from 0 than any sum of GAINS. */
        private static final int BEYOND_GAINS = 1000000;

        private final Table seen = new Table();
        private final Walk walk = new Walk();
        private boolean isMade = false;
        /** By HOSTS: how far apart ASKINGS are in which he picks the next of his choices, all others as they do. */
        private final int[] strides = new int[HOST_ROOM];
        /** By cells, and by which HOSTS ask that choice. */
        private final int[] gains = new int[CELLS * SETS];
        /** By HOSTS: what none of his choices can exceed, whatever the others ask. */
        private final int[] tops = new int[HOST_ROOM];
        /** By numbers of ASKINGS, as bits. */
        private final long[] steadyOnes = new long[ALL_ASKINGS / 64 + 1];
        private int mostSum = 0;
        private int mostFirst = 0;
        private int mostCount = 0;
        private int fairLeast = 0;
        private int fairCount = 0;
        private int steadyCount = 0;
        private int steadyGreatest = 0;
        private int steadyLeast = 0;

        private void look(Table table) {
            if (isMade && seen.isLike(table)) {
                return;
            }
            seen.become(table);
            isMade = true;
            int stride = 1;
            for (int h = seen.hosts - 1; h >= 0; h--) {
                strides[h] = stride;
                stride *= seen.choiceCounts[h];
                listGains(h);
            }
            mostSum = -BEYOND_GAINS;
            fairLeast = -BEYOND_GAINS;
            steadyCount = 0;
            Arrays.fill(steadyOnes, 0L);
            int everybody = (1 << seen.hosts) - 1;
            int all = walk.begin(seen, walk.asks, everybody);
            for (int i = 0; i < all; i++) {
                weigh(i);
                walk.step(seen, everybody);
            }
        }

        private void listGains(int host) {
            tops[host] = SIXTIETHS * seen.lone;
            for (int i = 0; i < seen.choiceCounts[host]; i++) {
                int choice = seen.choices[cell(host, i)];
                tops[host] = Math.max(tops[host], SIXTIETHS * seen.worth[cell(host, choice)]);
                for (int askers = 0; askers < 1 << seen.hosts; askers++) {
                    gains[cell(host, choice) * SETS + askers] = seen.gainAmong(host, choice, askers);
                }
            }
        }

        private void weigh(int askings) {
            int[] asks = walk.asks;
            int[] askers = walk.askers;
            int hosts = seen.hosts;
            int sum = 0;
            int least = BEYOND_GAINS;
            boolean isSteady = true;
            for (int h = 0; h < hosts; h++) {
                int choice = asks[h];
                int gain = gains[(h * CHOICES + choice) * SETS + askers[choice]];
                sum += gain;
                if (gain < least) {
                    least = gain;
                }
                if (isSteady && gain < tops[h]) {
                    isSteady = isBest(h, gain);
                }
            }
            if (sum >= mostSum) {
                countMost(askings, sum);
            }
            if (least >= fairLeast) {
                countFair(least);
            }
            if (isSteady) {
                keepSteady(askings, sum);
            }
        }

        private boolean isBest(int host, int gain) {
            int from = cell(host, 0);
            for (int i = 0; i < seen.choiceCounts[host]; i++) {
                int choice = seen.choices[from + i];
                if (gains[(from + choice) * SETS + walk.askers[choice]] > gain) {
                    return false;
                }
            }
            return true;
        }

        private void countMost(int askings, int sum) {
            if (sum > mostSum) {
                mostSum = sum;
                mostFirst = askings;
                mostCount = 0;
            }
            mostCount++;
        }

        private void countFair(int least) {
            if (least > fairLeast) {
                fairLeast = least;
                fairCount = 0;
            }
            fairCount++;
        }

        private void keepSteady(int askings, int sum) {
            steadyGreatest = steadyCount == 0 ? sum : Math.max(steadyGreatest, sum);
            steadyLeast = steadyCount == 0 ? sum : Math.min(steadyLeast, sum);
            steadyCount++;
            if (askings >> 6 < steadyOnes.length) {
                steadyOnes[askings >> 6] |= 1L << (askings & 63);
            }
        }

        /** The number of the i-th ASKINGS that are STEADY; NONE, if there are not so many. */
        private int steadyAt(int i) {
            int ahead = 0;
            for (int word = 0; word < steadyOnes.length; word++) {
                int here = Long.bitCount(steadyOnes[word]);
                if (ahead + here > i) {
                    return word * 64 + bitAt(steadyOnes[word], i - ahead);
                }
                ahead += here;
            }
            return NONE;
        }

        private static int bitAt(long bits, int i) {
            int ahead = 0;
            for (int place = 0; place < 64; place++) {
                if ((bits >> place & 1) == 1) {
                    if (ahead == i) {
                        return place;
                    }
                    ahead++;
                }
            }
            return 0;
        }

        private int askedBy(int host, int askings) {
            int pick = askings / Math.max(1, strides[host]) % Math.max(1, seen.choiceCounts[host]);
            return seen.choices[cell(host, pick)];
        }
    }

    /** BY TURNS. */
    private static final class Turns {
        private final int[] asks = new int[HOST_ROOM];
        /** Which packed ASKINGS were there behind a ROUND or ahead of the first, as bits. */
        private final long[] were = new long[ALL_ASKINGS / 64 + 1];
        private int played = 0;
        private boolean cameToRest = false;

        private void play(Table table, int[] from) {
            System.arraycopy(from, 0, asks, 0, HOST_ROOM);
            Arrays.fill(were, 0L);
            isNew(packed(asks, table.hosts));
            cameToRest = false;
            boolean goesOn = true;
            for (int round = 1; goesOn && round <= ALL_ASKINGS + 1; round++) {
                played = round;
                cameToRest = !playRound(table);
                goesOn = !cameToRest && isNew(packed(asks, table.hosts));
            }
        }

        private boolean playRound(Table table) {
            boolean changed = false;
            for (int h = 0; h < table.hosts; h++) {
                int first = lowestIn(table.answerBits(asks, h));
                if (table.gainIf(asks, h, first) > table.gainIf(asks, h, asks[h])) {
                    asks[h] = first;
                    changed = true;
                }
            }
            return changed;
        }

        /** Remembers the ASKINGS, too. */
        private boolean isNew(int askings) {
            int word = askings >> 6;
            if (word < 0 || word >= were.length) {
                return false;
            }
            long bit = 1L << (askings & 63);
            boolean isNew = (were[word] & bit) == 0;
            were[word] |= bit;
            return isNew;
        }
    }

    /**
     * GAINS in the MEAN, as of 10 multiplied by itself as often as there are HOSTS. A HOST has a GUEST by what the
     * others ask of that GUEST alone, so that what GUESTS bring is found for each by himself, and added.
     */
    private static final class Chances {
        private static final int STEPS = TENTHS + 1;

        /** TENTHS by pairs, without those for BARRED ones. */
        private final int[] tenths = new int[PAIRS];
        private final long[] ways = new long[HOST_ROOM];
        /** ALIKE, by GUESTS and TENTHS: what a GUEST brings all HOSTS. */
        private final long[] brings = new long[GUEST_ROOM * STEPS];
        /** ALIKE, by GUESTS and TENTHS left: the most that he and those above him bring, and by how many rows. */
        private final long[] best = new long[(GUEST_ROOM + 1) * STEPS];
        private final int[] rows = new int[(GUEST_ROOM + 1) * STEPS];

        private void takeDice(Table table, Street town) {
            for (int h = 0; h < table.hosts; h++) {
                for (int g = 0; g < table.guests; g++) {
                    tenths[pair(h, g)] = table.barred[cell(h, g)] ? 0 : town.tenths[pair(h, g)];
                }
            }
        }

        private static long alone(Table table) {
            long gain = (long) SIXTIETHS * table.lone;
            for (int h = 0; h < table.hosts; h++) {
                gain *= TENTHS;
            }
            return gain;
        }

        /** What a HOST has more than alone by a tenth that he asks a GUEST. */
        private long byTenth(Table table, int host, int guest) {
            Arrays.fill(ways, 0L);
            ways[0] = 1;
            for (int h = 0; h < table.hosts; h++) {
                if (h != host) {
                    boolean matters = table.custom != CUSTOM_LOWEST || h < host;
                    addOther(matters ? tenths[pair(h, guest)] : 0);
                }
            }
            long share = 0;
            for (int rivals = 0; rivals < HOST_ROOM; rivals++) {
                share += ways[rivals] * table.shareAgainst(rivals);
            }
            return share * (table.worth[cell(host, guest)] - table.lone);
        }

        private void addOther(int asking) {
            for (int rivals = HOST_ROOM - 1; rivals > 0; rivals--) {
                ways[rivals] = ways[rivals] * (TENTHS - asking) + ways[rivals - 1] * asking;
            }
            ways[0] *= TENTHS - asking;
        }

        private long byDice(Table table, int host) {
            long gain = alone(table);
            for (int g = 0; g < table.guests; g++) {
                gain += tenths[pair(host, g)] * byTenth(table, host, g);
            }
            return gain;
        }

        private long bestAlone(Table table, int host) {
            long gain = alone(table);
            long most = gain;
            for (int g = 0; g < table.guests; g++) {
                if (!table.barred[cell(host, g)]) {
                    most = Math.max(most, gain + TENTHS * byTenth(table, host, g));
                }
            }
            return most;
        }

        private void weighAlike(Table table) {
            for (int left = 0; left < STEPS; left++) {
                best[table.guests * STEPS + left] = 0;
                rows[table.guests * STEPS + left] = 1;
            }
            for (int g = table.guests - 1; g >= 0; g--) {
                for (int t = 0; t < STEPS; t++) {
                    brings[g * STEPS + t] = bringsAll(table, g, t);
                }
                for (int left = 0; left < STEPS; left++) {
                    findBest(g, left);
                }
            }
        }

        private long bringsAll(Table table, int guest, int asking) {
            for (int h = 0; h < table.hosts; h++) {
                tenths[pair(h, guest)] = table.barred[cell(h, guest)] ? 0 : asking;
            }
            long sum = 0;
            for (int h = 0; h < table.hosts; h++) {
                sum += tenths[pair(h, guest)] * byTenth(table, h, guest);
            }
            return sum;
        }

        private void findBest(int guest, int left) {
            int at = guest * STEPS + left;
            rows[at] = 0;
            for (int t = 0; t <= left; t++) {
                long sum = withAbove(guest, t, left);
                if (rows[at] == 0 || sum > best[at]) {
                    best[at] = sum;
                    rows[at] = rows[at + STEPS - t];
                } else if (sum == best[at]) {
                    rows[at] += rows[at + STEPS - t];
                }
            }
        }

        private long withAbove(int guest, int t, int left) {
            return brings[guest * STEPS + t] + best[(guest + 1) * STEPS + left - t];
        }

        private long alikeSum(Table table) {
            return best[TENTHS] + table.hosts * alone(table);
        }

        private int alikeRows() {
            return rows[TENTHS];
        }

        private int firstAlike(Table table, int guest) {
            int left = TENTHS;
            int asking = 0;
            for (int g = 0; g < table.guests && g <= guest; g++) {
                asking = 0;
                while (asking < left && withAbove(g, asking, left) != best[g * STEPS + left]) {
                    asking++;
                }
                left -= asking;
            }
            return asking;
        }
    }

    /** The latest YEAR; without evenings ahead of any. */
    private static final class Year {
        private final Table table = new Table();
        private final int[] askedOn = new int[EVENING_ROOM * HOST_ROOM];
        private final int[] dinedOn = new int[EVENING_ROOM * HOST_ROOM];
        private final int[] sums = new int[HOST_ROOM];
        private int evenings = 0;
        private int hosts = 0;

        private int drawn = 0;
        private final int[] met = new int[PAIRS];
        /** By pairs: in how many evenings so far no other HOST asked that GUEST. */
        private final int[] unsought = new int[PAIRS];
        private final int[] asks = new int[HOST_ROOM];
        /** These three are of the evening before, till this evening's take their place. */
        private final int[] askedBefore = new int[HOST_ROOM];
        private final int[] company = new int[HOST_ROOM];
        private final int[] gains = new int[HOST_ROOM];

        /** In how many evenings a HOST at least dined alone. */
        private int live(Street town, Judge judge, int seed, int n) {
            hosts = town.hosts;
            evenings = n;
            drawn = seed;
            Arrays.fill(sums, 0);
            Arrays.fill(met, 0);
            Arrays.fill(unsought, 0);
            int lonely = 0;
            for (int evening = 0; evening < n; evening++) {
                table.fill(town, judge, met, evening);
                for (int h = 0; h < hosts; h++) {
                    asks[h] = table.allowed(h, wish(town, h, evening));
                }
                seatGuests();
                if (writeDown(evening)) {
                    lonely++;
                }
            }
            return lonely;
        }

        private int draw(int many) {
            drawn = (drawn * 1103 + 12345) % 1000003;
            return many > 0 ? drawn % many : 0;
        }

        private int wish(Street town, int host, int evening) {
            int manner = town.manners[host];
            if (manner == 3) {
                return rolled(town, host);
            }
            if (evening == 0) {
                return town.told[host];
            }
            switch (manner) {
                case 1:
                    return lowestIn(table.answerBits(askedBefore, host));
                case 2:
                    return hoped(host);
                case 4:
                    return envied(town, host);
                case 5:
                    return keptUp(town, host);
                default:
                    return town.told[host];
            }
        }

        private int rolled(Street town, int host) {
            int roll = draw(TENTHS);
            int upTo = 0;
            for (int g = 0; g < table.guests; g++) {
                upTo += town.tenths[pair(host, g)];
                if (roll < upTo) {
                    return g;
                }
            }
            return NOBODY;
        }

        private int hoped(int host) {
            int best = 0;
            int found = NOBODY;
            for (int g = 0; g < table.guests; g++) {
                int hope = (table.worth[cell(host, g)] - table.lone) * unsought[pair(host, g)];
                if (hope > best) {
                    best = hope;
                    found = g;
                }
            }
            return found;
        }

        private int envied(Street town, int host) {
            int richest = NONE;
            for (int h = 0; h < hosts; h++) {
                if (h != host && (richest == NONE || gains[h] > gains[richest])) {
                    richest = h;
                }
            }
            return richest != NONE && company[richest] != NOBODY ? company[richest] : town.told[host];
        }

        private int keptUp(Street town, int host) {
            if (company[host] != NOBODY) {
                return company[host];
            }
            for (int g = 0; g < table.guests; g++) {
                if (!table.barred[cell(host, g)] && table.askersOf(askedBefore, g) == 0) {
                    return g;
                }
            }
            return town.told[host];
        }

        private void seatGuests() {
            Arrays.fill(company, NOBODY);
            for (int g = 0; g < table.guests; g++) {
                int askers = table.askersOf(asks, g);
                int several = Integer.bitCount(askers);
                if (several > 1 && table.custom == CUSTOM_LOT) {
                    company[lotAmong(askers, draw(several))] = g;
                } else if (several == 1 || several > 1 && table.custom == CUSTOM_LOWEST) {
                    company[lotAmong(askers, 0)] = g;
                }
            }
        }

        private int lotAmong(int askers, int lot) {
            int left = lot;
            for (int h = 0; h < hosts; h++) {
                if ((askers >> h & 1) == 1) {
                    if (left == 0) {
                        return h;
                    }
                    left--;
                }
            }
            return 0;
        }

        /** Whether a HOST dined alone. */
        private boolean writeDown(int evening) {
            boolean lonely = false;
            for (int h = 0; h < hosts; h++) {
                int guest = company[h];
                askedOn[evening * HOST_ROOM + h] = asks[h];
                dinedOn[evening * HOST_ROOM + h] = guest;
                askedBefore[h] = asks[h];
                gains[h] = SIXTIETHS * table.worth[cell(h, guest)];
                sums[h] += gains[h];
                if (guest == NOBODY) {
                    lonely = true;
                } else {
                    met[pair(h, guest)]++;
                }
                for (int g = 0; g < table.guests; g++) {
                    if ((table.askersOf(asks, g) & ~(1 << h)) == 0) {
                        unsought[pair(h, g)]++;
                    }
                }
            }
            return lonely;
        }

        private boolean askedAlike(int evening, int other) {
            for (int h = 0; h < hosts; h++) {
                if (askedOn[evening * HOST_ROOM + h] != askedOn[other * HOST_ROOM + h]) {
                    return false;
                }
            }
            return true;
        }
    }
}
