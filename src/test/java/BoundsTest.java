import java.util.function.Consumer;
import java.util.function.IntUnaryOperator;

/**
 * The bounds of what can be told to an object: the last that can be, the first that can't, empty, full, and each call
 * that is REFUSED: its answer, status(), count(), and that nothing else has changed.
 */
public final class BoundsTest {
    private static final int NONE = Bench.NONE;
    private static final int NOTHING = Bench.NOTHING;
    private static final int LEAST = Integer.MIN_VALUE;
    private static final int GREATEST = Integer.MAX_VALUE;
    private static final Checks CHECKS = new Checks("BoundsTest");

    private static final Twins EMPTY = new Twins(CHECKS, "empty", x -> { });
    private static final Twins SMALL = new Twins(CHECKS, "small", BoundsTest::small);
    private static final Twins FULL = new Twins(CHECKS, "full", BoundsTest::full);

    public static void main(String[] args) {
        newObject();
        hosts();
        guests();
        baseNumbers();
        basePairs();
        customs();
        lones();
        feeds();
        feedOrder();
        ends();
        rowLengths();
        rowNumbers();
        smudges();
        lawRoom();
        lawTexts();
        forces();
        asks();
        diceNumbers();
        diceTogether();
        diceLeft();
        manners();
        years();
        images();
        imagesKeep();
        imagesKeepNot();
        counts();
        firstOfRefusals();
        statuses();
        lookingRefusesNothing();
        calls();
        CHECKS.close();
    }

    private static void due(String what, long got, long want) {
        CHECKS.same(what, got, want);
    }

    /** Two HOSTS, three GUESTS, something of everything; the latest call was REFUSED by -2. */
    private static void small(SoleGuest x) {
        Bench.crowd(x, 2, 3);
        Bench.rows(x, 0, 0, 110, 0, 1, 104, 1, 0, 108, 1, 1, 97, 1, 2, 101, 9);
        x.terms(0, 2);
        x.terms(1, 1);
        x.ask(0, 0);
        x.ask(1, 0);
        x.dice(0, 0, 4);
        x.dice(0, 2, 3);
        x.dice(1, 1, 10);
        x.manner(0, 3);
        x.manner(1, 5);
        Bench.force(x, "worth base+1 if guest=1; bars if host=1 and guest=2");
        Bench.law(x, "worth 7;bar");
        x.image(0);
        x.ask(1, 1);
        x.base(0, 2, 12);
        x.year(3, 9);
        Bench.feed(x, "worth 5");
        x.ask(5, 5);
    }

    /** As many HOSTS, GUESTS, LAWS, IMAGES, bytes and evenings as there can be; the latest call was REFUSED by -3. */
    private static void full(SoleGuest x) {
        Bench.crowd(x, 5, 6);
        Bench.rows(x, 0, 0, 110, 1, 1, 104, 2, 2, 108, 3, 3, 97, 4, 4, 101, 4, 5, 199, 9);
        for (int h = 0; h < 5; h++) {
            x.ask(h, h);
            x.manner(h, h + 1);
            x.dice(h, h, 5);
            x.dice(h, 5, 5);
        }
        for (int i = 0; i < 6; i++) {
            Bench.law(x, "worth base+" + i);
        }
        x.force(5);
        x.image(0);
        x.terms(0, 1);
        x.terms(1, -2);
        x.image(1);
        x.terms(0, 2);
        x.year(1000000, 40);
        for (int i = 0; i < 20; i++) {
            x.feed(0x776f7274, 0x6820312b, 0x312b312b, 0x312b312b, 0x312b312b);
        }
        x.dice(0, 1, 1);
    }

    /** Promise 1: no HOSTS, GUESTS; and each "at first" of the Terms. */
    private static void newObject() {
        SoleGuest x = new SoleGuest();
        due("no HOSTS", x.count(0), 0);
        due("no GUESTS", x.count(1), 0);
        due("no LAWS", x.count(2), 0);
        due("an empty TAPE", x.count(3), 0);
        for (int what = 4; what <= 8; what++) {
            due("nothing REFUSED, " + what, x.count(what), 0);
        }
        due("no LAW in FORCE", x.count(9), NONE);
        due("CUSTOM 0 at first", x.count(10), 0);
        due("status 0 ahead of any", x.status(), 0);
        due("SMUDGED 0 ahead of any", x.smudged(), 0);
        due("no FAULT", x.fault(), NONE);
        due("no YEAR: settled", x.settled(), NONE);
        due("CUSTOM 0 at first", x.terms(0, 2), 0);
        due("LONE 0 at first", x.terms(1, 2), 0);
        due("NONE in FORCE at first", x.force(NONE), NONE);
        Bench.crowd(x, 5, 6);
        for (int h = 0; h < 5; h++) {
            due("nobody TOLD at first, " + h, x.ask(h, NONE), NONE);
            due("MANNER 0 at first, " + h, x.manner(h, 0), 0);
            for (int g = 0; g < 6; g++) {
                due("BASE 0 at first, " + h + " " + g, x.base(h, g, 0), 0);
                due("DICE 0 at first, " + h + " " + g, x.dice(h, g, 0), 0);
            }
        }
        EMPTY.refused("back(0)", y -> y.back(0), -2, -2);
        EMPTY.refused("back(1)", y -> y.back(1), -2, -2);
    }

    /** Numbers outside least .. greatest are refused by -1 in each of the three. */
    private static void outside(String call, int least, int greatest, int answer, Asking asking) {
        for (int v : new int[] {least - 1, greatest + 1, LEAST, GREATEST}) {
            EMPTY.refused(call + " of " + v, x -> asking.ask(x, v), answer, -1);
            SMALL.refused(call + " of " + v, x -> asking.ask(x, v), answer, -1);
            FULL.refused(call + " of " + v, x -> asking.ask(x, v), answer, -1);
        }
    }

    private interface Asking {
        int ask(SoleGuest x, int v);
    }

    private static void hosts() {
        outside("host", 0, 9, -1, (x, v) -> x.host(v));
        for (int v = 0; v <= 9; v++) {
            int street = v;
            SMALL.granted("host(" + v + ")", x -> x.host(street), 2);
            SoleGuest x = new SoleGuest();
            x.host(v);
            x.guest(0);
            Bench.force(x, "worth street");
            due("STREET " + v, x.of(0, 0, 1), v);
        }
        EMPTY.granted("the first HOST", x -> x.host(0), 0);
        SoleGuest x = new SoleGuest();
        for (int h = 0; h < 5; h++) {
            due("HOST " + h, x.host(h), h);
            due("HOSTS", x.count(0), h + 1);
        }
        due("the 6th HOST", x.host(0), -5);
        due("HOSTS", x.count(0), 5);
        FULL.refused("host(0)", y -> y.host(0), -5, -5);
        FULL.refused("host(9)", y -> y.host(9), -5, -5);
        FULL.refused("host(10), no room and no number", y -> y.host(10), -1, -1);
    }

    private static void guests() {
        outside("guest", 0, 9, -1, (x, v) -> x.guest(v));
        for (int v = 0; v <= 9; v++) {
            int wit = v;
            SMALL.granted("guest(" + v + ")", x -> x.guest(wit), 3);
            SoleGuest x = new SoleGuest();
            x.guest(v);
            x.host(0);
            Bench.force(x, "worth wit");
            due("WIT " + v, x.of(0, 0, 1), v);
        }
        EMPTY.granted("the first GUEST", x -> x.guest(0), 0);
        SoleGuest x = new SoleGuest();
        for (int g = 0; g < 6; g++) {
            due("GUEST " + g, x.guest(g), g);
            due("GUESTS", x.count(1), g + 1);
        }
        due("the 7th GUEST", x.guest(0), -5);
        due("GUESTS", x.count(1), 6);
        FULL.refused("guest(0)", y -> y.guest(0), -5, -5);
        FULL.refused("guest(9)", y -> y.guest(9), -5, -5);
        FULL.refused("guest(10), no room and no number", y -> y.guest(10), -1, -1);
    }

    private static void baseNumbers() {
        outside("base(0, 0, ..)", -99, 99, NOTHING, (x, v) -> x.base(0, 0, v));
        SMALL.granted("base -99", x -> x.base(0, 0, -99), 10);
        SMALL.granted("base 99", x -> x.base(0, 0, 99), 10);
        SMALL.granted("base as it was", x -> x.base(0, 0, 10), 10);
        FULL.granted("base of the last HOST and GUEST", x -> x.base(4, 5, -99), 99);
        SoleGuest x = Bench.street(Bench.row(0, 0), Bench.row(0, 0));
        due("it was 0", x.base(1, 1, -99), 0);
        due("it is -99", x.of(1, 1, 0), -99);
        due("it was -99", x.base(1, 1, 99), -99);
        due("it is 99", x.of(1, 1, 0), 99);
        due("the others' are 0", x.of(0, 0, 0) + x.of(0, 1, 0) + x.of(1, 0, 0), 0);
    }

    private static void basePairs() {
        for (int h : new int[] {-1, 2, LEAST, GREATEST}) {
            SMALL.refused("base of HOST " + h, x -> x.base(h, 0, 5), NOTHING, -2);
            SMALL.refused("base of HOST and number " + h, x -> x.base(h, 0, 100), NOTHING, -1);
            SMALL.idle("of HOST " + h, x -> x.of(h, 0, 0), NOTHING);
            SMALL.idle("of HOST " + h, x -> x.of(h, 0, 1), NOTHING);
            SMALL.idle("of HOST " + h, x -> x.of(h, 0, 2), NOTHING);
        }
        for (int g : new int[] {-1, 3, LEAST, GREATEST}) {
            SMALL.refused("base of GUEST " + g, x -> x.base(0, g, 5), NOTHING, -2);
            SMALL.refused("base of GUEST and number " + g, x -> x.base(0, g, -100), NOTHING, -1);
            SMALL.idle("of GUEST " + g, x -> x.of(0, g, 0), NOTHING);
            SMALL.idle("of GUEST " + g, x -> x.of(0, g, 1), NOTHING);
            SMALL.idle("of GUEST " + g, x -> x.of(0, g, 2), NOTHING);
        }
        EMPTY.refused("base of nobody", x -> x.base(0, 0, 0), NOTHING, -2);
        FULL.refused("base of HOST 5", x -> x.base(5, 0, 0), NOTHING, -2);
        FULL.refused("base of GUEST 6", x -> x.base(0, 6, 0), NOTHING, -2);
        EMPTY.idle("of nobody", x -> x.of(0, 0, 0), NOTHING);
        FULL.idle("of HOST 5", x -> x.of(5, 0, 0), NOTHING);
        FULL.idle("of GUEST 6", x -> x.of(0, 6, 0), NOTHING);
        for (int what : new int[] {-1, 3, LEAST, GREATEST}) {
            SMALL.idle("of, what " + what, x -> x.of(0, 0, what), NOTHING);
        }
        SMALL.idle("of, what 0", x -> x.of(0, 1, 0), 4);
        SMALL.idle("of, what 1", x -> x.of(0, 1, 1), 5);
        SMALL.idle("of, what 2", x -> x.of(0, 1, 2), 0);
        SMALL.idle("of a BARRED one", x -> x.of(1, 2, 2), 1);
    }

    private static void customs() {
        outside("CUSTOM", 0, 2, NOTHING, (x, v) -> x.terms(0, v));
        for (int v = 0; v <= 2; v++) {
            int custom = v;
            SMALL.granted("CUSTOM " + v, x -> x.terms(0, custom), 2);
            SoleGuest x = new SoleGuest();
            x.terms(0, v);
            due("CUSTOM " + v, x.count(10), v);
        }
        for (int what : new int[] {-1, 2, LEAST, GREATEST}) {
            EMPTY.refused("TERM " + what, x -> x.terms(what, 0), NOTHING, -1);
            SMALL.refused("TERM " + what, x -> x.terms(what, 0), NOTHING, -1);
            SMALL.refused("TERM " + what, x -> x.terms(what, 1), NOTHING, -1);
        }
    }

    private static void lones() {
        outside("LONE", -99, 99, NOTHING, (x, v) -> x.terms(1, v));
        for (int v : new int[] {-99, 0, 3, 99}) {
            SMALL.granted("LONE " + v, x -> x.terms(1, v), 1);
            SoleGuest x = new SoleGuest();
            x.host(0);
            x.terms(1, v);
            due("LONE " + v, x.gain(0), 60 * v);
        }
    }

    private static void feeds() {
        SoleGuest x = new SoleGuest();
        for (int i = 1; i <= 20; i++) {
            due("feed " + i, x.feed(i, i, i, i, i), 20 * i);
            due("bytes", x.count(3), 20 * i);
        }
        due("the 21st", x.feed(0, 0, 0, 0, 0), NONE);
        for (int n : new int[] {400, 399, 381}) {
            Consumer<SoleGuest> to = y -> {
                full(y);
                y.end(n);
            };
            Twins at = new Twins(CHECKS, n + " bytes", to);
            at.idle("feed", y -> y.feed(1, 2, 3, 4, 5), NONE);
        }
        x.end(380);
        due("to 400 again", x.feed(0, 0, 0, 0, 0), 400);
        x.end(1);
        due("behind one", x.feed(0, 0, 0, 0, 0), 21);
        x.end(0);
        due("behind none", x.feed(0, 0, 0, 0, 0), 20);
        SMALL.idle("feed and end again", y -> y.feed(-1, -1, -1, -1, -1) - y.end(7), 20);
    }

    /** Each byte of a number can be above 127; the highest of it comes first. */
    private static void feedOrder() {
        SoleGuest x = new SoleGuest();
        Bench.crowd(x, 5, 6);
        // rows: 0 0 199, 0 1 198, 0 2 197, 0 3 196, 0 4 195, 0 5 194, and two bytes more
        x.feed(0x0000c700, 0x01c60002, 0xc50003c4, 0x0004c300, 0x05c2ffff);
        due("six came", x.row(), 6);
        due("one is cut", x.smudged(), 1);
        for (int g = 0; g < 6; g++) {
            due("BASE " + g, x.of(0, g, 0), 99 - g);
        }
        SoleGuest y = Bench.street(Bench.row(0));
        y.feed(0x776f7274, 0x6820312b, 0x322b332b, 0x342b352b, 0x362b3737);
        due("20 bytes are a TEXT", y.law(), 0);
        y.force(0);
        due("1 + 2 + 3 + 4 + 5 + 6 + 77", y.of(0, 0, 1), 98);
        y.feed(0x776f7274, 0x68202020, 0x20202020, 0x20202020, 0x20202020);
        y.feed(0x38202020, 0x20202020, 0x20202020, 0x20202020, 0x20202020);
        y.end(21);
        y.force(y.law());
        due("the second feed is behind the first", y.of(0, 0, 1), 8);
    }

    private static void ends() {
        for (int n : new int[] {-1, 8, 401, LEAST, GREATEST}) {
            SMALL.idle("end(" + n + ") of 7", x -> x.end(n), NONE);
        }
        for (int n : new int[] {-1, 401, LEAST, GREATEST}) {
            FULL.idle("end(" + n + ") of 400", x -> x.end(n), NONE);
        }
        for (int n : new int[] {-1, 1, LEAST, GREATEST}) {
            EMPTY.idle("end(" + n + ") of none", x -> x.end(n), NONE);
        }
        EMPTY.idle("end(0) of none", x -> x.end(0), 0);
        SMALL.idle("end(7) of 7", x -> x.end(7), 7);
        FULL.idle("end(400) of 400", x -> x.end(400), 400);
        for (int n = 7; n >= 0; n--) {
            SoleGuest x = new SoleGuest();
            small(x);
            due("end(" + n + ")", x.end(n), n);
            due("bytes", x.count(3), n);
            due("status is as it was", x.status(), -2);
        }
        SoleGuest x = Bench.street(Bench.row(3));
        Bench.feed(x, "worth 12");
        x.end(7);
        x.force(x.law());
        due("its first 7 bytes alone", x.of(0, 0, 1), 1);
    }

    private static void rowLengths() {
        EMPTY.refused("row() of an empty TAPE", x -> x.row(), -6, -6);
        new Twins(CHECKS, "ended", x -> {
            small(x);
            x.end(0);
        }).refused("row() of an empty TAPE", x -> x.row(), -6, -6);
        int[] bytes = {0, 0, 101, 0, 1, 102, 0};
        int[] came = {0, 0, 0, 1, 1, 1, 2, 2};
        int[] smudged = {0, 1, 1, 0, 1, 1, 0, 1};
        for (int n = 1; n <= 7; n++) {
            SoleGuest x = Bench.street(Bench.row(5, 5));
            Bench.feed(x, Bench.bytes(bytes));
            x.end(n);
            due("row() of " + n + " bytes", x.row(), came[n]);
            due("smudged of " + n + " bytes", x.smudged(), smudged[n]);
            due("status of " + n + " bytes", x.status(), 0);
            due("the TAPE is empty then", x.count(3), 0);
            due("BASE of the first", x.of(0, 0, 0), n >= 3 ? 1 : 5);
            due("BASE of the second", x.of(0, 1, 0), n >= 6 ? 2 : 5);
        }
        SoleGuest x = Bench.street(Bench.row(5));
        Bench.feed(x, Bench.times(Bench.bytes(0, 0, 150), 133) + Bench.bytes(0));
        due("a full TAPE", x.count(3), 400);
        due("row() of a full TAPE", x.row(), 133);
        due("the last is cut", x.smudged(), 1);
        due("BASE", x.of(0, 0, 0), 50);
        EMPTY.granted("row() of a street without anybody", y -> Bench.rows(y, 0, 0, 100), 0);
    }

    private static void rowNumbers() {
        for (int b = 0; b <= 255; b++) {
            boolean can = b >= 1 && b <= 199;
            SoleGuest x = Bench.street(Bench.row(5, 5), Bench.row(5, 5));
            due("ROW with BASE and 100 = " + b, Bench.rows(x, 1, 0, b), can ? 1 : 0);
            due("SMUDGED", x.smudged(), can ? 0 : 1);
            due("BASE", x.of(1, 0, 0), can ? b - 100 : 5);
            due("status", x.status(), 0);
            due("ROW with HOST " + b, Bench.rows(x, b, 1, 160), b < 2 ? 1 : 0);
            due("SMUDGED", x.smudged(), b < 2 ? 0 : 1);
            due("BASE", x.of(0, 1, 0), b == 0 ? 60 : 5);
            due("ROW with GUEST " + b, Bench.rows(x, 1, b, 170), b < 2 ? 1 : 0);
            due("SMUDGED", x.smudged(), b < 2 ? 0 : 1);
        }
        SoleGuest x = Bench.street(Bench.row(5));
        due("the later of two", Bench.rows(x, 0, 0, 120, 0, 0, 130), 2);
        due("the later of two", x.of(0, 0, 0), 30);
        due("the smudged behind changes nothing", Bench.rows(x, 0, 0, 140, 0, 0, 200), 1);
        due("the smudged behind changes nothing", x.of(0, 0, 0), 40);
        SoleGuest y = new SoleGuest();
        Bench.crowd(y, 5, 6);
        due("the last HOST and GUEST", Bench.rows(y, 4, 5, 199, 5, 5, 199, 4, 6, 199), 1);
        due("the last HOST and GUEST", y.of(4, 5, 0), 99);
        due("the first beyond", y.smudged(), 2);
    }

    private static void smudges() {
        SoleGuest x = Bench.street(Bench.row(5));
        due("ahead of any", x.smudged(), 0);
        x.row();
        due("ahead of any but a REFUSED one", x.smudged(), 0);
        Bench.rows(x, 9, 9, 9, 9, 9);
        due("two", x.smudged(), 2);
        x.row();
        due("a REFUSED one doesn't matter", x.smudged(), 2);
        Bench.law(x, "bars");
        due("nor a LAW", x.smudged(), 2);
        x.image(0);
        Bench.rows(x, 9);
        due("one", x.smudged(), 1);
        x.back(0);
        due("BACK doesn't matter", x.smudged(), 1);
        Bench.rows(x, 0, 0, 100);
        due("none", x.smudged(), 0);
    }

    private static void lawRoom() {
        SoleGuest x = new SoleGuest();
        for (int i = 0; i < 6; i++) {
            due("LAW " + i, Bench.law(x, "worth " + i), i);
            due("LAWS", x.count(2), i + 1);
            due("the TAPE is empty", x.count(3), 0);
        }
        for (String text : new String[] {"bars", "bars bars", "", " ", "worth 1001"}) {
            SoleGuest y = new SoleGuest();
            full(y);
            y.end(0);
            Bench.feed(y, text);
            int before = y.count(7);
            int texts = y.count(8);
            due("the 7th, '" + text + "'", y.law(), -5);
            due("status", y.status(), -5);
            due("counted", y.count(7), before + 1);
            due("not as -6", y.count(8), texts);
            due("not read: no FAULT", y.fault(), NONE);
            due("the TAPE is empty then, too", y.count(3), 0);
            due("six LAWS", y.count(2), 6);
        }
        SoleGuest z = new SoleGuest();
        Bench.law(z, "bars bars");
        for (int i = 0; i < 6; i++) {
            Bench.law(z, "bars");
        }
        due("FAULT of the latest that read a TEXT", z.fault(), NONE);
        Bench.law(z, "bars bars");
        due("FAULT as it was", z.fault(), NONE);
        // FAULT isn't kept by an IMAGE, so a FAULT can stand while there is no room
        SoleGuest w = new SoleGuest();
        for (int i = 0; i < 6; i++) {
            w.image(i < 5 ? 0 : 1);
            Bench.law(w, "bars");
        }
        w.image(0);
        w.back(1);
        due("a FAULT", Bench.law(w, "bars bars"), -6);
        w.back(0);
        due("no room", Bench.law(w, "bars"), -5);
        due("FAULT stays, for it was not read", w.fault(), 5);
        Twins empty = new Twins(CHECKS, "full, an empty TAPE", y -> {
            full(y);
            y.end(0);
        });
        empty.refused("law()", y -> y.law(), -5, -5);
        empty.refused("law() of a TEXT", y -> Bench.law(y, "bars"), -5, -5);
        empty.refused("law() of a wrong TEXT", y -> Bench.law(y, "bars bars"), -5, -5);
    }

    private static void lawTexts() {
        // FAULT is the one thing that changes: the same was there already
        new Twins(CHECKS, "a FAULT at 0", x -> x.law()).refused("law() of an empty TAPE", x -> x.law(), -6, -6);
        new Twins(CHECKS, "a FAULT at 8", x -> {
            small(x);
            x.end(0);
        }).refused("law()", x -> Bench.law(x, "worth 9;if"), -6, -6);
        for (int n : new int[] {0, 1, 20, 399, 400}) {
            SoleGuest x = new SoleGuest();
            due(n + " blanks", Bench.law(x, Bench.times(" ", n)), -6);
            due("FAULT of " + n + " blanks at the end", x.fault(), n);
            due("status", x.status(), -6);
            due("counted", x.count(8), 1);
            due("no LAW", x.count(2), 0);
            due("the TAPE is empty then", x.count(3), 0);
        }
        SoleGuest x = new SoleGuest();
        Bench.law(x, "worth");
        due("FAULT", x.fault(), 5);
        Bench.rows(x, 1);
        x.row();
        due("a REFUSED row() is no TEXT", x.fault(), 5);
        due("a LAW of all 400 bytes", Bench.law(x, Bench.times(" ", 396) + "bars"), 0);
        due("NONE without", x.fault(), NONE);
        Bench.law(x, "w");
        due("FAULT at 0", x.fault(), 0);
    }

    private static void forces() {
        for (int law : new int[] {-2, 1, 6, LEAST, GREATEST}) {
            SMALL.refused("force(" + law + ")", x -> x.force(law), -2, -2);
        }
        for (int law : new int[] {-2, 6, LEAST, GREATEST}) {
            FULL.refused("force(" + law + ")", x -> x.force(law), -2, -2);
        }
        EMPTY.refused("force(0)", x -> x.force(0), -2, -2);
        EMPTY.granted("force(NONE)", x -> x.force(NONE), NONE);
        SMALL.granted("force(NONE)", x -> x.force(NONE), 0);
        SMALL.granted("force(0) again", x -> x.force(0), 0);
        FULL.granted("force(0)", x -> x.force(0), 5);
        FULL.granted("force(5) again", x -> x.force(5), 5);
        SoleGuest x = new SoleGuest();
        full(x);
        x.force(0);
        due("the first LAW", x.of(0, 0, 1), 10);
        x.force(5);
        due("the last LAW", x.of(0, 0, 1), 15);
        due("count of it", x.count(9), 5);
        x.force(NONE);
        due("none", x.of(0, 0, 1), 10);
        due("count of none", x.count(9), NONE);
        due("LAWS stay", x.count(2), 6);
    }

    private static void asks() {
        for (int h : new int[] {-1, 2, LEAST, GREATEST}) {
            SMALL.refused("ask of HOST " + h, x -> x.ask(h, 0), -2, -2);
            SMALL.refused("ask nobody of HOST " + h, x -> x.ask(h, NONE), -2, -2);
        }
        for (int g : new int[] {-2, 3, LEAST, GREATEST}) {
            SMALL.refused("ask GUEST " + g, x -> x.ask(0, g), -2, -2);
        }
        EMPTY.refused("ask", x -> x.ask(0, 0), -2, -2);
        EMPTY.refused("ask nobody", x -> x.ask(0, NONE), -2, -2);
        FULL.refused("ask of HOST 5", x -> x.ask(5, 0), -2, -2);
        FULL.refused("ask GUEST 6", x -> x.ask(0, 6), -2, -2);
        SMALL.granted("ask nobody", x -> x.ask(0, NONE), 0);
        SMALL.granted("ask the last GUEST", x -> x.ask(0, 2), 0);
        SMALL.granted("ask a BARRED one", x -> x.ask(1, 2), 1);
        FULL.granted("ask of the last HOST", x -> x.ask(4, 5), 4);
        SoleGuest x = Bench.street(Bench.row(1, 2));
        due("nobody at first", x.ask(0, 1), NONE);
        due("whom he was", x.ask(0, NONE), 1);
        due("nobody again", x.ask(0, 0), NONE);
    }

    private static void diceNumbers() {
        outside("dice", 0, 10, -1, (x, v) -> x.dice(0, 0, v));
        outside("dice of no HOST", 0, 10, -1, (x, v) -> x.dice(9, 0, v));
        outside("dice of no GUEST", 0, 10, -1, (x, v) -> x.dice(0, 9, v));
        for (int h : new int[] {-1, 2, LEAST, GREATEST}) {
            SMALL.refused("dice of HOST " + h, x -> x.dice(h, 0, 0), -2, -2);
            SMALL.refused("all dice of HOST " + h, x -> x.dice(h, 0, 10), -2, -2);
        }
        for (int g : new int[] {-1, 3, LEAST, GREATEST}) {
            SMALL.refused("dice of GUEST " + g, x -> x.dice(0, g, 0), -2, -2);
            SMALL.refused("all dice of GUEST " + g, x -> x.dice(0, g, 10), -2, -2);
        }
        EMPTY.refused("dice of nobody", x -> x.dice(0, 0, 0), -2, -2);
        FULL.refused("dice of HOST 5", x -> x.dice(5, 0, 0), -2, -2);
        FULL.refused("dice of GUEST 6", x -> x.dice(0, 6, 0), -2, -2);
    }

    /** HOST 0 of the small one has 4 for GUEST 0 and 3 for GUEST 2, HOST 1 all 10 for GUEST 1. */
    private static void diceTogether() {
        for (int t = 0; t <= 10; t++) {
            int tenths = t;
            if (t <= 3) {
                SMALL.granted("dice(0, 1, " + t + ")", x -> x.dice(0, 1, tenths), 0);
            } else {
                SMALL.refused("dice(0, 1, " + t + ")", x -> x.dice(0, 1, tenths), -3, -3);
            }
            if (t <= 7) {
                SMALL.granted("dice(0, 0, " + t + ")", x -> x.dice(0, 0, tenths), 4);
            } else {
                SMALL.refused("dice(0, 0, " + t + ")", x -> x.dice(0, 0, tenths), -3, -3);
            }
            SMALL.granted("dice(1, 1, " + t + ")", x -> x.dice(1, 1, tenths), 10);
        }
        SMALL.granted("none more", x -> x.dice(1, 0, 0), 0);
        SMALL.refused("one more", x -> x.dice(1, 0, 1), -3, -3);
        SMALL.refused("one more for a BARRED one", x -> x.dice(1, 2, 1), -3, -3);
        FULL.refused("one more", x -> x.dice(4, 0, 1), -3, -3);
        FULL.refused("one more instead", x -> x.dice(4, 5, 6), -3, -3);
        FULL.granted("as they were", x -> x.dice(4, 5, 5), 5);
        SoleGuest x = new SoleGuest();
        Bench.crowd(x, 1, 6);
        for (int g = 0; g < 5; g++) {
            due("two each", x.dice(0, g, 2), 0);
        }
        due("no tenth is left", x.dice(0, 5, 1), -3);
        due("it was 2", x.dice(0, 3, 0), 2);
        due("two are left", x.dice(0, 5, 3), -3);
        due("two are left", x.dice(0, 5, 2), 0);
    }

    /** What is left of the TENTHS is for nobody. */
    private static void diceLeft() {
        for (int t = 0; t <= 10; t++) {
            SoleGuest x = Bench.street(Bench.row(7));
            x.terms(1, -3);
            x.dice(0, 0, t);
            due("mean by " + t + " TENTHS", x.mean(0), 60 * (7 * t - 3 * (10 - t)));
        }
    }

    private static void manners() {
        outside("manner", 0, 5, -1, (x, v) -> x.manner(0, v));
        outside("manner of no HOST", 0, 5, -1, (x, v) -> x.manner(9, v));
        for (int v = 0; v <= 5; v++) {
            int manner = v;
            SMALL.granted("manner(0, " + v + ")", x -> x.manner(0, manner), 3);
            FULL.granted("manner(4, " + v + ")", x -> x.manner(4, manner), 5);
            EMPTY.refused("manner(0, " + v + ")", x -> x.manner(0, manner), -2, -2);
            SoleGuest x = new SoleGuest();
            x.host(0);
            due("it was 0", x.manner(0, v), 0);
            due("it was " + v, x.manner(0, 0), v);
        }
        for (int h : new int[] {-1, 2, LEAST, GREATEST}) {
            SMALL.refused("manner of HOST " + h, x -> x.manner(h, 0), -2, -2);
        }
        FULL.refused("manner of HOST 5", x -> x.manner(5, 5), -2, -2);
    }

    private static void years() {
        outside("year, SEED", 0, 1000000, -1, (x, v) -> x.year(v, 3));
        outside("year, evenings", 1, 40, -1, (x, v) -> x.year(3, v));
        SMALL.refused("year, both", x -> x.year(-1, 41), -1, -1);
        EMPTY.granted("SEED 0, an evening", x -> x.year(0, 1), 0);
        EMPTY.granted("SEED 1000000, 40 evenings", x -> x.year(1000000, 40), 0);
        SoleGuest x = new SoleGuest();
        x.host(0);
        due("an evening alone", x.year(0, 1), 1);
        due("40 evenings alone", x.year(1000000, 40), 40);
        due("evening 39", x.dined(39, 0, 0), NONE);
        x.guest(0);
        x.ask(0, 0);
        x.base(0, 0, 1);
        x.year(0, 2);
        due("a REFUSED one", x.year(0, 0), -1);
        due("the latest that was not REFUSED", x.earned(0), 120);
        due("evening 1", x.dined(1, 0, 1), 0);
        due("no evening 2", x.dined(2, 0, 1), NONE);
    }

    private static void images() {
        outside("image", 0, 1, -1, (x, v) -> x.image(v));
        outside("back", 0, 1, -1, (x, v) -> x.back(v));
        EMPTY.granted("image(0)", x -> x.image(0), 0);
        EMPTY.granted("image(1)", x -> x.image(1), 0);
        EMPTY.refused("back(0), never kept", x -> x.back(0), -2, -2);
        SMALL.granted("back(0)", x -> x.back(0), 0);
        SMALL.refused("back(1), never kept", x -> x.back(1), -2, -2);
        FULL.granted("back(0)", x -> x.back(0), 0);
        FULL.granted("back(1)", x -> x.back(1), 0);
        SoleGuest x = new SoleGuest();
        x.image(0);
        due("the other wasn't kept", x.back(1), -2);
        full(x);
        due("BACK to the last kept", x.back(0), 0);
        due("HOSTS of it", x.count(0), 5);
        SoleGuest y = new SoleGuest();
        y.image(1);
        y.host(3);
        y.image(0);
        due("BACK to an empty one", y.back(1), 0);
        due("no HOST", y.count(0), 0);
        due("BACK again, for IMAGES stay", y.back(0), 0);
        due("a HOST", y.count(0), 1);
        y.back(1);
        y.image(0);
        y.back(0);
        due("an IMAGE kept anew", y.count(0), 0);
    }

    private static void imagesKeep() {
        SoleGuest x = new SoleGuest();
        small(x);
        x.image(1);
        Bench.force(x, "bars");
        x.host(9);
        x.guest(9);
        Bench.rows(x, 0, 0, 1, 1, 1, 1, 2, 3, 1);
        x.terms(0, 1);
        x.terms(1, 50);
        x.ask(0, 3);
        x.ask(2, 3);
        x.dice(0, 0, 1);
        x.dice(2, 3, 1);
        x.manner(0, 1);
        x.manner(2, 1);
        due("BACK", x.back(1), 0);
        due("HOSTS", x.count(0), 2);
        due("GUESTS", x.count(1), 3);
        due("LAWS", x.count(2), 1);
        due("FORCE", x.count(9), 0);
        due("CUSTOM", x.count(10), 2);
        due("BASE", x.of(0, 0, 0), 10);
        due("BASE", x.of(1, 1, 0), -3);
        due("LONE", x.terms(1, 1), 1);
        due("TOLD", x.ask(0, 0), 0);
        due("TOLD", x.ask(1, 1), 1);
        due("DICE", x.dice(0, 0, 4), 4);
        due("DICE", x.dice(1, 1, 10), 10);
        due("MANNER", x.manner(0, 3), 3);
        due("MANNER", x.manner(1, 5), 5);
        due("no such LAW now", x.force(1), -2);
        due("a HOST anew", x.host(0), 2);
        due("a GUEST anew", x.guest(0), 3);
        due("BASE 0 at first, again", x.of(2, 3, 0), 0);
        due("TOLD nobody at first, again", x.ask(2, NONE), NONE);
        due("DICE 0 at first, again", x.dice(2, 3, 0), 0);
        due("MANNER 0 at first, again", x.manner(2, 0), 0);
        due("a LAW anew", Bench.law(x, "worth 1"), 1);
        imagesKeepLaws();
    }

    /** Each IMAGE has its own LAWS, from the first to the sixth. */
    private static void imagesKeepLaws() {
        SoleGuest x = Bench.street(Bench.row(50));
        x.image(0);
        for (int i = 0; i < 6; i++) {
            due("a LAW", Bench.law(x, "worth " + i), i);
        }
        x.image(1);
        x.back(0);
        due("no LAWS", x.count(2), 0);
        for (int i = 0; i < 6; i++) {
            due("another LAW", Bench.law(x, "worth 1" + i), i);
        }
        x.image(0);
        for (int k = 1; k >= 0; k--) {
            x.back(k);
            for (int i = 0; i < 6; i++) {
                x.force(i);
                due("LAW " + i + " of IMAGE " + k, x.of(0, 0, 1), k == 1 ? i : 10 + i);
            }
        }
    }

    private static void imagesKeepNot() {
        SoleGuest x = new SoleGuest();
        small(x);
        x.image(1);
        x.end(0);
        Bench.law(x, "bars;");
        Bench.rows(x, 9, 9, 9, 9);
        x.host(10);
        x.ask(9, 9);
        x.dice(0, 0, 10);
        x.row();
        Bench.feed(x, "worth 66");
        x.ask(0, 1);
        x.manner(0, 0);
        x.year(0, 2);
        int[] refused = new int[9];
        for (int what = 4; what <= 8; what++) {
            refused[what] = x.count(what);
        }
        int earned = x.earned(0);
        due("BACK", x.back(1), 0);
        due("status tells of BACK itself", x.status(), 0);
        due("bytes of the TAPE", x.count(3), 8);
        due("FAULT", x.fault(), 5);
        due("SMUDGED", x.smudged(), 2);
        due("the latest YEAR", x.earned(0), earned);
        due("the latest YEAR", x.dined(1, 0, 0), 1);
        due("no evening 2", x.dined(2, 0, 0), NONE);
        for (int what = 4; what <= 8; what++) {
            due("REFUSED " + what, x.count(what), refused[what]);
        }
        x.force(x.law());
        due("what is on the TAPE", x.of(0, 0, 1), 66);
    }

    private static void counts() {
        for (int what : new int[] {-1, 11, LEAST, GREATEST}) {
            EMPTY.idle("count(" + what + ")", x -> x.count(what), NONE);
            SMALL.idle("count(" + what + ")", x -> x.count(what), NONE);
        }
        int[] small = {2, 3, 1, 7, 0, 1, 0, 0, 1, 0, 2};
        int[] full = {5, 6, 6, 400, 0, 0, 1, 0, 0, 5, 2};
        for (int i = 0; i <= 10; i++) {
            int what = i;
            SMALL.idle("count(" + i + ")", x -> x.count(what), small[i]);
            FULL.idle("count(" + i + ")", x -> x.count(what), full[i]);
        }
        SoleGuest x = new SoleGuest();
        full(x);
        for (int i = 1; i <= 9; i++) {
            x.host(10);
            x.ask(9, 0);
            x.dice(0, 1, 1);
            x.guest(0);
            x.end(0);
            x.row();
            due("by -1", x.count(4), i);
            due("by -2", x.count(5), i);
            due("by -3", x.count(6), i + 1);
            due("by -5", x.count(7), i);
            due("by -6", x.count(8), i);
        }
    }

    /** -1, -2, -3, -5, -6: the first of these in that order. */
    private static void firstOfRefusals() {
        FULL.refused("-1 ahead of -5: host", x -> x.host(-1), -1, -1);
        FULL.refused("-1 ahead of -5: guest", x -> x.guest(-1), -1, -1);
        EMPTY.refused("-1 ahead of -2: base", x -> x.base(0, 0, 100), NOTHING, -1);
        EMPTY.refused("-1 ahead of -2: dice", x -> x.dice(0, 0, 11), -1, -1);
        EMPTY.refused("-1 ahead of -2: manner", x -> x.manner(0, 6), -1, -1);
        EMPTY.refused("-1 ahead of -2: back", x -> x.back(2), -1, -1);
        FULL.refused("-1 ahead of -3: dice", x -> x.dice(0, 1, 11), -1, -1);
        FULL.refused("-2 ahead of -3: dice", x -> x.dice(5, 1, 10), -2, -2);
        FULL.refused("-2 ahead of -3: dice", x -> x.dice(0, 6, 10), -2, -2);
        SoleGuest x = new SoleGuest();
        full(x);
        due("-5 ahead of -6: law", x.law(), -5);
        due("-5 ahead of -6: law", x.status(), -5);
    }

    private static int statusOf(Consumer<SoleGuest> call) {
        SoleGuest x = new SoleGuest();
        full(x);
        x.end(0);
        call.accept(x);
        return x.status();
    }

    private static void statuses() {
        due("status of host", statusOf(x -> x.host(0)), -5);
        due("status of guest", statusOf(x -> x.guest(0)), -5);
        due("status of base", statusOf(x -> x.base(0, 6, 0)), -2);
        due("status of base, granted", statusOf(x -> x.base(0, 5, 0)), 0);
        due("status of terms", statusOf(x -> x.terms(0, 3)), -1);
        due("status of terms, granted", statusOf(x -> x.terms(0, 0)), 0);
        due("status of row", statusOf(x -> x.row()), -6);
        due("status of row, granted", statusOf(x -> Bench.rows(x, 9)), 0);
        due("status of law", statusOf(x -> x.law()), -5);
        due("status of force", statusOf(x -> x.force(6)), -2);
        due("status of force, granted", statusOf(x -> x.force(NONE)), 0);
        due("status of ask", statusOf(x -> x.ask(5, 0)), -2);
        due("status of ask, granted", statusOf(x -> x.ask(4, NONE)), 0);
        due("status of dice", statusOf(x -> x.dice(1, 0, 1)), -3);
        due("status of dice, granted", statusOf(x -> x.dice(1, 0, 0)), 0);
        due("status of manner", statusOf(x -> x.manner(5, 0)), -2);
        due("status of manner, granted", statusOf(x -> x.manner(4, 0)), 0);
        due("status of year", statusOf(x -> x.year(0, 41)), -1);
        due("status of year, granted", statusOf(x -> x.year(0, 1)), 0);
        due("status of image", statusOf(x -> x.image(2)), -1);
        due("status of image, granted", statusOf(x -> x.image(1)), 0);
        due("status of back", statusOf(x -> x.back(2)), -1);
        due("status of back, granted", statusOf(x -> x.back(1)), 0);
        SoleGuest x = new SoleGuest();
        x.row();
        due("REFUSED", x.status(), -6);
        due("asked again", x.status(), -6);
        x.host(1);
        due("host, granted", x.status(), 0);
        x.row();
        x.guest(1);
        due("guest, granted", x.status(), 0);
        x.row();
        Bench.law(x, "bars");
        due("law, granted", x.status(), 0);
    }

    /** Calls that status() doesn't tell of: whatever they answer, nothing is counted, and status stays. */
    private static void lookingRefusesNothing() {
        for (int v : new int[] {-1000, -2, -1, 0, 1, 2, 3, 7, 1000, LEAST, GREATEST}) {
            untouched("smudged", v, x -> x.smudged());
            untouched("fault", v, x -> x.fault());
            untouched("of", v, x -> x.of(v, v, v));
            untouched("end", v, x -> v <= 0 || v >= 7 ? x.end(v == 0 ? -1 : v) : 0);
            untouched("asked", v, x -> x.asked(v));
            untouched("goes", v, x -> x.goes(v));
            untouched("gain", v, x -> x.gain(v));
            untouched("most", v, x -> x.most(v));
            untouched("mostOf", v, x -> x.mostOf(v));
            untouched("fair", v, x -> x.fair(v));
            untouched("steady", v, x -> x.steady());
            untouched("steadyOf", v, x -> x.steadyOf(v, v));
            untouched("steadySum", v, x -> x.steadySum(v));
            untouched("answers", v, x -> x.answers(v));
            untouched("rounds", v, x -> x.rounds(v));
            untouched("turned", v, x -> x.turned(v));
            untouched("breaks", v, x -> x.breaks(v));
            untouched("breaker", v, x -> x.breaker());
            untouched("mean", v, x -> (int) x.mean(v));
            untouched("restless", v, x -> x.restless());
            untouched("alike", v, x -> (int) x.alike(v));
            untouched("alikeOf", v, x -> x.alikeOf(v));
            untouched("dined", v, x -> x.dined(v, v, v));
            untouched("earned", v, x -> x.earned(v));
            untouched("settled", v, x -> x.settled());
            untouched("count", v, x -> x.count(v));
            untouched("status", v, x -> x.status());
        }
    }

    private interface Look {
        int look(SoleGuest x);
    }

    private static void untouched(String call, int v, Look look) {
        SoleGuest x = new SoleGuest();
        small(x);
        int due = look.look(x);
        SMALL.idle(call + " with " + v, look::look, due);
        EMPTY.idle(call + " with " + v, look::look, look.look(new SoleGuest()));
    }

    /** An object is used for at most 512 calls: the 512th still answers. */
    private static void calls() {
        SoleGuest x = new SoleGuest();
        IntUnaryOperator ask = i -> x.ask(i % 5, (i + i / 30) % 6);
        Bench.crowd(x, 5, 6);
        int[] told = {NONE, NONE, NONE, NONE, NONE};
        for (int i = 11; i < 511; i++) {
            due("call " + (i + 1), ask.applyAsInt(i), told[i % 5]);
            told[i % 5] = (i + i / 30) % 6;
        }
        due("call 512", x.ask(0, 0), told[0]);
    }
}
