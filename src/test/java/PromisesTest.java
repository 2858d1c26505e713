/** Each promise of the document by hand-made runs: ordinary inputs, the edges that are named, wrong inputs. */
public final class PromisesTest {
    private static final int NONE = -1;
    private static final int NOTHING = -1000000;
    private static final Checks CHECKS = new Checks("PromisesTest");

    public static void main(String[] args) {
        newObject();
        hostsAndGuests();
        bases();
        terms();
        tape();
        rows();
        lawNumbers();
        faults();
        faultLimits();
        worths();
        broken();
        forces();
        asking();
        gains();
        mostAndFair();
        steady();
        answers();
        turns();
        ring();
        sets();
        dice();
        means();
        rest();
        alike();
        manners();
        yearNumbers();
        yearAsTold();
        yearByAnswers();
        yearByHope();
        yearByDice();
        yearByEnvy();
        yearByKeeping();
        yearByLot();
        yearBarred();
        images();
        counts();
        extremes();
        CHECKS.close();
    }

    private static void due(String what, long got, long want) {
        CHECKS.same(what, got, want);
    }

    private static SoleGuest street(int[]... bases) {
        return Bench.street(bases);
    }

    private static int[] row(int... values) {
        return values;
    }

    private static void feed(SoleGuest x, String text) {
        Bench.feed(x, text);
    }

    private static int law(SoleGuest x, String text) {
        return Bench.law(x, text);
    }

    private static void force(SoleGuest x, String text) {
        int law = law(x, text);
        due("law '" + text + "' is read", law >= 0 ? 0 : law, 0);
        x.force(law);
    }

    private static void newObject() {
        SoleGuest x = new SoleGuest();
        for (int what = 0; what <= 8; what++) {
            due("new: count(" + what + ")", x.count(what), 0);
        }
        due("new: count(9)", x.count(9), NONE);
        due("new: count(10)", x.count(10), 0);
        due("new: status", x.status(), 0);
        due("new: fault", x.fault(), NONE);
        due("new: smudged", x.smudged(), 0);
        due("new: of", x.of(0, 0, 0), NOTHING);
        due("new: asked", x.asked(0), NONE);
        due("new: goes", x.goes(0), NONE);
        due("new: gain(0)", x.gain(0), NOTHING);
        due("new: gain of all", x.gain(NONE), 0);
        due("new: most", x.most(0), 0);
        due("new: most in one", x.most(1), 1);
        due("new: mostOf", x.mostOf(0), NONE);
        due("new: fair", x.fair(0), NOTHING);
        due("new: fair in", x.fair(1), NOTHING);
        due("new: steady", x.steady(), 1);
        due("new: steadyOf", x.steadyOf(0, 0), NONE);
        due("new: steadySum", x.steadySum(1), 0);
        due("new: rounds", x.rounds(0), 1);
        due("new: rounds steady", x.rounds(1), 1);
        due("new: turned", x.turned(0), NONE);
        due("new: breaks", x.breaks(1), NONE);
        due("new: breaker", x.breaker(), NONE);
        due("new: mean", x.mean(0), NOTHING);
        due("new: mean of all", x.mean(NONE), 0);
        due("new: restless", x.restless(), NONE);
        due("new: alike", x.alike(0), 0);
        due("new: alike rows", x.alike(1), 1);
        due("new: alikeOf", x.alikeOf(0), NONE);
        due("new: dined", x.dined(0, 0, 0), NONE);
        due("new: earned", x.earned(0), NOTHING);
        due("new: settled", x.settled(), NONE);
        due("new: year", x.year(5, 3), 0);
        due("new: settled behind a year", x.settled(), 0);
    }

    private static void hostsAndGuests() {
        SoleGuest x = new SoleGuest();
        due("host(-1)", x.host(-1), -1);
        due("host(10)", x.host(10), -1);
        due("guest(-1)", x.guest(-1), -1);
        due("guest(10)", x.guest(10), -1);
        due("none came", x.count(0) + x.count(1), 0);
        for (int i = 0; i < 5; i++) {
            due("host " + i, x.host(i == 4 ? 9 : 0), i);
        }
        due("host 5", x.host(0), -5);
        due("status of no room", x.status(), -5);
        due("a number that can't be is first", x.host(11), -1);
        for (int i = 0; i < 6; i++) {
            due("guest " + i, x.guest(i == 5 ? 9 : 0), i);
        }
        due("guest 6", x.guest(9), -5);
        due("guest with a wrong wit", x.guest(-3), -1);
        due("hosts", x.count(0), 5);
        due("guests", x.count(1), 6);
        force(x, "worth street*10+wit");
        due("street and wit", x.of(4, 5, 1), 99);
        due("street and wit of the first", x.of(0, 0, 1), 0);
    }

    private static void bases() {
        SoleGuest x = street(row(0, 0), row(0, 0));
        due("base", x.base(1, 0, -99), 0);
        due("base again", x.base(1, 0, 99), -99);
        due("status", x.status(), 0);
        due("of 0", x.of(1, 0, 0), 99);
        due("another's", x.of(0, 1, 0), 0);
        due("base 100", x.base(1, 0, 100), NOTHING);
        due("status", x.status(), -1);
        due("base -100", x.base(1, 0, -100), NOTHING);
        due("no host, wrong base", x.base(2, 0, -100), NOTHING);
        due("the number is first", x.status(), -1);
        due("no host", x.base(2, 0, 5), NOTHING);
        due("status", x.status(), -2);
        due("no guest", x.base(0, 2, 5), NOTHING);
        due("status", x.status(), -2);
        due("below", x.base(-1, 0, 5), NOTHING);
        due("below", x.base(0, -1, 5), NOTHING);
        due("it stands", x.of(1, 0, 0), 99);
        due("of 1 without a law", x.of(1, 0, 1), 99);
        due("of 2 without a law", x.of(1, 0, 2), 0);
        due("of 3", x.of(1, 0, 3), NOTHING);
        due("of -1", x.of(1, 0, -1), NOTHING);
        due("of no host", x.of(2, 0, 0), NOTHING);
        due("of no guest", x.of(0, 2, 1), NOTHING);
        due("refused by -1", x.count(4), 3);
        due("refused by -2", x.count(5), 4);
    }

    private static void terms() {
        SoleGuest x = new SoleGuest();
        due("custom", x.terms(0, 2), 0);
        due("custom", x.terms(0, 1), 2);
        due("custom 3", x.terms(0, 3), NOTHING);
        due("status", x.status(), -1);
        due("custom -1", x.terms(0, -1), NOTHING);
        due("custom stands", x.count(10), 1);
        due("lone", x.terms(1, -99), 0);
        due("lone", x.terms(1, 99), -99);
        due("status", x.status(), 0);
        due("lone 100", x.terms(1, 100), NOTHING);
        due("lone -100", x.terms(1, -100), NOTHING);
        due("lone stands", x.terms(1, 0), 99);
        due("no such term", x.terms(2, 0), NOTHING);
        due("no such term", x.terms(-1, 0), NOTHING);
        due("status", x.status(), -1);
        due("refused by -1", x.count(4), 6);
    }

    private static void tape() {
        SoleGuest x = new SoleGuest();
        for (int i = 1; i <= 20; i++) {
            due("feed", x.feed(0, 0, 0, 0, 0), 20 * i);
        }
        due("full", x.feed(0, 0, 0, 0, 0), NONE);
        due("bytes", x.count(3), 400);
        due("end beyond", x.end(401), NONE);
        due("end below", x.end(-1), NONE);
        due("end at all", x.end(400), 400);
        due("end", x.end(381), 381);
        due("19 left", x.feed(0, 0, 0, 0, 0), NONE);
        due("bytes", x.count(3), 381);
        due("end", x.end(380), 380);
        due("20 left", x.feed(0, 0, 0, 0, 0), 400);
        due("end 0", x.end(0), 0);
        due("end 0 again", x.end(0), 0);
        due("end 1", x.end(1), NONE);
        due("neither is refused", x.status(), 0);
        due("nor counted", x.count(4), 0);
        SoleGuest y = street(row(0, 0));
        y.feed(0x00006500, 0x01c70000, 0x64ffffff, -1, 0x80000000);
        y.end(9);
        due("highest byte first", y.row(), 3);
        due("host 0 guest 0 base 0x64", y.of(0, 0, 0), 0);
        due("host 0 guest 1 base 0xc7", y.of(0, 1, 0), 99);
    }

    private static void rows() {
        SoleGuest x = street(row(7, 0), row(0, 8));
        due("empty", x.row(), -6);
        due("status", x.status(), -6);
        due("smudged", x.smudged(), 0);
        feed(x, "" + (char) 0 + (char) 0 + (char) 1 + (char) 1 + (char) 1 + (char) 199);
        due("two", x.row(), 2);
        due("status", x.status(), 0);
        due("base", x.of(0, 0, 0), -99);
        due("base", x.of(1, 1, 0), 99);
        due("empty then", x.count(3), 0);
        due("smudged", x.smudged(), 0);
        feed(x, "" + (char) 0 + (char) 1 + (char) 0 + (char) 0 + (char) 1 + (char) 200 + (char) 2 + (char) 0
            + (char) 50 + (char) 0 + (char) 2 + (char) 50 + (char) 255 + (char) 0 + (char) 50 + (char) 0 + (char) 1);
        due("none", x.row(), 0);
        due("status", x.status(), 0);
        due("six smudged", x.smudged(), 6);
        due("as it was", x.of(0, 1, 0), 0);
        feed(x, "" + (char) 0 + (char) 1 + (char) 105 + (char) 0 + (char) 1 + (char) 106 + (char) 0);
        due("the same twice", x.row(), 2);
        due("the later", x.of(0, 1, 0), 6);
        due("one smudged", x.smudged(), 1);
        due("empty again", x.row(), -6);
        due("smudged as it was", x.smudged(), 1);
    }

    private static void lawNumbers() {
        SoleGuest x = new SoleGuest();
        for (int i = 0; i < 6; i++) {
            due("law " + i, law(x, "bars"), i);
        }
        due("no fault", x.fault(), NONE);
        due("laws", x.count(2), 6);
        due("no room", law(x, "bars bars"), -5);
        due("status", x.status(), -5);
        due("not read", x.fault(), NONE);
        due("the tape is empty", x.count(3), 0);
        due("no room, an empty tape", x.law(), -5);
        SoleGuest y = new SoleGuest();
        due("empty", y.law(), -6);
        due("fault at the end", y.fault(), 0);
        due("blanks", law(y, "   "), -6);
        due("fault at the end", y.fault(), 3);
        due("the tape is empty", y.count(3), 0);
        due("status", y.status(), -6);
        due("a law then", law(y, "bars"), 0);
        due("no fault then", y.fault(), NONE);
    }

    private static void fault(String text, int place) {
        SoleGuest x = new SoleGuest();
        due("law of '" + text + "'", law(x, text), place == NONE ? 0 : -6);
        due("fault of '" + text + "'", x.fault(), place);
        due("laws of '" + text + "'", x.count(2), place == NONE ? 1 : 0);
    }

    private static void faults() {
        fault("bars", NONE);
        fault("  bars  ", NONE);
        fault("worth 5", NONE);
        fault("worth5if1=1", NONE);
        fault("worth base*2+wit/3-[street-1]*met if evening>0 and not(host=1 or guest<2);bars", NONE);
        fault("bars if [1]=[[2]]", NONE);
        fault("bars if not not 1=1", NONE);
        fault("bars if (1=1)and((2=2))", NONE);
        fault("worth 0001000", NONE);
        fault("worth 1001", 6);
        fault("worth 99999999999999999999", 6);
        fault("worth", 5);
        fault("worth ", 6);
        fault("worth -1", 6);
        fault("worth 5 5", 8);
        fault("worth 5 < 6", 8);
        fault("worth (5)", 6);
        fault("worth [5", 8);
        fault("worth [5)", 8);
        fault("worth []", 7);
        fault("worth 5 +", 9);
        fault("worth 5 + ;", 10);
        fault("worths", 0);
        fault("Worth 5", 0);
        fault("bars 3", 5);
        fault("bars if", 7);
        fault("bars if 1", 9);
        fault("bars if 1=", 10);
        fault("bars if 1=1=1", 11);
        fault("bars if (1)", 10);
        fault("bars if (1=1", 12);
        fault("bars if (1=1]", 12);
        fault("bars if [1=1]", 10);
        fault("bars if (1)=1", 10);
        fault("bars if not", 11);
        fault("bars if 1=1 or", 14);
        fault("bars if 1=1 and or 1=1", 16);
        fault("bars if 1=1 not 1=1", 12);
        fault("bars if 1<=2", 10);
        fault("bars;", 5);
        fault("bars ; ; bars", 7);
        fault(";bars", 0);
        fault("bars if base = hosts", 15);
        fault("bars\tif 1=1", 4);
        fault("bars" + (char) 0, 4);
        fault("bars" + (char) 255, 4);
        fault("worth base if if 1=1", 14);
        fault("worth bars", 6);
        fault("if", 0);
        fault("barsz", 0);
        fault("zbars", 0);
        fault("abars", 0);
        fault("bars{", 4);
        fault("bars`", 4);
        fault("worth 1:", 7);
        fault("worth 1/", 8);
        fault("worth 9", NONE);
        fault("worth 0", NONE);
    }

    private static String times(String piece, int n) {
        return piece.repeat(n);
    }

    private static void faultLimits() {
        fault(times("bars;", 11) + "bars", NONE);
        fault(times("bars;", 12) + "bars", 60);
        fault(times("bars;", 12), 60);
        fault(times("bars;", 12) + " !", 61);
        fault(times("bars;", 12) + times(" ", 4), 64);
        fault("worth " + times("1+", 49) + "1", NONE);
        fault("worth " + times("1+", 50) + "1", 106);
        fault("worth " + times("1+", 50) + "[1]", 107);
        fault("worth " + times("1+", 24) + "met;worth " + times("2*", 24) + "wit", NONE);
        fault("worth " + times("1+", 24) + "met;worth " + times("2*", 24) + "wit if evening=1", 119);
        fault("worth " + times("[", 8) + "1" + times("]", 8), NONE);
        fault("worth " + times("[", 9) + "1" + times("]", 9), 14);
        fault("bars if " + times("(", 8) + "1=1" + times(")", 8), NONE);
        fault("bars if " + times("(", 9) + "1=1" + times(")", 9), 16);
        fault("bars if " + times("(", 5) + times("[", 3) + "1]]]=1" + times(")", 5), NONE);
        fault("bars if " + times("(", 5) + times("[", 4) + "1]]]]=1" + times(")", 5), 16);
        fault("worth " + times("[1]+", 20) + "[1]", NONE);
        fault("bars if " + times("not ", 97) + "1=1", NONE);
        fault("bars if " + times("not ", 97) + "1=", 398);
        fault("bars if " + times("not ", 98), 400);
        fault(times("!", 400), 0);
        fault("bars" + times(" ", 396), NONE);
        fault("worth" + times("[[[[[[[[1]]]]]]]]+", 21) + "[[[[[[[[1]]]]]]]]", NONE);
        fault("worth" + times("[[[[[[[[1]]]]]]]]+", 21) + "[[[[[[[[1]]]]]]])", 399);
        fault("worth" + times("[[[[[[[[1]]]]]]]]+", 21) + "[[[[[[[[10]]]]]]]", 400);
    }

    private static int worthBy(String text) {
        SoleGuest x = street(row(3, 50, -7), row(11, 22, 33), row(-99, 99, 0));
        force(x, text);
        return x.of(1, 2, 1);
    }

    private static void worths() {
        due("host", worthBy("worth host"), 1);
        due("guest", worthBy("worth guest"), 2);
        due("base", worthBy("worth base"), 33);
        due("wit", worthBy("worth wit"), 3);
        due("street", worthBy("worth street"), 2);
        due("met", worthBy("worth met+5"), 5);
        due("evening", worthBy("worth evening+6"), 6);
        due("times first", worthBy("worth 2+3*4"), 14);
        due("from the left", worthBy("worth 9-3-2"), 4);
        due("from the left", worthBy("worth 24/4/3*5"), 10);
        due("brackets", worthBy("worth [2+3]*4"), 20);
        due("cut towards 0", worthBy("worth 7/2"), 3);
        due("cut towards 0 from below", worthBy("worth [0-7]/2"), -3);
        due("by one below 0", worthBy("worth 7/[0-2]"), -3);
        due("nearest", worthBy("worth 100"), 99);
        due("nearest below", worthBy("worth 0-1000"), -99);
        due("at the edge", worthBy("worth 0-99"), -99);
        due("the last that holds", worthBy("worth 1;worth 2;worth 3 if 1=2"), 2);
        due("none holds", worthBy("worth 1 if 1=2"), 33);
        due("bars alone", worthBy("bars"), 33);
        due("less", worthBy("worth 5 if 1<2"), 5);
        due("less, alike", worthBy("worth 5 if 2<2"), 33);
        due("more", worthBy("worth 5 if 2>1"), 5);
        due("more, alike", worthBy("worth 5 if 2>2"), 33);
        due("same", worthBy("worth 5 if 2=2"), 5);
        due("not", worthBy("worth 5 if not 1=2"), 5);
        due("not not", worthBy("worth 5 if not not 1=2"), 33);
        due("not binds first", worthBy("worth 5 if not 1=1 or 1=1"), 5);
        due("not of brackets", worthBy("worth 5 if not (1=1 or 1=1)"), 33);
        due("and ahead of or", worthBy("worth 5 if 1=1 or 1=1 and 1=2"), 5);
        due("and ahead of or, left", worthBy("worth 5 if 1=2 and 1=1 or 1=1"), 5);
        due("brackets", worthBy("worth 5 if (1=1 or 1=1) and 1=2"), 33);
        due("and", worthBy("worth 5 if 1=1 and 2=2"), 5);
        due("or", worthBy("worth 5 if 1=2 or 2=2"), 5);
        due("or of none", worthBy("worth 5 if 1=2 or 2=3 or 3=4"), 33);
        due("or of the middle", worthBy("worth 5 if 1=2 or 2=2 or 3=4"), 5);
        due("and of three", worthBy("worth 5 if 1=1 and 2=2 and 3=4"), 33);
        SoleGuest x = street(row(3, 50, -7), row(11, 22, 33), row(-99, 99, 0));
        force(x, "bars if host=guest; worth base+1; bars if base>90");
        due("barred", x.of(1, 1, 2), 1);
        due("barred by another", x.of(2, 1, 2), 1);
        due("not barred", x.of(2, 0, 2), 0);
        due("worth of a barred one", x.of(1, 1, 1), 23);
        due("base stays", x.of(1, 1, 0), 22);
    }

    private static void broken() {
        due("just within", worthBy("worth 1000*1000*1000/1000/1000/1000"), 1);
        due("just within below", worthBy("worth [0-1000]*1000*1000/1000/1000/1000"), -1);
        due("just beyond", worthBy("worth [1000*1000*1000+1]/1000/1000/1000"), 33);
        due("just beyond below", worthBy("worth [[0-1000]*1000*1000-1]/1000/1000/1000"), 33);
        due("beyond on the way", worthBy("worth 1000*1000*1000*2/1000/1000/1000"), 33);
        due("over 0", worthBy("worth 1/0"), 33);
        due("over a sum that is 0", worthBy("worth 1/[base-33]"), 33);
        due("0 times over 0", worthBy("worth 0*[1/0]"), 33);
        due("broken leaves the earlier", worthBy("worth 4;worth 1/0"), 4);
        due("broken leaves the later", worthBy("worth 1/0;worth 4"), 4);
        due("broken test", worthBy("worth 5 if 1/0=1"), 33);
        due("not of broken", worthBy("worth 5 if not 1/0=1"), 33);
        due("broken right side", worthBy("worth 5 if 1=1/0"), 33);
        due("or doesn't ask", worthBy("worth 5 if 1=1 or 1/0=1"), 5);
        due("or asks", worthBy("worth 5 if 1=2 or 1/0=1"), 33);
        due("or of broken", worthBy("worth 5 if 1/0=1 or 1=1"), 33);
        due("and doesn't ask", worthBy("worth 5 if not (1=2 and 1/0=1)"), 5);
        due("and asks", worthBy("worth 5 if not (1=1 and 1/0=1)"), 33);
        due("and of broken", worthBy("worth 5 if not (1/0=1 and 1=2)"), 33);
        due("neither asks behind", worthBy("worth 5 if 1=2 and 1/0=1 or 1=1"), 5);
        due("broken sum, test is so", worthBy("worth 1/0 if 1=1"), 33);
        due("broken sum, test isn't", worthBy("worth 1/0 if 1=2"), 33);
        SoleGuest x = street(row(3));
        force(x, "bars if 1/0=1");
        due("broken bars", x.of(0, 0, 2), 0);
        force(x, "bars if 1/0=1;bars if 1=1");
        due("later bars", x.of(0, 0, 2), 1);
    }

    private static void forces() {
        SoleGuest x = street(row(3));
        due("no law yet", x.force(0), -2);
        due("status", x.status(), -2);
        due("none was", x.force(NONE), NONE);
        due("status", x.status(), 0);
        law(x, "worth 1");
        law(x, "worth 2");
        due("not in force by itself", x.of(0, 0, 1), 3);
        due("force", x.force(1), NONE);
        due("in force", x.of(0, 0, 1), 2);
        due("which", x.count(9), 1);
        due("force", x.force(0), 1);
        due("in force", x.of(0, 0, 1), 1);
        due("no such", x.force(2), -2);
        due("no such", x.force(-2), -2);
        due("stands", x.count(9), 0);
        due("out of force", x.force(NONE), 0);
        due("base", x.of(0, 0, 1), 3);
        due("laws stay", x.count(2), 2);
    }

    private static void asking() {
        SoleGuest x = street(row(1, 2), row(3, 4), row(5, 6));
        due("nobody at first", x.ask(0, 1), NONE);
        due("whom he was", x.ask(0, NONE), 1);
        due("status", x.status(), 0);
        due("no host", x.ask(3, 0), -2);
        due("no host", x.ask(-1, 0), -2);
        due("no guest", x.ask(0, 2), -2);
        due("no guest", x.ask(0, -2), -2);
        due("status", x.status(), -2);
        due("nobody asks", x.asked(1), 0);
        due("goes nowhere", x.goes(1), NONE);
        x.ask(1, 1);
        due("asked by one", x.asked(1), 1);
        due("goes", x.goes(1), 1);
        x.ask(2, 1);
        due("asked by two", x.asked(1), 2);
        due("goes to none", x.goes(1), NONE);
        x.terms(0, 1);
        due("goes to the lowest", x.goes(1), 1);
        x.ask(0, 1);
        due("goes to the lowest", x.goes(1), 0);
        x.terms(0, 2);
        due("by lot", x.goes(1), NONE);
        due("no guest", x.asked(2), NONE);
        due("no guest", x.asked(-1), NONE);
        due("no guest", x.goes(2), NONE);
        x.ask(0, 0);
        due("by lot alone", x.goes(0), 0);
        force(x, "bars if host=1 and guest=1");
        due("the barred one doesn't ask", x.asked(1), 1);
        due("goes to the other", x.goes(1), 2);
        due("told all the same", x.ask(1, 1), 1);
        x.force(NONE);
        due("asks again", x.asked(1), 2);
    }

    private static void gains() {
        SoleGuest x = street(row(10, 1), row(7, 2), row(-5, 3), row(4, 4));
        x.terms(1, -3);
        due("alone", x.gain(0), -180);
        due("all alone", x.gain(NONE), -720);
        x.ask(0, 0);
        due("with a guest", x.gain(0), 600);
        x.ask(1, 0);
        x.ask(2, 0);
        x.ask(3, 1);
        due("asked by three", x.gain(0), -180);
        due("another", x.gain(3), 240);
        due("all", x.gain(NONE), -300);
        x.terms(0, 1);
        due("the lowest", x.gain(0), 600);
        due("not the lowest", x.gain(1), -180);
        x.terms(0, 2);
        due("by lot of three", x.gain(0), 20 * 10 - 40 * 3);
        due("by lot of three", x.gain(1), 20 * 7 - 40 * 3);
        due("by lot of three", x.gain(2), -20 * 5 - 40 * 3);
        due("all", x.gain(NONE), 80 + 20 - 220 + 240);
        x.ask(3, 0);
        due("by lot of four", x.gain(3), 15 * 4 - 45 * 3);
        due("no host", x.gain(4), NOTHING);
        due("no host", x.gain(-2), NOTHING);
        force(x, "bars if host=0");
        due("a barred one is alone", x.gain(0), -180);
        due("and out of the lot", x.gain(3), 20 * 4 - 40 * 3);
    }

    private static void mostAndFair() {
        SoleGuest x = street(row(5, 5), row(5, 5));
        due("most", x.most(0), 600);
        due("two ways", x.most(1), 2);
        due("the first", x.mostOf(0), 0);
        due("the first", x.mostOf(1), 1);
        due("fair", x.fair(0), 300);
        due("fair in", x.fair(1), 2);
        due("what 2", x.most(2), NOTHING);
        due("what -1", x.most(-1), NOTHING);
        due("fair 2", x.fair(2), NOTHING);
        due("fair -1", x.fair(-1), NOTHING);
        due("no host", x.mostOf(2), NONE);
        due("no host", x.mostOf(-1), NONE);
        x.terms(1, 6);
        due("better alone", x.most(0), 720);
        due("both ask the same, or nobody, or one nobody", x.most(1), 3);
        due("the first of these", x.mostOf(1), 0);
        due("fair alone", x.fair(0), 360);
        x.base(0, 1, 9);
        due("most of both", x.most(0), 540 + 360);
        due("in one", x.most(1), 1);
        due("whom", x.mostOf(0), 1);
        due("nobody", x.mostOf(1), NONE);
        due("fair", x.fair(0), 360);
        due("both alone in three, or he with 9", x.fair(1), 4);
        force(x, "bars if guest=1");
        due("barred", x.most(0), 720);
        due("barred in", x.most(1), 2);
        due("fair in", x.fair(1), 2);
        x.force(NONE);
        x.terms(0, 1);
        x.force(0);
        due("barred, by the lowest", x.most(1), 1);
        x.force(NONE);
        due("by the lowest", x.most(0), 900);
        due("1 may ask in vain", x.most(1), 2);
        due("the first in vain", x.mostOf(1), 1);
        SoleGuest y = street(row(3, 1), row(2, 9), row(4, 4));
        y.terms(1, -1);
        y.terms(0, 2);
        due("most by lot", y.most(0), 60 * (9 + 4 - 1));
        due("first by lot", y.mostOf(0), NONE);
        due("fair by lot: 0 has a guest, 1 and 2 the other", y.fair(0), 30 * 4 - 30);
        due("fair by lot in", y.fair(1), 1);
    }

    private static void steady() {
        SoleGuest x = street(row(10, 4), row(8, 3));
        due("steady", x.steady(), 2);
        due("first", x.steadyOf(0, 0), 0);
        due("first", x.steadyOf(0, 1), 1);
        due("second", x.steadyOf(1, 0), 1);
        due("second", x.steadyOf(1, 1), 0);
        due("beyond", x.steadyOf(2, 0), NONE);
        due("below", x.steadyOf(-1, 0), NONE);
        due("no host", x.steadyOf(0, 2), NONE);
        due("no host", x.steadyOf(0, -1), NONE);
        due("greatest", x.steadySum(0), 780);
        due("least", x.steadySum(1), 720);
        due("what", x.steadySum(2), NOTHING);
        due("what", x.steadySum(-1), NOTHING);
        x.terms(0, 1);
        due("by the lowest", x.steady(), 1);
        due("by the lowest", x.steadyOf(0, 0), 0);
        due("by the lowest", x.steadyOf(0, 1), 1);
        x.terms(0, 0);
        force(x, "bars if guest=1");
        due("one for two", x.steady(), 4 - 1);
        due("both ask him", x.steadyOf(0, 1), 0);
        due("0 has him", x.steadyOf(1, 1), NONE);
        due("1 has him", x.steadyOf(2, 0), NONE);
        due("least", x.steadySum(1), 0);
        due("greatest", x.steadySum(0), 600);
        x.force(NONE);
        due("as without, for nothing but that changed", x.steady(), 2);
        force(x, "worth 0");
        due("all are alike", x.steady(), 9);
        due("the last", x.steadyOf(8, 0), NONE);
        SoleGuest y = street(row(0, 0, 0, 0, 0, 0), row(0, 0, 0, 0, 0, 0), row(0, 0, 0, 0, 0, 0),
            row(0, 0, 0, 0, 0, 0), row(0, 0, 0, 0, 0, 0));
        due("all of the largest", y.steady(), 16807);
        due("one of them", y.steadyOf(7 * 7 * 7 * 7 * 3 + 5, 0), 3);
        due("one of them", y.steadyOf(7 * 7 * 7 * 7 * 3 + 5, 4), 5);
        due("the last", y.steadyOf(16806, 4), NONE);
        due("beyond", y.steadyOf(16807, 4), NONE);
        due("most", y.most(1), 16807);
        due("fair", y.fair(1), 16807);
        SoleGuest z = street(row(-2), row(1));
        z.terms(0, 2);
        z.terms(1, -1);
        due("one who'd rather be alone", z.steady(), 1);
        due("nobody", z.steadyOf(0, 0), NONE);
        due("him", z.steadyOf(0, 1), 0);
    }

    private static void answers() {
        SoleGuest x = street(row(5, 5, 2), row(5, 9, 1));
        due("two alike", x.answers(0), 3);
        x.ask(1, 1);
        due("one is taken", x.answers(0), 1);
        due("his own asking doesn't matter", x.answers(1), 2);
        x.terms(1, 5);
        due("as good as alone, even one in vain", x.answers(0), 1 + 2 + 64);
        x.terms(1, 6);
        due("alone, or in vain", x.answers(0), 2 + 64);
        x.terms(0, 2);
        due("by lot", x.answers(0), 64);
        due("no host", x.answers(2), NONE);
        due("no host", x.answers(-1), NONE);
        x.terms(0, 1);
        due("the lowest needn't mind", x.answers(0), 64);
        x.terms(1, 0);
        due("the lowest needn't mind", x.answers(0), 3);
        force(x, "bars if host=0");
        due("all barred", x.answers(0), 64);
    }

    private static void turns() {
        SoleGuest x = street(row(10, 4), row(8, 3));
        due("from nobody", x.rounds(0), 2);
        due("steady", x.rounds(1), 1);
        due("0 first", x.turned(0), 0);
        due("1 then", x.turned(1), 1);
        x.ask(0, 0);
        x.ask(1, 0);
        due("from both", x.turned(0), 1);
        due("1 keeps", x.turned(1), 0);
        x.ask(0, 1);
        due("at once", x.rounds(0), 1);
        due("steady", x.rounds(1), 1);
        due("as told", x.turned(1), 0);
        due("what", x.rounds(2), NONE);
        due("what", x.rounds(-1), NONE);
        due("no host", x.turned(2), NONE);
        due("no host", x.turned(-1), NONE);
        due("told as it was", x.ask(0, 1), 1);
        x.ask(0, NONE);
        x.ask(1, 1);
        x.base(0, 1, 11);
        // 0 would have 1, but for HOST 1, who stays; so GUEST 0 it is
        due("one round and another", x.rounds(0), 2);
        due("0", x.turned(0), 0);
        due("1", x.turned(1), 1);
        force(x, "bars if host=1 and guest=1");
        due("1 is told a barred one, so that he asks nobody", x.turned(0), 1);
        due("1 then", x.turned(1), 0);
    }

    /** HOST 1 likes neither and asks in vain whom HOST 0 asks, the lowest of his ANSWERS; HOST 0 flees. */
    private static void ring() {
        SoleGuest x = street(row(10, 4), row(-8, -3));
        x.ask(0, 1);
        x.ask(1, 0);
        // 1 0, then behind rounds 1 1, 0 0, 1 1
        due("rounds", x.rounds(0), 3);
        due("a ring", x.rounds(1), 0);
        due("in the end", x.turned(0), 1);
        due("in the end", x.turned(1), 1);
        x.ask(0, 0);
        // ahead of the first 0 0, then behind rounds 1 1, 0 0
        due("rounds from within", x.rounds(0), 2);
        due("a ring", x.rounds(1), 0);
        due("in the end", x.turned(0), 0);
        due("in the end", x.turned(1), 0);
    }

    private static void sets() {
        SoleGuest x = street(row(1, 5), row(5, 1), row(0, 0));
        x.ask(0, 0);
        x.ask(1, 1);
        due("0 alone", x.breaks(1), 0);
        due("1 alone", x.breaks(2), 0);
        due("both by changing", x.breaks(3), 1);
        due("2 has nothing to gain", x.breaks(4), 0);
        due("nor with them", x.breaks(7), 0);
        due("the lowest set", x.breaker(), 3);
        due("empty", x.breaks(0), NONE);
        due("no such host", x.breaks(8), NONE);
        due("with one that is none", x.breaks(9), NONE);
        due("below", x.breaks(-1), NONE);
        due("far below", x.breaks(Integer.MIN_VALUE), NONE);
        due("far beyond", x.breaks(Integer.MAX_VALUE), NONE);
        x.ask(0, 1);
        x.ask(1, 0);
        due("none", x.breaker(), NONE);
        x.base(2, 1, 1);
        due("2 can't, for 0 asks", x.breaker(), NONE);
        x.ask(0, NONE);
        due("0 alone now", x.breaker(), 1);
        due("2 alone", x.breaks(4), 1);
        due("0 and 2 can't both", x.breaks(5), 0);
        force(x, "bars if host=0");
        due("0 is barred", x.breaker(), 4);
    }

    private static void dice() {
        SoleGuest x = street(row(1, 2, 3), row(1, 2, 3));
        due("none at first", x.dice(0, 0, 4), 0);
        due("what they were", x.dice(0, 0, 5), 4);
        due("all ten", x.dice(0, 2, 5), 0);
        due("status", x.status(), 0);
        due("one more", x.dice(0, 1, 1), -3);
        due("status", x.status(), -3);
        due("0 is fine", x.dice(0, 1, 0), 0);
        due("more instead", x.dice(0, 0, 6), -3);
        due("fewer", x.dice(0, 0, 3), 5);
        due("10", x.dice(1, 1, 10), 0);
        due("11", x.dice(1, 1, 11), -1);
        due("-1", x.dice(1, 1, -1), -1);
        due("the number is first", x.dice(5, 5, 11), -1);
        due("no host", x.dice(2, 0, 1), -2);
        due("no guest", x.dice(0, 3, 1), -2);
        due("no host ahead of too many", x.dice(-1, 0, 10), -2);
        due("stands", x.dice(1, 1, 0), 10);
        due("refused by -3", x.count(6), 2);
    }

    private static void means() {
        SoleGuest x = street(row(10, 4), row(8, 3));
        x.terms(1, 1);
        due("nobody asks", x.mean(0), 6000);
        x.dice(0, 0, 5);
        x.dice(0, 1, 3);
        x.dice(1, 0, 4);
        // HOST 0: 0.5 * 0.6 * 10 + 0.3 * 4 + (1 - 0.3 - 0.3) * 1 = 4.6
        due("mean 0", x.mean(0), 27600);
        // HOST 1: 0.4 * 0.5 * 8 + 0.8 * 1 = 2.4
        due("mean 1", x.mean(1), 14400);
        due("of all", x.mean(NONE), 42000);
        due("no host", x.mean(2), NOTHING);
        due("no host", x.mean(-2), NOTHING);
        x.terms(0, 1);
        // HOST 0: 0.5 * 10 + 0.3 * 4 + 0.2 = 6.4
        due("the lowest", x.mean(0), 38400);
        due("the other", x.mean(1), 14400);
        x.terms(0, 2);
        // HOST 0: 0.5 * (0.6 + 0.2) * 10 + 0.3 * 4 + (1 - 0.4 - 0.3) = 5.5
        due("by lot", x.mean(0), 33000);
        // HOST 1: 0.4 * (0.5 + 0.25) * 8 + 0.7 = 3.1
        due("by lot", x.mean(1), 18600);
        force(x, "bars if host=0 and guest=0");
        // HOST 0: 0.3 * 4 + 0.7 = 1.9; HOST 1: 0.4 * 8 + 0.6 = 3.8
        due("barred", x.mean(0), 11400);
        due("barred for the other", x.mean(1), 22800);
        SoleGuest y = street(row(99), row(99), row(99), row(99), row(99));
        y.terms(0, 2);
        for (int h = 0; h < 5; h++) {
            y.dice(h, 0, 10);
        }
        due("five by lot", y.mean(NONE), 594000000L);
        due("a fifth", y.mean(4), 118800000L);
        y.terms(0, 1);
        due("the last of them", y.mean(4), 0);
        y.terms(1, 99);
        due("alone by all", y.mean(NONE), 5L * 594000000L);
    }

    private static void rest() {
        SoleGuest x = street(row(10, 4), row(8, 3));
        due("0 would ask", x.restless(), 0);
        x.dice(0, 0, 10);
        due("1 would ask", x.restless(), 1);
        x.dice(1, 1, 10);
        due("at rest", x.restless(), NONE);
        x.dice(1, 1, 9);
        due("a tenth less", x.restless(), 1);
        x.dice(1, 1, 10);
        x.base(1, 1, -3);
        due("1 would rather ask nobody", x.restless(), 1);
        x.dice(1, 1, 0);
        due("at rest", x.restless(), NONE);
        force(x, "bars if host=0 and guest=0");
        due("barred: 0 would ask another", x.restless(), 0);
        force(x, "bars");
        due("all barred", x.restless(), NONE);
        SoleGuest y = street(row(5, 5), row(5, 5));
        for (int h = 0; h < 2; h++) {
            y.dice(h, 0, 5);
            y.dice(h, 1, 5);
        }
        due("mixed at rest", y.restless(), NONE);
        y.dice(0, 0, 4);
        y.dice(0, 1, 6);
        due("0 finds all alike, as 1 is as he was; 1 doesn't", y.restless(), 1);
    }

    private static void alike() {
        SoleGuest x = street(row(10), row(10));
        // t tenths: 2 * t * (10 - t) * 600, greatest at 5
        due("sum", x.alike(0), 2 * 25 * 600);
        due("rows", x.alike(1), 1);
        due("tenths", x.alikeOf(0), 5);
        due("no guest", x.alikeOf(1), NONE);
        due("no guest", x.alikeOf(-1), NONE);
        due("what", x.alike(2), NOTHING);
        due("what", x.alike(-1), NOTHING);
        x.guest(0);
        x.base(0, 1, 10);
        x.base(1, 1, 10);
        due("two guests", x.alike(0), 4 * 25 * 600);
        due("first", x.alikeOf(0), 5);
        due("second", x.alikeOf(1), 5);
        x.terms(0, 1);
        // by the lowest: t * 100 of (t * 10 + t * (10 - t)) sixtieths of 10 for each guest: greatest at 5 and 5
        due("the lowest", x.alike(0), 2 * (5 * 10 + 5 * 5) * 600);
        due("told dice don't matter", x.dice(0, 0, 10) + x.alike(1), 1);
        x.terms(1, 10);
        due("alone as good", x.alike(0), 2 * 600 * 100);
        due("by all rows", x.alike(1), 66);
        due("the first", x.alikeOf(0), 0);
        due("the first", x.alikeOf(1), 0);
        SoleGuest y = street(row(1, 1, 1));
        due("one host", y.alike(0), 600);
        due("by all rows of ten", y.alike(1), 66);
        due("fewer ahead", y.alikeOf(0), 0);
        due("fewer ahead", y.alikeOf(1), 0);
        due("fewer ahead", y.alikeOf(2), 10);
        force(y, "bars if guest=2");
        due("barred", y.alike(1), 11);
        due("barred", y.alikeOf(2), 0);
        due("not barred", y.alikeOf(1), 10);
        SoleGuest z = new SoleGuest();
        for (int g = 0; g < 6; g++) {
            z.guest(g);
        }
        due("all rows without hosts", z.alike(1), 8008);
        due("sum without hosts", z.alike(0), 0);
        SoleGuest w = new SoleGuest();
        w.host(1);
        w.terms(1, -7);
        due("without guests", w.alike(0), -4200);
        due("without guests", w.alike(1), 1);
        w.guest(0);
        w.base(0, 0, 1);
        w.image(0);
        w.guest(0);
        w.base(0, 1, 9);
        due("two guests", w.alike(0), 5400);
        w.back(0);
        due("the better one is gone", w.alike(0), 600);
        due("the better one is gone", w.alike(1), 1);
    }

    private static void manners() {
        SoleGuest x = street(row(1), row(1));
        due("0 at first", x.manner(1, 5), 0);
        due("what it was", x.manner(1, 0), 5);
        due("status", x.status(), 0);
        due("6", x.manner(1, 6), -1);
        due("-1", x.manner(1, -1), -1);
        due("the number is first", x.manner(2, 6), -1);
        due("no host", x.manner(2, 1), -2);
        due("no host", x.manner(-1, 1), -2);
        due("status", x.status(), -2);
    }

    private static void yearNumbers() {
        SoleGuest x = street(row(1));
        due("seed below", x.year(-1, 3), -1);
        due("seed beyond", x.year(1000001, 3), -1);
        due("no evening", x.year(0, 0), -1);
        due("41 evenings", x.year(0, 41), -1);
        due("status", x.status(), -1);
        due("no year yet", x.settled(), NONE);
        due("seed at the edge", x.year(1000000, 40), 40);
        due("status", x.status(), 0);
        due("earned", x.earned(0), 0);
        x.ask(0, 0);
        due("one", x.year(0, 1), 0);
        due("refused keeps it", x.year(0, 41), -1);
        due("the latest", x.earned(0), 60);
        due("evening 1 is none", x.dined(1, 0, 0), NONE);
        due("evening below", x.dined(-1, 0, 0), NONE);
        due("what", x.dined(0, 0, 2), NONE);
        due("what", x.dined(0, 0, -1), NONE);
        due("asked", x.dined(0, 0, 0), 0);
        due("no host", x.dined(0, 1, 0), NONE);
        due("no host", x.dined(0, -1, 0), NONE);
        due("no host", x.earned(1), NOTHING);
        due("no host", x.earned(-1), NOTHING);
        x.host(4);
        due("a host who came later", x.earned(1), NOTHING);
        due("a host who came later", x.dined(0, 1, 0), NONE);
    }

    private static void yearAsTold() {
        SoleGuest x = street(row(10, 4), row(8, 3));
        x.terms(1, -2);
        x.ask(0, 0);
        x.ask(1, 0);
        due("both alone", x.year(7, 5), 5);
        due("asked", x.dined(4, 1, 0), 0);
        due("dined", x.dined(4, 1, 1), NONE);
        due("earned", x.earned(0), -600);
        due("settled", x.settled(), 0);
        x.terms(0, 1);
        due("1 alone", x.year(7, 5), 5);
        due("earned", x.earned(0), 3000);
        due("earned", x.earned(1), -600);
        x.ask(1, 1);
        due("none alone", x.year(7, 5), 0);
        force(x, "worth met*10+evening; bars if evening=2 and host=1");
        due("barred in one", x.year(7, 4), 1);
        due("0: 0, 11, 22, 33", x.earned(0), 60 * 66);
        due("1: 0, 11, alone, 23", x.earned(1), 60 * (0 + 11 - 2 + 23));
        due("whom he asked", x.dined(2, 1, 0), NONE);
        due("settled", x.settled(), 3);
        due("outside of a year", x.of(0, 0, 1), 0);
    }

    private static void yearByAnswers() {
        SoleGuest x = street(row(10, 4), row(8, 3));
        x.manner(0, 1);
        x.manner(1, 1);
        // nobody; both 0; both 1, for the other asked 0; both 0 ..
        due("year", x.year(0, 4), 4);
        due("first as told", x.dined(0, 0, 0), NONE);
        due("both 0", x.dined(1, 0, 0), 0);
        due("both 0", x.dined(1, 1, 0), 0);
        due("both 1", x.dined(2, 0, 0), 1);
        due("both 1", x.dined(2, 1, 0), 1);
        due("both 0", x.dined(3, 1, 0), 0);
        due("settled", x.settled(), 3);
        x.manner(1, 0);
        x.ask(1, 0);
        due("year", x.year(0, 4), 1);
        due("0 answers", x.dined(1, 0, 0), 1);
        due("settled", x.settled(), 1);
        due("earned", x.earned(0), 3 * 240);
        due("earned", x.earned(1), 4 * 480);
        force(x, "worth base - met*3");
        // 0 asks 1 (4), then WORTH 1, then -2: nobody is better, but 0 in vain comes first of alike ones
        due("year", x.year(0, 5), 3);
        due("second", x.dined(1, 0, 0), 1);
        due("third", x.dined(2, 0, 0), 1);
        due("fourth", x.dined(3, 0, 0), 0);
        due("earned", x.earned(0), 60 * (4 + 1));
    }

    private static void yearByHope() {
        SoleGuest x = street(row(10, 4), row(8, 3));
        x.manner(0, 2);
        x.ask(1, 0);
        x.terms(1, 1);
        // HOST 1 asks 0 always: unsought by others is GUEST 1 alone, (4 - 1) * evenings
        due("year", x.year(0, 3), 1);
        due("first as told", x.dined(0, 0, 0), NONE);
        due("hopes", x.dined(1, 0, 0), 1);
        due("hopes", x.dined(2, 0, 0), 1);
        x.terms(1, 4);
        due("year", x.year(0, 3), 3);
        due("not above 0", x.dined(1, 0, 0), NONE);
        x.terms(1, 0);
        force(x, "bars if host=1 and evening<2");
        // evenings 0, 1: nobody asked 0; 10 * 2 against 4 * 2 in evening 2; evening 3: 10 * 2 against 4 * 3
        due("year", x.year(0, 8), 6);
        due("evening 1", x.dined(1, 0, 0), 0);
        due("evening 2", x.dined(2, 0, 0), 0);
        due("evening 4: 20 against 16", x.dined(4, 0, 0), 0);
        due("evening 5: 20 against 20, the lowest", x.dined(5, 0, 0), 0);
        due("evening 6: 20 against 24", x.dined(6, 0, 0), 1);
        force(x, "worth 9 if guest=1 and host=0; bars if guest=1 and host=0");
        due("the best is barred", x.year(0, 2), 2);
        due("nobody then", x.dined(1, 0, 0), NONE);
    }

    private static void yearByDice() {
        SoleGuest x = street(row(10, 4));
        x.manner(0, 3);
        x.dice(0, 0, 5);
        x.dice(0, 1, 1);
        // from 0: 12345, 628841, 621889: rolls 5, 1, 9
        due("year", x.year(0, 3), 1);
        due("5 is below 6", x.dined(0, 0, 0), 1);
        due("1 is below 5", x.dined(1, 0, 0), 0);
        due("9 is nobody's", x.dined(2, 0, 0), NONE);
        due("earned", x.earned(0), 60 * (4 + 10));
        force(x, "bars if guest=1");
        due("barred", x.year(0, 3), 2);
        due("barred", x.dined(0, 0, 0), NONE);
        due("1 is below 5", x.dined(1, 0, 0), 0);
        SoleGuest y = street(row(10, 4), row(10, 4));
        y.manner(0, 3);
        y.manner(1, 3);
        y.dice(0, 0, 6);
        y.dice(1, 0, 1);
        y.dice(1, 1, 1);
        due("each has his own draw", y.year(0, 1), 0);
        due("5 is below 6", y.dined(0, 0, 1), 0);
        due("1 is below 2", y.dined(0, 1, 1), 1);
    }

    private static void yearByEnvy() {
        SoleGuest x = street(row(10, 4), row(8, 3), row(9, 9));
        x.manner(2, 4);
        x.ask(0, 0);
        x.ask(1, 1);
        due("year", x.year(0, 3), 3);
        due("first as told", x.dined(0, 2, 0), NONE);
        due("whom 0 had", x.dined(1, 2, 0), 0);
        // then 0 has nobody, for 2 asks, too: 1 has the greatest GAIN
        due("whom 1 had", x.dined(2, 2, 0), 1);
        x.base(0, 0, 3);
        due("alike", x.year(0, 2), 2);
        due("the lowest of alike ones", x.dined(1, 2, 0), 0);
        x.ask(0, NONE);
        x.ask(2, 1);
        x.terms(1, 50);
        due("year", x.year(0, 2), 2);
        due("the greatest GAIN is of one alone: as told", x.dined(1, 2, 0), 1);
        SoleGuest y = street(row(5));
        y.manner(0, 4);
        y.ask(0, 0);
        due("no other host", y.year(0, 3), 0);
        due("as told", y.dined(2, 0, 0), 0);
    }

    private static void yearByKeeping() {
        SoleGuest x = street(row(10, 4, 1), row(8, 3, 1));
        x.manner(0, 5);
        x.manner(1, 5);
        x.ask(0, 0);
        x.ask(1, 0);
        // both in vain; both the lowest whom nobody asked: 1; both 0 again ..
        due("year", x.year(0, 3), 3);
        due("lowest not asked", x.dined(1, 0, 0), 1);
        due("lowest not asked", x.dined(1, 1, 0), 1);
        due("lowest not asked", x.dined(2, 1, 0), 0);
        x.terms(0, 1);
        due("year", x.year(0, 3), 1);
        due("0 keeps", x.dined(2, 0, 0), 0);
        due("1 has another", x.dined(1, 1, 0), 1);
        due("1 keeps", x.dined(2, 1, 0), 1);
        force(x, "bars if host=1 and guest=1; bars if host=0 and evening=2");
        due("year", x.year(0, 4), 2);
        due("the lowest that is not barred", x.dined(1, 1, 0), 2);
        due("whom he had is barred", x.dined(2, 0, 0), NONE);
        due("the lowest whom nobody asked then", x.dined(3, 0, 0), 0);
        SoleGuest y = street(row(1), row(1));
        y.manner(0, 5);
        y.ask(0, 0);
        y.ask(1, 0);
        due("year", y.year(0, 2), 2);
        due("all are asked: as told", y.dined(1, 0, 0), 0);
    }

    private static void yearByLot() {
        SoleGuest x = street(row(10), row(8), row(6));
        x.terms(0, 2);
        for (int h = 0; h < 3; h++) {
            x.ask(h, 0);
        }
        // 12345 % 3 = 0, 628841 % 3 = 2, 621889 % 3 = 1
        due("year", x.year(0, 3), 3);
        due("lot 0", x.dined(0, 0, 1), 0);
        due("lot 0", x.dined(0, 1, 1), NONE);
        due("lot 2", x.dined(1, 2, 1), 0);
        due("lot 1", x.dined(2, 1, 1), 0);
        due("earned of who dined", x.earned(0), 600);
        due("earned of who dined", x.earned(2), 360);
        x.ask(0, NONE);
        // 12345 % 2 = 1, 628841 % 2 = 1
        due("year", x.year(0, 2), 2);
        due("lot 1 of two", x.dined(0, 2, 1), 0);
        due("lot 1 of two", x.dined(1, 2, 1), 0);
        SoleGuest y = street(row(1, 1), row(1, 1), row(1, 1), row(1, 1));
        y.terms(0, 2);
        y.ask(0, 0);
        y.ask(1, 0);
        y.ask(2, 1);
        y.ask(3, 1);
        y.manner(3, 3);
        y.dice(3, 1, 10);
        // hosts draw first (12345), then GUEST 0 (628841 % 2 = 1), then GUEST 1 (621889 % 2 = 1)
        due("year", y.year(0, 1), 1);
        due("guest 0", y.dined(0, 1, 1), 0);
        due("guest 1", y.dined(0, 3, 1), 1);
    }

    private static void yearBarred() {
        SoleGuest x = street(row(10, 4), row(8, 3));
        x.ask(0, 0);
        x.ask(1, 0);
        force(x, "bars if host=1 and guest=0");
        due("year", x.year(0, 2), 2);
        due("told so, he asks nobody", x.dined(0, 1, 0), NONE);
        due("so the other has him", x.dined(0, 0, 1), 0);
        x.manner(1, 4);
        due("year", x.year(0, 2), 2);
        due("envied, but barred", x.dined(1, 1, 0), NONE);
        x.manner(1, 1);
        due("year", x.year(0, 2), 1);
        due("answers are not barred", x.dined(1, 1, 0), 1);
    }

    private static void images() {
        SoleGuest x = street(row(10, 4), row(8, 3));
        due("image -1", x.image(-1), -1);
        due("image 2", x.image(2), -1);
        due("back 2", x.back(2), -1);
        due("back -1", x.back(-1), -1);
        due("not kept", x.back(0), -2);
        due("status", x.status(), -2);
        x.ask(0, 1);
        x.dice(0, 1, 7);
        x.manner(1, 3);
        x.terms(0, 2);
        x.terms(1, 9);
        force(x, "worth 1");
        due("image", x.image(0), 0);
        due("status", x.status(), 0);
        x.host(9);
        x.guest(8);
        x.base(0, 0, 1);
        x.base(2, 2, 50);
        x.ask(0, 2);
        x.ask(2, 2);
        x.dice(0, 1, 2);
        x.dice(2, 2, 2);
        x.manner(1, 5);
        x.manner(2, 5);
        x.terms(0, 1);
        x.terms(1, 8);
        force(x, "worth 2");
        x.image(1);
        feed(x, "abc");
        // HOST 2 in vain asks 2, then 0, then has 1
        due("year", x.year(3, 4), 2);
        due("earned", x.earned(2), 60 * (8 + 8 + 2 + 2));
        due("back", x.back(0), 0);
        due("hosts", x.count(0), 2);
        due("guests", x.count(1), 2);
        due("laws", x.count(2), 1);
        due("tape stays", x.count(3), 3);
        due("force", x.count(9), 0);
        due("custom", x.count(10), 2);
        due("base", x.of(0, 0, 0), 10);
        due("the year stays", x.earned(2), 60 * (8 + 8 + 2 + 2));
        due("the year stays", x.dined(0, 0, 0), 2);
        due("refusals stay", x.count(4), 4);
        due("lone", x.terms(1, 9), 9);
        due("told", x.ask(0, 1), 1);
        due("dice", x.dice(0, 1, 7), 7);
        due("manner", x.manner(1, 3), 3);
        due("a law over the other", law(x, "worth 3;"), -6);
        x.end(0);
        due("a law over the other", law(x, "worth 3"), 1);
        due("a new host has nothing", x.host(0), 2);
        x.guest(0);
        due("a new host has nothing", x.of(2, 2, 0), 0);
        due("a new host has nothing", x.dice(2, 2, 0), 0);
        due("a new host has nothing", x.ask(2, NONE), NONE);
        due("a new host has nothing", x.manner(2, 0), 0);
        due("back to the other", x.back(1), 0);
        due("its law", x.of(0, 0, 1), 2);
        due("its force", x.count(9), 1);
        due("its told", x.ask(2, 2), 2);
        due("its street", x.back(0), 0);
        due("images stay", x.of(0, 0, 0), 10);
        x.base(0, 0, 77);
        due("images are not what stands", x.back(0), 0);
        due("images are not what stands", x.of(0, 0, 0), 10);
        law(x, "worth");
        x.row();
        feed(x, "a");
        x.row();
        x.image(0);
        x.back(0);
        imagesOfNames();
        due("fault is not kept", x.fault(), 5);
        due("smudged is not kept", x.smudged(), 1);
    }

    /** STREETS and WITS of HOSTS and GUESTS who went with BACK and came with it again. */
    private static void imagesOfNames() {
        SoleGuest x = street(row(1, 1), row(1, 1));
        force(x, "worth street*10+wit");
        x.image(0);
        x.host(7);
        x.guest(8);
        x.image(1);
        x.back(0);
        x.host(5);
        x.guest(6);
        due("another in their place", x.of(2, 2, 1), 56);
        x.back(1);
        due("they came again", x.of(2, 2, 1), 78);
        x.back(0);
        due("gone again", x.of(2, 2, 1), NOTHING);
        due("the others", x.of(1, 1, 1), 22);
    }

    private static void counts() {
        SoleGuest x = street(row(1));
        x.host(10);
        x.guest(-1);
        x.base(0, 0, 100);
        x.terms(3, 0);
        x.dice(0, 0, 11);
        x.manner(0, 6);
        x.year(-1, 1);
        x.image(2);
        x.back(2);
        due("by -1", x.count(4), 9);
        x.base(1, 0, 0);
        x.force(0);
        x.ask(1, 0);
        x.dice(1, 0, 0);
        x.manner(1, 0);
        x.back(0);
        due("by -2", x.count(5), 6);
        x.guest(0);
        x.dice(0, 0, 6);
        x.dice(0, 1, 6);
        due("by -3", x.count(6), 1);
        for (int i = 0; i < 6; i++) {
            law(x, "bars");
        }
        law(x, "bars");
        due("by -5", x.count(7), 1);
        x.row();
        due("by -6", x.count(8), 1);
        x.image(0);
        x.back(0);
        due("not kept", x.count(8), 1);
        due("others", x.count(11), NONE);
        due("others", x.count(-1), NONE);
        x.row();
        due("status", x.status(), -6);
        x.of(9, 9, 9);
        x.asked(9);
        x.gain(9);
        x.most(9);
        x.breaks(0);
        x.alike(9);
        x.dined(9, 9, 9);
        x.end(-1);
        due("looking is not refused", x.status(), -6);
        due("nor counted", x.count(4), 9);
        x.force(NONE);
        due("status", x.status(), 0);
    }

    private static void extremes() {
        int[] odd = {Integer.MIN_VALUE, -1000001, -7, -2, -1, 0, 4, 5, 6, 7, 31, 32, 33, 401, Integer.MAX_VALUE};
        SoleGuest x = street(row(1, 2), row(3, 4));
        for (int v : odd) {
            boolean known = v == 0 || v == 1;
            due("asked " + v, x.asked(v), known ? 0 : NONE);
            due("goes " + v, x.goes(v), NONE);
            due("gain " + v, x.gain(v), known || v == NONE ? 0 : NOTHING);
            due("turned " + v, x.turned(v) < 0 ? 0 : 1, known ? 1 : 0);
            due("steadyOf " + v, x.steadyOf(v, v), v == 0 ? 0 : NONE);
            due("mostOf " + v, x.mostOf(v), v == 0 ? 0 : NONE);
            due("answers " + v, x.answers(v), known ? 2 : NONE);
            due("mean " + v, x.mean(v), known || v == NONE ? 0 : NOTHING);
            due("alikeOf " + v, x.alikeOf(v) < 0 ? 0 : 1, known ? 1 : 0);
            due("dined " + v, x.dined(v, v, v), NONE);
            due("earned " + v, x.earned(v), NOTHING);
        }
    }
}
