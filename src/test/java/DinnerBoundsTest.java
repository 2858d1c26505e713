/** The bounds of what is reckoned of a street as it stands: nobody, one, all; alike, above, below; what isn't there. */
public final class DinnerBoundsTest {
    private static final int NONE = Bench.NONE;
    private static final int NOTHING = Bench.NOTHING;
    private static final int LEAST = Integer.MIN_VALUE;
    private static final int GREATEST = Integer.MAX_VALUE;
    private static final Checks CHECKS = new Checks("DinnerBoundsTest");

    public static void main(String[] args) {
        withoutHosts();
        withoutGuests();
        askedByNoneToAll();
        noSuchGuest();
        goesByCustoms();
        gainShares();
        gainBounds();
        noSuchHost();
        mostBounds();
        mostOrder();
        mostWithoutBarred();
        fairBounds();
        steadyBounds();
        steadyOrder();
        steadySums();
        answerBits();
        answersBarred();
        turnsAtOnce();
        turnsToAGreaterAlone();
        turnsInARing();
        sets();
        setOfAll();
        setsGainMore();
        meanPowers();
        meanBounds();
        meanBarred();
        restBounds();
        restFirst();
        alikeBounds();
        alikeRows();
        alikeFirst();
        whats();
        turnsOfOneToTheNext();
        turnsAcross();
        turnsOfAFullStreet();
        followsWhatStands();
        outsideOfYears();
        fewerAgain();
        CHECKS.close();
    }

    private static void due(String what, long got, long want) {
        CHECKS.same(what, got, want);
    }

    private static int[] row(int... values) {
        return values;
    }

    /** Each HOST finds each GUEST worth the same. */
    private static SoleGuest plain(int hosts, int guests, int worth) {
        SoleGuest x = new SoleGuest();
        Bench.crowd(x, hosts, guests);
        Bench.force(x, worth < 0 ? "worth 0-" + -worth : "worth " + worth);
        return x;
    }

    private static void withoutHosts() {
        for (int guests = 0; guests <= 6; guests += 6) {
            SoleGuest x = plain(0, guests, 5);
            x.terms(1, 7);
            due("GAIN of all", x.gain(NONE), 0);
            due("MOST", x.most(0), 0);
            due("MOST in one: nobody asks", x.most(1), 1);
            due("mostOf", x.mostOf(0), NONE);
            due("FAIR", x.fair(0), NOTHING);
            due("FAIR in", x.fair(1), NOTHING);
            due("STEADY", x.steady(), 1);
            due("steadyOf", x.steadyOf(0, 0), NONE);
            due("greatest STEADY", x.steadySum(0), 0);
            due("least STEADY", x.steadySum(1), 0);
            due("answers", x.answers(0), NONE);
            due("one ROUND", x.rounds(0), 1);
            due("STEADY at once", x.rounds(1), 1);
            due("turned", x.turned(0), NONE);
            due("breaks of an empty SET", x.breaks(0), NONE);
            due("breaks of no HOST", x.breaks(1), NONE);
            due("breaker", x.breaker(), NONE);
            due("mean of all", x.mean(NONE), 0);
            due("mean", x.mean(0), NOTHING);
            due("restless", x.restless(), NONE);
            due("ALIKE", x.alike(0), 0);
            due("ALIKE by all rows", x.alike(1), guests == 0 ? 1 : 8008);
            due("alikeOf", x.alikeOf(0), guests == 0 ? NONE : 0);
            due("year", x.year(0, 40), 0);
            due("settled", x.settled(), 0);
            due("asked", x.asked(0), guests == 0 ? NONE : 0);
            due("goes", x.goes(0), NONE);
        }
    }

    private static void withoutGuests() {
        for (int hosts = 1; hosts <= 5; hosts++) {
            SoleGuest x = plain(hosts, 0, 5);
            x.terms(1, -4);
            long ten = 1;
            for (int h = 0; h < hosts; h++) {
                ten *= 10;
            }
            due("GAIN of all", x.gain(NONE), -240 * hosts);
            due("MOST", x.most(0), -240 * hosts);
            due("MOST in one", x.most(1), 1);
            due("mostOf", x.mostOf(hosts - 1), NONE);
            due("FAIR", x.fair(0), -240);
            due("FAIR in one", x.fair(1), 1);
            due("STEADY", x.steady(), 1);
            due("greatest STEADY", x.steadySum(0), -240 * hosts);
            due("least STEADY", x.steadySum(1), -240 * hosts);
            due("nobody is the ANSWER", x.answers(hosts - 1), 64);
            due("one ROUND", x.rounds(0), 1);
            due("STEADY at once", x.rounds(1), 1);
            due("turned", x.turned(hosts - 1), NONE);
            due("no SET BREAKS", x.breaks((1 << hosts) - 1), 0);
            due("breaker", x.breaker(), NONE);
            due("mean", x.mean(hosts - 1), -240 * ten);
            due("mean of all", x.mean(NONE), -240 * ten * hosts);
            due("restless", x.restless(), NONE);
            due("ALIKE", x.alike(0), -240 * ten * hosts);
            due("ALIKE by the empty row", x.alike(1), 1);
            due("alikeOf", x.alikeOf(0), NONE);
            for (int manner = 0; manner <= 5; manner++) {
                for (int h = 0; h < hosts; h++) {
                    x.manner(h, manner);
                }
                due("all alone by MANNER " + manner, x.year(0, 40), 40);
                due("earned by MANNER " + manner, x.earned(hosts - 1), -240 * 40);
            }
        }
    }

    private static void askedByNoneToAll() {
        SoleGuest x = plain(5, 6, 5);
        for (int h = 0; h <= 5; h++) {
            due("asked by " + h, x.asked(5), h);
            due("others by nobody", x.asked(0), 0);
            if (h < 5) {
                x.ask(h, 5);
            }
        }
        Bench.force(x, "bars if host>1");
        due("BARRED ones don't ask", x.asked(5), 2);
        Bench.force(x, "bars");
        due("all are BARRED", x.asked(5), 0);
    }

    private static void noSuchGuest() {
        SoleGuest x = plain(5, 3, 5);
        for (int h = 0; h < 5; h++) {
            x.ask(h, h % 3);
        }
        for (int g : new int[] {-1, 3, 5, 6, 7, -2, LEAST, GREATEST}) {
            due("asked(" + g + ")", x.asked(g), NONE);
            due("goes(" + g + ")", x.goes(g), NONE);
            due("alikeOf(" + g + ")", x.alikeOf(g), NONE);
        }
        due("asked(2)", x.asked(2), 1);
        due("goes(2)", x.goes(2), 2);
    }

    private static void goesByCustoms() {
        for (int custom = 0; custom <= 2; custom++) {
            SoleGuest x = plain(5, 6, 5);
            x.terms(0, custom);
            due("asked by nobody, " + custom, x.goes(0), NONE);
            x.ask(4, 0);
            due("asked by one, " + custom, x.goes(0), 4);
            x.ask(3, 0);
            due("asked by two, " + custom, x.goes(0), custom == 1 ? 3 : NONE);
            x.ask(0, 0);
            x.ask(1, 0);
            x.ask(2, 0);
            due("asked by all, " + custom, x.goes(0), custom == 1 ? 0 : NONE);
            Bench.force(x, "bars if host<4");
            due("all but one are BARRED, " + custom, x.goes(0), 4);
        }
    }

    /** Of k who ask one by lot each has 60 / k sixtieths of him, and LONE for the rest. */
    private static void gainShares() {
        for (int k = 1; k <= 5; k++) {
            SoleGuest x = plain(5, 6, 99);
            x.terms(1, -99);
            for (int h = 0; h < k; h++) {
                x.ask(h, 3);
            }
            due("none of " + k, x.gain(0), k == 1 ? 5940 : -5940);
            x.terms(0, 1);
            due("the lowest of " + k, x.gain(0), 5940);
            due("the last of " + k, x.gain(k - 1), k == 1 ? 5940 : -5940);
            x.terms(0, 2);
            for (int h = 0; h < k; h++) {
                due("by lot of " + k, x.gain(h), 60 / k * 99 - (60 - 60 / k) * 99);
            }
            due("all by lot of " + k, x.gain(NONE), 60 * 99 - 60 * 99 * 4);
        }
    }

    private static void gainBounds() {
        SoleGuest x = plain(5, 6, 99);
        for (int h = 0; h < 5; h++) {
            x.ask(h, h);
        }
        due("the greatest of all", x.gain(NONE), 29700);
        x.terms(1, -99);
        Bench.force(x, "bars");
        due("the least of one", x.gain(4), -5940);
        due("the least of all", x.gain(NONE), -29700);
        x.terms(1, 99);
        Bench.force(x, "worth 0-99");
        due("the least by GUESTS", x.gain(NONE), -29700);
        x.ask(0, NONE);
        due("one alone", x.gain(0), 5940);
        due("one alone", x.gain(NONE), -4 * 5940 + 5940);
    }

    private static void noSuchHost() {
        SoleGuest x = plain(2, 6, 5);
        for (int h : new int[] {-2, 2, 4, 5, 6, LEAST, GREATEST}) {
            due("gain(" + h + ")", x.gain(h), NOTHING);
            due("mean(" + h + ")", x.mean(h), NOTHING);
        }
        for (int h : new int[] {-1, -2, 2, 4, 5, 6, LEAST, GREATEST}) {
            due("mostOf(" + h + ")", x.mostOf(h), NONE);
            due("steadyOf(0, " + h + ")", x.steadyOf(0, h), NONE);
            due("answers(" + h + ")", x.answers(h), NONE);
            due("turned(" + h + ")", x.turned(h), NONE);
        }
        due("gain(1)", x.gain(1), 0);
        due("mean(1)", x.mean(1), 0);
        due("mostOf(1)", x.mostOf(1), 1);
        due("steadyOf(0, 1)", x.steadyOf(0, 1), 1);
        due("answers(1)", x.answers(1), 63);
        due("turned(1)", x.turned(1), 1);
    }

    private static void mostBounds() {
        SoleGuest x = plain(5, 6, 99);
        due("the greatest there can be", x.most(0), 29700);
        due("each another GUEST: 6 * 5 * 4 * 3 * 2", x.most(1), 720);
        for (int h = 0; h < 5; h++) {
            due("the first", x.mostOf(h), h);
        }
        x.terms(1, 99);
        due("all ASKINGS are alike", x.most(1), 16807);
        due("the first of all", x.mostOf(4), 0);
        x.terms(1, -99);
        Bench.force(x, "worth 0-99");
        due("the least there can be", x.most(0), -29700);
        due("all ASKINGS are alike", x.most(1), 16807);
        Bench.force(x, "bars");
        due("nobody can be asked", x.most(0), -29700);
        due("in one", x.most(1), 1);
        due("nobody", x.mostOf(0), NONE);
        SoleGuest y = plain(1, 1, -5);
        y.terms(1, -5);
        due("below 0", y.most(0), -300);
        due("either way", y.most(1), 2);
        due("the GUEST ahead of nobody", y.mostOf(0), 0);
        y.terms(1, -4);
        due("alone", y.most(0), -240);
        due("in one", y.most(1), 1);
        due("nobody", y.mostOf(0), NONE);
        y.terms(1, -6);
        due("with him", y.most(0), -300);
        due("in one", y.most(1), 1);
        due("with him", y.mostOf(0), 0);
    }

    /** Nobody counts as above all GUESTS, rows by HOSTS: the lowest HOST's counts most. */
    private static void mostOrder() {
        SoleGuest x = Bench.street(row(4), row(4));
        due("one of both", x.most(0), 240);
        due("either", x.most(1), 2);
        due("HOST 0 asks, for a GUEST is ahead of nobody", x.mostOf(0), 0);
        due("HOST 1 asks nobody", x.mostOf(1), NONE);
        SoleGuest y = Bench.street(row(1, 2), row(2, 1));
        due("crossed", y.most(0), 240);
        due("in one", y.most(1), 1);
        due("crossed", y.mostOf(0), 1);
        due("crossed", y.mostOf(1), 0);
        SoleGuest z = Bench.street(row(1, 1, 1), row(1, 1, 1));
        due("3 * 2 ways", z.most(1), 6);
        due("0 1 is the first", z.mostOf(0), 0);
        due("0 1 is the first", z.mostOf(1), 1);
    }

    private static void mostWithoutBarred() {
        SoleGuest x = Bench.street(row(9, 1), row(9, 1));
        Bench.force(x, "bars if guest=0");
        due("without BARRED ones", x.most(0), 60);
        due("one of both", x.most(1), 2);
        Bench.force(x, "bars if guest=0 and host=0");
        due("one is BARRED for 0 alone", x.most(0), 600);
        due("in one", x.most(1), 1);
        due("0", x.mostOf(0), 1);
        due("1", x.mostOf(1), 0);
        Bench.force(x, "bars if guest=0 and host=0;worth 0");
        due("without BARRED ones, all alike", x.most(1), 2 * 3);
        due("FAIR, all alike", x.fair(1), 2 * 3);
        due("STEADY, all alike", x.steady(), 2 * 3);
    }

    private static void fairBounds() {
        SoleGuest x = plain(5, 6, 99);
        due("the greatest there can be", x.fair(0), 5940);
        due("in", x.fair(1), 720);
        x.terms(1, 99);
        due("all are alike", x.fair(1), 16807);
        x.terms(1, -99);
        Bench.force(x, "worth 0-99");
        due("the least there can be", x.fair(0), -5940);
        due("all are alike", x.fair(1), 16807);
        Bench.force(x, "bars");
        due("nobody can be asked", x.fair(0), -5940);
        due("in one", x.fair(1), 1);
        SoleGuest y = Bench.street(row(5), row(5));
        due("one is alone anyhow", y.fair(0), 0);
        due("all four ways", y.fair(1), 4);
        y.terms(0, 2);
        due("both by lot", y.fair(0), 150);
        due("in one", y.fair(1), 1);
        y.terms(0, 1);
        due("by the lowest", y.fair(0), 0);
        due("all four ways", y.fair(1), 4);
        y.terms(1, -1);
        due("one is alone anyhow", y.fair(0), -60);
        SoleGuest z = Bench.street(row(9, 1), row(8, 2));
        due("8 and 1 have a least of 1, 9 and 2 of 2", z.fair(0), 120);
        due("in one", z.fair(1), 1);
        due("one HOST alone", Bench.street(row(7)).fair(0), 420);
        due("one HOST alone", Bench.street(row(7)).fair(1), 1);
    }

    private static void steadyBounds() {
        SoleGuest x = plain(5, 6, 0);
        due("all ASKINGS are STEADY", x.steady(), 16807);
        due("the first", x.steadyOf(0, 0), 0);
        due("the first", x.steadyOf(0, 4), 0);
        due("the second", x.steadyOf(1, 4), 1);
        due("the 7th", x.steadyOf(6, 4), NONE);
        due("the 8th", x.steadyOf(7, 4), 0);
        due("the 8th", x.steadyOf(7, 3), 1);
        due("the last", x.steadyOf(16806, 0), NONE);
        due("the last but one", x.steadyOf(16805, 4), 5);
        for (int i : new int[] {-1, 16807, LEAST, GREATEST}) {
            for (int h = 0; h < 5; h++) {
                due("steadyOf(" + i + ", " + h + ")", x.steadyOf(i, h), NONE);
            }
        }
        x.terms(1, -1);
        due("each another: 6 * 5 * 4 * 3 * 2", x.steady(), 720);
        due("the 720th", x.steadyOf(719, 0), 5);
        due("the 720th", x.steadyOf(719, 4), 1);
        due("no 721st", x.steadyOf(720, 0), NONE);
        x.terms(1, 1);
        due("nobody is better than a GUEST whom one has, in vain is as good", x.steady(), 907);
        SoleGuest y = plain(1, 1, 5);
        due("a greater GAIN alone counts", y.steady(), 1);
        y.terms(1, 5);
        due("alike is STEADY", y.steady(), 2);
        y.terms(1, 6);
        due("alone", y.steady(), 1);
        due("alone", y.steadyOf(0, 0), NONE);
        Bench.force(y, "bars");
        due("BARRED", y.steady(), 1);
        due("BARRED", y.steadyOf(0, 0), NONE);
    }

    private static void steadyOrder() {
        SoleGuest x = Bench.street(row(3), row(3));
        // both ask him: neither would have more alone; 0 asks; 1 asks
        due("three", x.steady(), 3);
        int[] first = {0, 0, NONE};
        int[] second = {0, NONE, 0};
        for (int i = 0; i < 3; i++) {
            due("HOST 0 in " + i, x.steadyOf(i, 0), first[i]);
            due("HOST 1 in " + i, x.steadyOf(i, 1), second[i]);
        }
        x.terms(0, 1);
        due("the lowest asks him, the other either way", x.steady(), 2);
        due("HOST 1 in 0", x.steadyOf(0, 1), 0);
        due("HOST 1 in 1", x.steadyOf(1, 1), NONE);
        x.terms(0, 2);
        due("both by lot", x.steady(), 1);
        due("HOST 0", x.steadyOf(0, 0), 0);
        due("HOST 1", x.steadyOf(0, 1), 0);
    }

    private static void steadySums() {
        SoleGuest x = Bench.street(row(10, 4), row(8, 3));
        due("greatest", x.steadySum(0), 780);
        due("least", x.steadySum(1), 720);
        x.terms(0, 1);
        due("one alone: greatest", x.steadySum(0), 780);
        due("one alone: least", x.steadySum(1), 780);
        SoleGuest y = Bench.street(row(5), row(9));
        due("both in vain", y.steadySum(1), 0);
        due("the other", y.steadySum(0), 540);
        SoleGuest z = plain(5, 6, 99);
        z.terms(1, -99);
        due("greatest there can be", z.steadySum(0), 29700);
        Bench.force(z, "bars");
        due("least there can be", z.steadySum(1), -29700);
        due("least there can be", z.steadySum(0), -29700);
    }

    private static void answerBits() {
        for (int guests = 0; guests <= 6; guests++) {
            SoleGuest x = plain(5, guests, 4);
            due("all " + guests + " alike, above LONE", x.answers(4), guests == 0 ? 64 : (1 << guests) - 1);
            x.terms(1, 4);
            due("all " + guests + " alike, and nobody", x.answers(4), 64 + (1 << guests) - 1);
            x.terms(1, 5);
            due("nobody alone", x.answers(4), 64);
        }
        SoleGuest x = plain(5, 6, 4);
        for (int h = 0; h < 4; h++) {
            x.ask(h, h);
        }
        due("whom nobody asks", x.answers(4), 16 + 32);
        due("0 himself may stay", x.answers(0), 1 + 16 + 32);
        x.terms(0, 1);
        due("the lowest may ask any one", x.answers(0), 63);
        due("the next but him", x.answers(1), 62);
        due("the last", x.answers(4), 48);
        x.terms(0, 2);
        due("by lot", x.answers(4), 48);
        SoleGuest y = Bench.street(row(4, 2), row(4, 2), row(4, 2));
        y.terms(0, 2);
        y.ask(0, 0);
        due("half of 4 is as good as 2", y.answers(1), 3);
        y.ask(2, 0);
        due("a third of 4 is less than 2", y.answers(1), 2);
    }

    private static void answersBarred() {
        SoleGuest x = Bench.street(row(9, 4, -2));
        due("the best", x.answers(0), 1);
        Bench.force(x, "bars if guest=0");
        due("the best that is not BARRED", x.answers(0), 2);
        Bench.force(x, "bars if guest<2");
        due("nobody is better than -2", x.answers(0), 64);
        x.terms(1, -2);
        due("nobody is as good as -2", x.answers(0), 4 + 64);
        Bench.force(x, "bars");
        due("all are BARRED", x.answers(0), 64);
    }

    private static void turnsAtOnce() {
        SoleGuest x = Bench.street(row(4, 4));
        x.ask(0, 1);
        due("alike is no reason to change", x.rounds(0), 1);
        due("STEADY", x.rounds(1), 1);
        due("as TOLD", x.turned(0), 1);
        x.ask(0, NONE);
        due("one ROUND, and one in which nobody did", x.rounds(0), 2);
        due("the first of his ANSWERS", x.turned(0), 0);
        due("TOLD stays", x.ask(0, NONE), NONE);
        Bench.force(x, "bars if guest=0");
        due("the first that is not BARRED", x.turned(0), 1);
        x.ask(0, 0);
        due("TOLD a BARRED one: from nobody", x.rounds(0), 2);
        due("TOLD a BARRED one", x.turned(0), 1);
        SoleGuest y = plain(5, 6, 4);
        due("all five in one ROUND", y.rounds(0), 2);
        for (int h = 0; h < 5; h++) {
            due("the first that is left", y.turned(h), h);
        }
    }

    /** Nobody is the first of his ANSWERS only if no GUEST is as good. */
    private static void turnsToAGreaterAlone() {
        SoleGuest x = Bench.street(row(-1));
        x.ask(0, 0);
        due("two ROUNDS", x.rounds(0), 2);
        due("nobody in the end", x.turned(0), NONE);
        x.base(0, 0, 0);
        due("alike: one ROUND", x.rounds(0), 1);
        due("as TOLD", x.turned(0), 0);
    }

    /** HOST 1 likes neither and asks in vain whom HOST 0 asks; HOST 0 flees. */
    private static void turnsInARing() {
        SoleGuest x = Bench.street(row(10, 4), row(-8, -3));
        x.ask(0, 0);
        x.ask(1, 0);
        due("as ahead of the first, behind two ROUNDS", x.rounds(0), 2);
        due("a RING", x.rounds(1), 0);
        due("the end", x.turned(0), 0);
        due("the end", x.turned(1), 0);
        x.ask(0, 1);
        due("as behind the first, behind three ROUNDS", x.rounds(0), 3);
        due("a RING", x.rounds(1), 0);
        due("the end", x.turned(0), 1);
        due("the end", x.turned(1), 1);
        x.terms(0, 1);
        due("no RING by the lowest", x.rounds(1), 1);
    }

    private static void sets() {
        for (int hosts = 1; hosts <= 5; hosts++) {
            SoleGuest x = plain(hosts, 6, 4);
            for (int set = 1; set < 1 << hosts; set++) {
                due("all who are alone can gain, " + set, x.breaks(set), 1);
            }
            for (int set : new int[] {0, 1 << hosts, (1 << hosts) + 1, 32, 33, 64, -1, LEAST, LEAST + 1, GREATEST}) {
                due("no such SET " + set + " of " + hosts, x.breaks(set), NONE);
            }
            due("the lowest SET", x.breaker(), 1);
            for (int h = 0; h < hosts; h++) {
                x.ask(h, h);
            }
            for (int set = 1; set < 1 << hosts; set++) {
                due("nobody can gain, " + set, x.breaks(set), 0);
            }
            due("no SET", x.breaker(), NONE);
            x.ask(hosts - 1, NONE);
            due("the last alone", x.breaker(), 1 << hosts - 1);
        }
    }

    /** Each wants the next one's GUEST, so that none but all five together can change. */
    private static void setOfAll() {
        SoleGuest x = new SoleGuest();
        Bench.crowd(x, 5, 6);
        for (int h = 0; h < 5; h++) {
            for (int g = 0; g < 6; g++) {
                x.base(h, g, g == h ? 1 : g == (h + 1) % 5 ? 2 : -1);
            }
            x.ask(h, h);
        }
        due("all together", x.breaks(31), 1);
        due("all but the last", x.breaks(15), 0);
        due("all but the first", x.breaks(30), 0);
        due("one alone", x.breaks(16), 0);
        due("the lowest is that of all", x.breaker(), 31);
        Bench.force(x, "bars if host=2 and guest=3");
        due("one may not ask", x.breaker(), NONE);
        due("one may not ask", x.breaks(31), 0);
    }

    /** Each of the SET has a greater GAIN, not one alike. */
    private static void setsGainMore() {
        SoleGuest x = Bench.street(row(3, 3), row(5, 4));
        x.ask(0, 0);
        x.ask(1, 1);
        due("1 would, 0 would have as much", x.breaks(3), 0);
        due("0 alone", x.breaks(1), 0);
        due("1 alone can't, for 0 asks too", x.breaks(2), 0);
        x.base(0, 1, 4);
        due("both would", x.breaks(3), 1);
        due("both", x.breaker(), 3);
        SoleGuest y = Bench.street(row(-3));
        y.ask(0, 0);
        due("asking nobody is a way", y.breaks(1), 1);
        Bench.force(y, "bars");
        due("BARRED: he asks nobody already", y.breaks(1), 0);
    }

    private static void meanPowers() {
        long ten = 1;
        for (int hosts = 1; hosts <= 5; hosts++) {
            ten *= 10;
            SoleGuest x = plain(hosts, 6, 99);
            x.terms(1, 1);
            due("nobody asks, " + hosts, x.mean(0), 60 * ten);
            x.dice(hosts - 1, 5, 10);
            due("one asks, " + hosts, x.mean(hosts - 1), 5940 * ten);
            x.dice(hosts - 1, 5, 1);
            due("one asks by a tenth, " + hosts, x.mean(hosts - 1), (5940 + 60 * 9) * (ten / 10));
        }
    }

    private static void meanBounds() {
        SoleGuest x = plain(5, 6, 99);
        x.terms(1, -99);
        due("the least", x.mean(0), -594000000L);
        due("the least of all", x.mean(NONE), -2970000000L);
        for (int h = 0; h < 5; h++) {
            x.dice(h, h, 10);
        }
        due("the greatest", x.mean(4), 594000000L);
        due("the greatest of all", x.mean(NONE), 2970000000L);
        SoleGuest y = plain(5, 1, 99);
        for (int h = 0; h < 5; h++) {
            y.dice(h, 0, 10);
        }
        due("all ask one", y.mean(NONE), 0);
        y.terms(0, 1);
        due("the lowest", y.mean(0), 594000000L);
        due("the next", y.mean(1), 0);
        y.terms(0, 2);
        due("a fifth", y.mean(4), 118800000L);
        for (int h = 0; h < 5; h++) {
            y.dice(h, 0, 1);
        }
        y.terms(0, 0);
        due("a tenth each: 1 * 9 ^ 4", y.mean(4), 5940L * 6561);
        y.terms(0, 1);
        due("the lowest", y.mean(0), 5940L * 10000);
        due("the last", y.mean(4), 5940L * 6561);
        y.terms(0, 2);
        // of the others 9^4 none, 4 * 9^3 one, 6 * 81 two, 4 * 9 three, 1 four
        due("by lot", y.mean(2), 99L * (60 * 6561 + 30 * 4 * 729 + 20 * 6 * 81 + 15 * 4 * 9 + 12));
    }

    /** TENTHS for BARRED ones count as nobody's. */
    private static void meanBarred() {
        SoleGuest x = Bench.street(row(9, 4), row(6, 6));
        x.terms(1, 1);
        x.dice(0, 0, 10);
        x.dice(1, 0, 10);
        due("neither has him", x.mean(1), 6000);
        Bench.force(x, "bars if host=0");
        due("0 asks nobody", x.mean(0), 6000);
        due("so 1 has him", x.mean(1), 36000);
        due("TENTHS stay", x.dice(0, 0, 10), 10);
        Bench.force(x, "bars");
        due("all BARRED", x.mean(NONE), 12000);
    }

    private static void restBounds() {
        SoleGuest x = Bench.street(row(5));
        due("would ask", x.restless(), 0);
        for (int t = 1; t <= 9; t++) {
            x.dice(0, 0, t);
            due("would ask by more, " + t, x.restless(), 0);
        }
        x.dice(0, 0, 10);
        due("at REST", x.restless(), NONE);
        x.terms(1, 5);
        for (int t = 0; t <= 10; t++) {
            x.dice(0, 0, t);
            due("alike, " + t, x.restless(), NONE);
        }
        x.terms(1, 6);
        due("would ask nobody", x.restless(), 0);
        x.dice(0, 0, 0);
        due("asks nobody", x.restless(), NONE);
        x.terms(1, 4);
        due("would ask", x.restless(), 0);
        Bench.force(x, "bars");
        due("can't ask", x.restless(), NONE);
        x.force(NONE);
        x.dice(0, 0, 10);
        Bench.force(x, "bars");
        due("TENTHS for a BARRED one are nobody's", x.restless(), NONE);
    }

    private static void restFirst() {
        SoleGuest x = plain(5, 6, 5);
        for (int h = 0; h < 5; h++) {
            due("the first", x.restless(), h);
            x.dice(h, h, 10);
        }
        due("all are", x.restless(), NONE);
        x.dice(2, 2, 9);
        due("HOST 2", x.restless(), 2);
        x.dice(4, 4, 9);
        due("HOST 2 ahead of 4", x.restless(), 2);
        SoleGuest y = Bench.street(row(6, 3), row(6, 3));
        y.dice(1, 0, 5);
        y.dice(0, 0, 10);
        // GUEST 0 by half is as good as GUEST 1 for sure
        due("1 would have GUEST 1", y.restless(), 1);
        y.dice(1, 1, 5);
        due("1 has GUEST 1 by half, would by more", y.restless(), 1);
        y.dice(1, 0, 0);
        y.dice(1, 1, 10);
        due("at REST", y.restless(), NONE);
    }

    private static void alikeBounds() {
        SoleGuest x = plain(5, 6, 99);
        x.terms(1, -99);
        Bench.force(x, "bars");
        due("the least", x.alike(0), -2970000000L);
        due("by all rows", x.alike(1), 8008);
        due("the first", x.alikeOf(0), 0);
        due("the first", x.alikeOf(5), 0);
        x.terms(1, 99);
        Bench.force(x, "worth 99");
        due("the greatest", x.alike(0), 2970000000L);
        due("by all rows", x.alike(1), 8008);
        SoleGuest y = Bench.street(row(7));
        due("one HOST, one GUEST", y.alike(0), 4200);
        due("in one", y.alike(1), 1);
        due("all ten", y.alikeOf(0), 10);
        y.base(0, 0, -7);
        due("none", y.alike(0), 0);
        due("none", y.alikeOf(0), 0);
        y.terms(1, -7);
        due("alike", y.alike(0), -4200);
        due("by eleven rows", y.alike(1), 11);
        due("fewer ahead", y.alikeOf(0), 0);
    }

    /** How many rows of TENTHS there are, 10 at most together. */
    private static void alikeRows() {
        int[] rows = {1, 11, 66, 286, 1001, 3003, 8008};
        for (int guests = 0; guests <= 6; guests++) {
            SoleGuest x = plain(1, guests, 3);
            x.terms(1, 3);
            due("rows of " + guests, x.alike(1), rows[guests]);
            x.terms(1, 2);
            // one HOST: all ten are for GUESTS
            due("rows of ten of " + guests, x.alike(1), guests == 0 ? 1 : rows[guests - 1]);
        }
    }

    private static void alikeFirst() {
        SoleGuest x = plain(1, 6, 3);
        for (int g = 0; g < 6; g++) {
            due("fewer ahead: all for the last, " + g, x.alikeOf(g), g == 5 ? 10 : 0);
        }
        Bench.force(x, "worth 3;bars if guest=5");
        for (int g = 0; g < 6; g++) {
            due("the last is BARRED, " + g, x.alikeOf(g), g == 4 ? 10 : 0);
        }
        Bench.force(x, "worth 3 if guest<3;worth 1 if guest>2");
        for (int g = 0; g < 6; g++) {
            due("the last of the best, " + g, x.alikeOf(g), g == 2 ? 10 : 0);
        }
        SoleGuest y = Bench.street(row(8, 8), row(8, 8));
        // t and u tenths: 2 * 8 * (t * (10 - t) + u * (10 - u)), both 5
        due("both", y.alike(0), 60 * 2 * 8 * 50);
        due("five", y.alikeOf(0), 5);
        due("five", y.alikeOf(1), 5);
        Bench.force(y, "bars if host=1 and guest=0");
        // GUEST 0 has HOST 0 alone: 10 * t, GUEST 1 has 2 * u * (10 - u): 7 + 3: 70 + 42, 8 + 2: 80 + 32
        due("one of both is BARRED", y.alike(0), 60 * 8 * 112);
        due("by two rows", y.alike(1), 2);
        due("fewer ahead", y.alikeOf(0), 7);
        due("the rest", y.alikeOf(1), 3);
    }

    private static void whats() {
        SoleGuest x = Bench.street(row(5, 2), row(4, 1));
        for (int what : new int[] {-1, 2, 3, LEAST, GREATEST}) {
            due("most(" + what + ")", x.most(what), NOTHING);
            due("fair(" + what + ")", x.fair(what), NOTHING);
            due("steadySum(" + what + ")", x.steadySum(what), NOTHING);
            due("rounds(" + what + ")", x.rounds(what), NONE);
            due("alike(" + what + ")", x.alike(what), NOTHING);
        }
        due("most(1)", x.most(1), 2);
        due("fair(1)", x.fair(1), 1);
        due("steadySum(1)", x.steadySum(1), 360);
        due("rounds(1)", x.rounds(1), 1);
        due("alike(1)", x.alike(1), 1);
    }

    private static void turnsOfOneToTheNext() {
        for (int g = 0; g < 5; g++) {
            SoleGuest x = new SoleGuest();
            Bench.crowd(x, 5, 6);
            x.base(4, g, 1);
            x.base(4, g + 1, 2);
            x.ask(4, g);
            due("one ROUND, and one in which nobody did, " + g, x.rounds(0), 2);
            due("STEADY, " + g, x.rounds(1), 1);
            due("the next, " + g, x.turned(4), g + 1);
            due("as TOLD, " + g, x.turned(0), NONE);
        }
    }

    /** Behind a ROUND the same GUESTS are asked, but by others: no RING. */
    private static void turnsAcross() {
        SoleGuest x = Bench.street(row(1, 2), row(2, 3));
        x.terms(0, 1);
        x.ask(0, 0);
        x.ask(1, 1);
        due("across, then nobody", x.rounds(0), 2);
        due("STEADY", x.rounds(1), 1);
        due("0", x.turned(0), 1);
        due("1", x.turned(1), 0);
        SoleGuest y = Bench.street(row(1, 5, 0, 0), row(0, 0, 0, 5), row(0, 0, 5, 0));
        // 0 1 1 and 1 3 2 are 64 apart, if ASKINGS are told by sevens
        y.terms(0, 1);
        y.ask(0, 0);
        y.ask(1, 1);
        y.ask(2, 1);
        due("two ROUNDS", y.rounds(0), 2);
        due("STEADY", y.rounds(1), 1);
        due("0", y.turned(0), 1);
        due("1", y.turned(1), 3);
        due("2", y.turned(2), 2);
    }

    private static void turnsOfAFullStreet() {
        SoleGuest x = new SoleGuest();
        Bench.crowd(x, 5, 6);
        Bench.force(x, "worth 9 if host+guest=5");
        due("all in one ROUND", x.rounds(0), 2);
        due("STEADY", x.rounds(1), 1);
        for (int h = 0; h < 5; h++) {
            due("turned " + h, x.turned(h), 5 - h);
            x.ask(h, 0);
        }
        due("from all at one", x.rounds(0), 2);
        due("STEADY", x.rounds(1), 1);
        for (int h = 0; h < 5; h++) {
            due("turned " + h, x.turned(h), 5 - h);
            x.ask(h, 5 - h);
        }
        due("at once", x.rounds(0), 1);
        due("STEADY", x.rounds(1), 1);
        // HOST 3 flees from 4 to 5 and back, as HOST 4 likes neither and asks in vain whom HOST 3 asks
        SoleGuest y = new SoleGuest();
        Bench.crowd(y, 5, 6);
        Bench.force(y, "worth 9 if guest=host and host<3;worth 5 if host=3 and guest>3;worth 0-5 if host=4;"
            + "bars if host=4 and guest<4");
        for (int h = 0; h < 3; h++) {
            y.ask(h, h);
        }
        y.ask(3, 4);
        y.ask(4, 4);
        due("as ahead of the first, behind two ROUNDS", y.rounds(0), 2);
        due("a RING", y.rounds(1), 0);
        due("3", y.turned(3), 4);
        due("4", y.turned(4), 4);
        for (int h = 0; h < 3; h++) {
            due("they stay", y.turned(h), h);
        }
    }

    /** What was reckoned once is reckoned anew when anything changes. */
    private static void followsWhatStands() {
        SoleGuest x = new SoleGuest();
        x.terms(1, 2);
        due("no HOST", x.most(0), 0);
        due("no HOST", x.steady(), 1);
        x.host(0);
        due("a HOST", x.most(0), 120);
        due("a HOST", x.fair(0), 120);
        x.guest(0);
        due("a GUEST", x.most(1), 1);
        x.base(0, 0, 2);
        due("BASE of the first", x.most(1), 2);
        due("BASE of the first", x.steady(), 2);
        x.base(0, 0, 9);
        due("BASE of the first", x.most(0), 540);
        due("BASE of the first", x.mostOf(0), 0);
        x.guest(0);
        x.base(0, 1, 9);
        due("another GUEST", x.most(1), 2);
        x.host(0);
        due("another HOST", x.most(0), 660);
        due("another HOST", x.fair(0), 120);
        x.base(1, 0, 3);
        due("BASE of the other", x.most(0), 720);
        due("BASE of the other", x.fair(0), 180);
        x.base(0, 1, 1);
        due("BASE of the first", x.most(0), 540 + 120);
        x.terms(1, 0);
        due("LONE", x.most(0), 540);
        x.terms(0, 1);
        due("CUSTOM", x.most(1), 3);
        x.terms(0, 0);
        due("CUSTOM", x.most(1), 2);
        Bench.force(x, "bars if host=0 and guest=0");
        due("a LAW", x.most(0), 240);
        x.force(NONE);
        due("no LAW", x.most(0), 540);
        x.image(0);
        x.host(0);
        x.base(2, 1, 50);
        due("a third HOST", x.most(0), 3540);
        x.back(0);
        due("BACK", x.most(0), 540);
        due("BACK", x.mostOf(2), NONE);
        x.ask(0, 1);
        x.dice(0, 0, 4);
        x.manner(0, 3);
        x.year(0, 5);
        due("what is asked doesn't matter", x.most(0), 540);
        SoleGuest y = Bench.street(row(5));
        due("one GUEST", y.most(0), 300);
        Bench.force(y, "bars");
        due("he is BARRED", y.most(0), 0);
        y.force(NONE);
        due("he is not", y.most(0), 300);
    }

    /** met and evening are 0 wherever it is reckoned outside of a YEAR, also behind one. */
    private static void outsideOfYears() {
        SoleGuest x = Bench.street(row(1));
        Bench.force(x, "worth 5+met*9+evening");
        for (int i = 0; i < 2; i++) {
            x.ask(0, 0);
            x.dice(0, 0, 10);
            due("WORTH", x.of(0, 0, 1), 5);
            due("GAIN", x.gain(0), 300);
            due("MOST", x.most(0), 300);
            due("FAIR", x.fair(0), 300);
            due("STEADY", x.steadySum(0), 300);
            due("MEAN", x.mean(0), 3000);
            due("ALIKE", x.alike(0), 3000);
            x.terms(1, 5);
            due("ANSWERS", x.answers(0), 65);
            due("BY TURNS", x.rounds(0), 1);
            due("SETS", x.breaker(), NONE);
            due("REST", x.restless(), NONE);
            x.terms(1, 0);
            x.year(0, 7);
        }
    }

    /** BACK to fewer HOSTS and GUESTS: those who went bring nothing any more. */
    private static void fewerAgain() {
        SoleGuest x = Bench.street(row(1, 2), row(1, 2));
        x.image(0);
        for (int g = 2; g < 6; g++) {
            x.guest(0);
        }
        for (int h = 2; h < 5; h++) {
            x.host(0);
        }
        for (int h = 0; h < 5; h++) {
            for (int g = 2; g < 6; g++) {
                x.base(h, g, 90);
            }
            x.ask(h, 5);
            x.dice(h, 5, 10);
        }
        x.terms(0, 2);
        due("MOST", x.most(0), 60 * (4 * 90 + 2));
        due("ALIKE", x.alike(0) > 0 ? 1 : 0, 1);
        due("MEAN", x.mean(NONE), 5400L * 100000);
        x.back(0);
        due("GAIN", x.gain(NONE), 0);
        due("MOST", x.most(0), 180);
        due("FAIR", x.fair(0), 60);
        due("STEADY", x.steadySum(0), 180);
        due("ANSWERS", x.answers(0), 2);
        due("BY TURNS", x.turned(0), 1);
        due("SETS", x.breaks(4), NONE);
        due("SETS", x.breaker(), 1);
        due("MEAN", x.mean(NONE), 0);
        due("REST", x.restless(), 0);
        // 2 * (t * (10 - t) + 2 * u * (10 - u)): 5 and 5
        due("ALIKE", x.alike(0), 60 * 2 * 75);
        due("ALIKE", x.alike(1), 1);
        due("asked", x.asked(5), NONE);
        for (int manner = 0; manner <= 5; manner++) {
            x.manner(0, manner);
            x.year(0, 3);
            int asked = x.dined(2, 0, 0);
            due("none but those who are there, by MANNER " + manner, asked < 2 ? 1 : 0, 1);
        }
        x.manner(0, 2);
        x.year(0, 2);
        due("hopes for one of those who are there", x.dined(1, 0, 0), 1);
    }
}
