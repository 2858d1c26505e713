/** The bounds of YEARS: the first evening and the last, DRAWS that wrap around, MANNERS where they turn to another. */
public final class YearBoundsTest {
    private static final int NONE = Bench.NONE;
    private static final int NOTHING = Bench.NOTHING;
    private static final int LEAST = Integer.MIN_VALUE;
    private static final int GREATEST = Integer.MAX_VALUE;
    private static final Checks CHECKS = new Checks("YearBoundsTest");
    /** By what a first DRAW of 10 is: a SEED for it. */
    private static final int[] SEED_FOR = {5, 2, 9, 6, 3, 0, 7, 4, 1, 8};

    public static void main(String[] args) {
        seeds();
        drawsWrapAround();
        belowTenths();
        belowTenthsOfAllLower();
        drawsByHosts();
        drawsByGuests();
        drawsOfHowMany();
        noDraws();
        firstEvening();
        lastEvening();
        metCounts();
        answersBefore();
        hopeAboveZero();
        hopeAlike();
        hopeByEvenings();
        hopeBarred();
        envyAlike();
        envyOfOneAlone();
        keeping();
        keepingElse();
        barred();
        lonely();
        latest();
        dinedBounds();
        earnedBounds();
        settledBounds();
        fullOfHope();
        fullOfDice();
        fullWithoutDraws();
        CHECKS.close();
    }

    private static void due(String what, long got, long want) {
        CHECKS.same(what, got, want);
    }

    private static int[] row(int... values) {
        return values;
    }

    /** What the DRAWS of 10 are: by two sets of DICE, cut behind odd ones and behind even ones. */
    private static int[] rolls(int seed, int n) {
        SoleGuest x = new SoleGuest();
        Bench.crowd(x, 1, 6);
        x.manner(0, 3);
        for (int g = 0; g < 5; g++) {
            x.dice(0, g, 2);
        }
        x.year(seed, n);
        int[] rolls = new int[n];
        for (int e = 0; e < n; e++) {
            rolls[e] = 2 * x.dined(e, 0, 0);
        }
        x.dice(0, 0, 1);
        x.dice(0, 5, 1);
        x.year(seed, n);
        for (int e = 0; e < n; e++) {
            rolls[e] += 2 * x.dined(e, 0, 0) > rolls[e] ? 1 : 0;
        }
        return rolls;
    }

    private static void rolled(int seed, int... want) {
        int[] got = rolls(seed, want.length);
        for (int e = 0; e < want.length; e++) {
            due("roll " + e + " of SEED " + seed, got[e], want[e]);
        }
    }

    private static void seeds() {
        rolled(0, 5, 1, 9, 7, 0, 0, 3, 1);
        rolled(1, 8, 7, 0, 9, 6, 3, 9, 2);
        rolled(999999, 3, 0, 5, 9, 2, 4, 9, 6);
        rolled(1000000, 6, 6, 6, 1, 8, 4, 5, 4);
        for (int r = 0; r < 10; r++) {
            rolled(SEED_FOR[r], r);
        }
    }

    /** s modulo 1,000,003: at its greatest, at 0, and through long YEARS. */
    private static void drawsWrapAround() {
        rolled(327279, 2, 2, 5, 8);
        rolled(784216, 1, 9, 9, 7);
        rolled(241150, 0, 6, 6, 6);
        rolled(698087, 9, 3, 0, 5);
        rolled(870345, 0, 5, 1, 9);
        rolled(413408, 1, 8, 7, 0);
        for (int seed : new int[] {0, 1, 906, 907, 1000000, 500000, 327279}) {
            int[] want = new int[40];
            long s = seed;
            for (int e = 0; e < 40; e++) {
                s = (s * 1103 + 12345) % 1000003;
                want[e] = (int) (s % 10);
            }
            rolled(seed, want);
        }
    }

    private static void belowTenths() {
        for (int t = 0; t <= 10; t++) {
            SoleGuest x = Bench.street(row(5));
            x.manner(0, 3);
            x.dice(0, 0, t);
            for (int r = 0; r < 10; r++) {
                due("alone by roll " + r + " of " + t, x.year(SEED_FOR[r], 1), r < t ? 0 : 1);
                due("roll " + r + " of " + t, x.dined(0, 0, 0), r < t ? 0 : NONE);
            }
        }
    }

    private static void belowTenthsOfAllLower() {
        SoleGuest x = Bench.street(row(5, 5, 5, 5, 5, 5));
        x.manner(0, 3);
        x.dice(0, 1, 3);
        x.dice(0, 2, 1);
        x.dice(0, 5, 5);
        int[] want = {1, 1, 1, 2, 5, 5, 5, 5, 5, NONE};
        for (int r = 0; r < 10; r++) {
            x.year(SEED_FOR[r], 1);
            due("roll " + r, x.dined(0, 0, 0), want[r]);
        }
        Bench.force(x, "bars if guest=2");
        x.year(SEED_FOR[3], 1);
        due("a BARRED one: nobody", x.dined(0, 0, 0), NONE);
        x.year(SEED_FOR[4], 1);
        due("his TENTHS count for those above", x.dined(0, 0, 0), 5);
    }

    /** Each HOST with MANNER 3 has a DRAW of his own, lowest first, in each evening; no other HOST has one. */
    private static void drawsByHosts() {
        SoleGuest x = Bench.street(row(5, 1), row(5, 1), row(5, 1), row(5, 1));
        x.manner(0, 3);
        x.manner(3, 3);
        x.ask(1, 1);
        x.manner(2, 2);
        x.dice(0, 0, 6);
        x.dice(3, 0, 2);
        // 5 1, 9 7, 0 0
        x.year(0, 3);
        int[] first = {0, NONE, 0};
        int[] last = {0, NONE, 0};
        for (int e = 0; e < 3; e++) {
            due("HOST 0 in " + e, x.dined(e, 0, 0), first[e]);
            due("HOST 3 in " + e, x.dined(e, 3, 0), last[e]);
        }
        x.dice(3, 0, 1);
        x.year(0, 1);
        due("1 is not below 1", x.dined(0, 3, 0), NONE);
        Bench.force(x, "bars if host=0");
        x.dice(3, 0, 2);
        x.year(0, 1);
        due("a BARRED one's DRAW is had all the same", x.dined(0, 3, 0), 0);
        due("nobody", x.dined(0, 0, 0), NONE);
    }

    /** By lot, GUEST by GUEST behind all HOSTS; who is asked by one or none has no DRAW. */
    private static void drawsByGuests() {
        SoleGuest x = Bench.street(row(1, 1, 1), row(1, 1, 1), row(1, 1, 1), row(1, 1, 1), row(1, 1, 1));
        x.terms(0, 2);
        x.ask(0, 2);
        x.ask(1, 0);
        x.ask(2, 2);
        x.ask(3, 1);
        x.ask(4, 1);
        // 12345 and 628841 are odd, then 621889, 953857 odd, then 113460, 158350 even
        due("one asked by one, two by two: two are alone", x.year(0, 3), 3);
        due("GUEST 0 is asked by one", x.dined(0, 1, 1), 0);
        due("GUEST 1", x.dined(0, 4, 1), 1);
        due("GUEST 2", x.dined(0, 2, 1), 2);
        due("GUEST 1", x.dined(1, 4, 1), 1);
        due("GUEST 2", x.dined(1, 2, 1), 2);
        due("GUEST 1", x.dined(2, 3, 1), 1);
        due("GUEST 2", x.dined(2, 0, 1), 2);
        // SEED 7: 20066 is even, 145077 odd: the lower GUEST has the first
        x.year(7, 1);
        due("GUEST 1", x.dined(0, 3, 1), 1);
        due("GUEST 2", x.dined(0, 2, 1), 2);
        x.manner(4, 3);
        x.dice(4, 1, 10);
        // now the HOST has the first, GUEST 1 the second, GUEST 2 the third, 31796
        x.year(7, 1);
        due("GUEST 1", x.dined(0, 4, 1), 1);
        due("GUEST 2", x.dined(0, 0, 1), 2);
    }

    private static void drawsOfHowMany() {
        long[] first = {12345, 13448, 20066, 9036};
        int[] seed = {0, 1, 7, 1000000};
        for (int k = 2; k <= 5; k++) {
            for (int i = 0; i < seed.length; i++) {
                SoleGuest x = Bench.street(row(1), row(1), row(1), row(1), row(1));
                x.terms(0, 2);
                for (int h = 5 - k; h < 5; h++) {
                    x.ask(h, 0);
                }
                x.year(seed[i], 1);
                int which = 5 - k + (int) (first[i] % k);
                for (int h = 0; h < 5; h++) {
                    due("HOST " + h + " of " + k + " by " + first[i], x.dined(0, h, 1), h == which ? 0 : NONE);
                    due("GAIN of " + h, x.earned(h), h == which ? 60 : 0);
                }
            }
        }
        SoleGuest y = Bench.street(row(1), row(1), row(1));
        y.terms(0, 2);
        for (int h = 0; h < 3; h++) {
            y.ask(h, 0);
        }
        Bench.force(y, "bars if host=1");
        y.year(0, 1);
        due("BARRED ones are not of those: 12345 of 2", y.dined(0, 2, 1), 0);
    }

    /** By CUSTOMS 0 and 1 no GUEST has a DRAW. */
    private static void noDraws() {
        for (int custom = 0; custom <= 2; custom++) {
            SoleGuest x = Bench.street(row(1, 1), row(1, 1), row(1, 1));
            x.terms(0, custom);
            x.ask(0, 0);
            x.ask(1, 0);
            x.manner(2, 3);
            x.dice(2, 1, 2);
            // rolls 5 1 9, or by lot those of every other DRAW: 5 9 0
            x.year(0, 3);
            due("5 by CUSTOM " + custom, x.dined(0, 2, 0), NONE);
            due("1 or 9 by CUSTOM " + custom, x.dined(1, 2, 0), custom == 2 ? NONE : 1);
            due("9 or 0 by CUSTOM " + custom, x.dined(2, 2, 0), custom == 2 ? 1 : NONE);
        }
    }

    private static void firstEvening() {
        for (int manner = 0; manner <= 5; manner++) {
            SoleGuest x = Bench.street(row(1, 9), row(9, 1));
            x.ask(0, 0);
            x.ask(1, 1);
            x.manner(0, manner);
            x.year(0, 1);
            due("the first evening by MANNER " + manner, x.dined(0, 0, 0), manner == 3 ? NONE : 0);
            x.dice(0, 1, 10);
            x.year(0, 1);
            due("the first evening by MANNER " + manner, x.dined(0, 0, 0), manner == 3 ? 1 : 0);
            x.ask(0, NONE);
            x.year(0, 1);
            due("TOLD nobody by MANNER " + manner, x.dined(0, 0, 0), manner == 3 ? 1 : NONE);
            Bench.force(x, "bars if host=0");
            x.ask(0, 0);
            x.year(0, 1);
            due("BARRED by MANNER " + manner, x.dined(0, 0, 0), NONE);
        }
        SoleGuest x = Bench.street(row(1, 9));
        Bench.force(x, "worth 7 if evening=0 and met=0");
        x.ask(0, 0);
        x.year(0, 1);
        due("evening 0, met 0", x.earned(0), 420);
    }

    private static void lastEvening() {
        SoleGuest x = Bench.street(row(1));
        x.ask(0, 0);
        Bench.force(x, "worth evening");
        due("40 evenings", x.year(0, 40), 0);
        due("0 + 1 + .. + 39", x.earned(0), 60 * 780);
        Bench.force(x, "bars if evening=39");
        due("the last is 39", x.year(0, 40), 1);
        due("39", x.dined(39, 0, 0), NONE);
        due("38", x.dined(38, 0, 0), 0);
        due("settled", x.settled(), 39);
        Bench.force(x, "bars if evening=40");
        due("none is 40", x.year(0, 40), 0);
        Bench.force(x, "bars if evening>0");
        due("an evening of one", x.year(0, 1), 0);
        due("39 of 40", x.year(0, 40), 39);
    }

    /** met: that GUEST dined with that HOST; to be asked is not enough. */
    private static void metCounts() {
        SoleGuest x = Bench.street(row(1, 1), row(1, 1));
        x.ask(0, 0);
        x.ask(1, 1);
        Bench.force(x, "worth met");
        x.year(0, 40);
        due("0 + 1 + .. + 39", x.earned(0), 60 * 780);
        x.ask(1, 0);
        x.terms(1, 50);
        Bench.force(x, "worth met;bars if evening>2 and host=1");
        x.year(0, 5);
        // 50 50 50, then 0 and 1, for in vain is not met
        due("in vain", x.earned(0), 60 * 151);
        Bench.force(x, "worth met;bars if host=0 and evening=1");
        x.ask(1, 1);
        x.year(0, 4);
        due("0, alone, 1, 2", x.earned(0), 60 * 53);
        due("0, 1, 2, 3", x.earned(1), 60 * 6);
    }

    /** MANNER 1: the first of his ANSWERS to what the others asked the evening before. */
    private static void answersBefore() {
        SoleGuest x = Bench.street(row(5, 5), row(5, 5));
        x.manner(0, 1);
        x.ask(0, 1);
        due("alike: the first", x.year(0, 2), 2);
        due("as TOLD", x.dined(0, 0, 0), 1);
        due("the first of both", x.dined(1, 0, 0), 0);
        x.ask(1, 0);
        x.year(0, 2);
        due("0 was asked", x.dined(1, 0, 0), 1);
        x.terms(1, 5);
        x.year(0, 2);
        due("in vain is as good: the first", x.dined(1, 0, 0), 0);
        x.terms(1, 6);
        x.year(0, 2);
        due("in vain is better than to have one, and ahead of nobody", x.dined(1, 0, 0), 0);
        x.ask(1, NONE);
        x.year(0, 2);
        due("nobody", x.dined(1, 0, 0), NONE);
        Bench.force(x, "worth 9;bars if guest=0");
        x.year(0, 2);
        due("the first that is not BARRED", x.dined(1, 0, 0), 1);
        SoleGuest y = Bench.street(row(5, 4), row(1, 1));
        y.manner(0, 1);
        y.ask(1, 0);
        Bench.force(y, "bars if host=1 and evening=0");
        y.year(0, 3);
        due("1 asked nobody in evening 0", y.dined(1, 0, 0), 0);
        due("1 asked 0 in evening 1", y.dined(2, 0, 0), 1);
    }

    /** MANNER 2: above 0, else nobody. */
    private static void hopeAboveZero() {
        for (int lone = 3; lone <= 7; lone++) {
            SoleGuest x = Bench.street(row(5), row(5));
            x.manner(0, 2);
            x.terms(1, lone);
            x.year(0, 2);
            due("WORTH 5, LONE " + lone, x.dined(1, 0, 0), lone < 5 ? 0 : NONE);
        }
        SoleGuest x = Bench.street(row(5), row(5));
        x.manner(0, 2);
        x.ask(1, 0);
        x.year(0, 2);
        due("another asked him in all evenings so far", x.dined(1, 0, 0), NONE);
        Bench.force(x, "bars if host=1 and evening=0");
        x.year(0, 3);
        due("in none", x.dined(1, 0, 0), 0);
        due("in one of two", x.dined(2, 0, 0), 0);
        SoleGuest y = Bench.street(row(99));
        y.manner(0, 2);
        y.terms(1, -99);
        due("198 times up to 39", y.year(0, 40), 1);
        due("the last", y.dined(39, 0, 0), 0);
        y.terms(1, 99);
        Bench.force(y, "worth 0-99");
        due("-198 times up to 39", y.year(0, 40), 40);
    }

    private static void hopeAlike() {
        SoleGuest x = Bench.street(row(4, 5, 5, 3));
        x.manner(0, 2);
        x.ask(0, 2);
        x.year(0, 2);
        due("the lowest of alike ones", x.dined(1, 0, 0), 1);
        x.base(0, 0, 5);
        x.year(0, 2);
        due("the lowest of alike ones", x.dined(1, 0, 0), 0);
        x.base(0, 3, 6);
        x.year(0, 2);
        due("the last is greater", x.dined(1, 0, 0), 3);
    }

    /** Times evenings so far in which no OTHER HOST asked him. */
    private static void hopeByEvenings() {
        SoleGuest x = Bench.street(row(10, 4), row(1, 1));
        x.manner(0, 2);
        x.ask(0, 0);
        x.ask(1, 0);
        Bench.force(x, "bars if host=1 and evening<2");
        // GUEST 0 in two evenings by none but HOST 0 himself: 20; GUEST 1: 4 each evening
        x.year(0, 8);
        int[] want = {0, 0, 0, 0, 0, 0, 1, 1};
        for (int e = 0; e < 8; e++) {
            due("evening " + e, x.dined(e, 0, 0), want[e]);
        }
    }

    private static void hopeBarred() {
        SoleGuest x = Bench.street(row(10, 4));
        x.manner(0, 2);
        Bench.force(x, "bars if guest=0");
        x.year(0, 2);
        due("the greatest is BARRED: nobody", x.dined(1, 0, 0), NONE);
        Bench.force(x, "bars if guest=1");
        x.year(0, 2);
        due("another is BARRED", x.dined(1, 0, 0), 0);
    }

    /** MANNER 4: of those who had alike GAINS the lowest; himself he doesn't count. */
    private static void envyAlike() {
        SoleGuest x = Bench.street(row(5, 5, 5, 9), row(5, 5, 5, 9), row(5, 5, 5, 9), row(5, 5, 5, 9));
        for (int h = 0; h < 4; h++) {
            x.ask(h, h);
        }
        x.manner(3, 4);
        x.year(0, 2);
        due("his own 9 is not another's", x.dined(1, 3, 0), 0);
        x.manner(0, 4);
        x.year(0, 2);
        due("0 envies 3", x.dined(1, 0, 0), 3);
        due("3 envies 0", x.dined(1, 3, 0), 0);
        x.base(2, 2, 6);
        x.year(0, 2);
        due("3 envies 2", x.dined(1, 3, 0), 2);
        x.base(1, 1, 6);
        x.year(0, 2);
        due("the lower of 1 and 2", x.dined(1, 3, 0), 1);
        SoleGuest y = Bench.street(row(5));
        y.manner(0, 4);
        y.ask(0, 0);
        due("no other HOST: as TOLD", y.year(0, 40), 0);
        y.ask(0, NONE);
        due("no other HOST: as TOLD", y.year(0, 40), 40);
    }

    private static void envyOfOneAlone() {
        SoleGuest x = Bench.street(row(5, 5), row(5, 5), row(5, 5));
        x.manner(2, 4);
        x.ask(0, 0);
        x.ask(2, 1);
        x.terms(1, 4);
        x.year(0, 2);
        due("5 is more than 4", x.dined(1, 2, 0), 0);
        x.terms(1, 5);
        x.year(0, 2);
        due("alike: 0 is lower", x.dined(1, 2, 0), 0);
        x.terms(1, 6);
        x.year(0, 2);
        due("1 alone has most: as TOLD", x.dined(1, 2, 0), 1);
        x.terms(1, -99);
        x.base(0, 0, -99);
        x.year(0, 2);
        due("the least of all, and lower", x.dined(1, 2, 0), 0);
        x.ask(0, NONE);
        x.ask(1, 0);
        x.base(1, 0, -99);
        x.year(0, 2);
        due("0 is alone, alike and lower: as TOLD", x.dined(1, 2, 0), 1);
    }

    /** MANNER 5: whom he had, whatever he is worth. */
    private static void keeping() {
        SoleGuest x = Bench.street(row(-9, 9));
        x.manner(0, 5);
        x.ask(0, 0);
        due("he keeps", x.year(0, 40), 0);
        due("he keeps", x.earned(0), -9 * 60 * 40);
        due("the last", x.dined(39, 0, 0), 0);
        Bench.force(x, "bars if guest=0 and evening=5");
        due("BARRED once: nobody, then the lowest whom nobody asked", x.year(0, 8), 1);
        due("5", x.dined(5, 0, 0), NONE);
        due("6", x.dined(6, 0, 0), 0);
        Bench.force(x, "bars if guest=0 and evening>4");
        due("BARRED from then: nobody, then the other", x.year(0, 8), 1);
        due("5", x.dined(5, 0, 0), NONE);
        due("6", x.dined(6, 0, 0), 1);
        due("7", x.dined(7, 0, 0), 1);
    }

    private static void keepingElse() {
        SoleGuest x = Bench.street(row(1, 1, 1), row(1, 1, 1), row(1, 1, 1));
        x.manner(0, 5);
        x.ask(1, 0);
        x.ask(2, 1);
        x.year(0, 2);
        due("the lowest whom nobody asked", x.dined(1, 0, 0), 2);
        x.ask(2, 0);
        x.year(0, 2);
        due("the lowest whom nobody asked", x.dined(1, 0, 0), 1);
        Bench.force(x, "bars if host=0 and guest=1");
        x.year(0, 2);
        due("who is not BARRED", x.dined(1, 0, 0), 2);
        Bench.force(x, "bars if host=0 and guest>0");
        x.ask(0, 0);
        x.year(0, 2);
        due("none: as TOLD", x.dined(1, 0, 0), 0);
        x.ask(0, NONE);
        x.year(0, 2);
        due("none: as TOLD, nobody", x.dined(1, 0, 0), NONE);
        SoleGuest y = Bench.street(row(1), row(1));
        y.manner(0, 5);
        y.ask(0, 0);
        y.ask(1, 0);
        due("all are asked: as TOLD, in vain", y.year(0, 40), 40);
        due("as TOLD", y.dined(39, 0, 0), 0);
        y.terms(0, 1);
        due("0 has him and keeps him, 1 is alone", y.year(0, 40), 40);
        due("earned", y.earned(0), 2400);
    }

    /** A BARRED GUEST: nobody, in each evening, by each MANNER. */
    private static void barred() {
        for (int manner = 0; manner <= 5; manner++) {
            SoleGuest x = Bench.street(row(5, 4), row(5, 4));
            x.ask(0, 0);
            x.ask(1, 1);
            x.dice(0, 0, 5);
            x.dice(0, 1, 5);
            x.manner(0, manner);
            Bench.force(x, "bars if host=0");
            due("all BARRED by MANNER " + manner, x.year(0, 40), 40);
            for (int e = 0; e < 40; e++) {
                due("evening " + e + " by MANNER " + manner, x.dined(e, 0, 0), NONE);
            }
            due("HOST 1 has his", x.earned(1), 240 * 40);
        }
    }

    /** In how many a HOST at least dined alone. */
    private static void lonely() {
        SoleGuest x = Bench.street(row(1, 1, 1), row(1, 1, 1), row(1, 1, 1));
        for (int h = 0; h < 3; h++) {
            due(h + " of 3 are not alone", x.year(0, 7), 7);
            x.ask(h, h);
        }
        due("none is alone", x.year(0, 7), 0);
        Bench.force(x, "bars if host=1 and evening<3;bars if host=2 and evening>1");
        due("in 0 1 2, and in 2 3 4 5 6", x.year(0, 7), 7);
        Bench.force(x, "bars if host=1 and evening<3;bars if host=2 and evening>1 and evening<4");
        due("in 0 1 2, and in 2 3", x.year(0, 7), 4);
        due("one evening", x.year(0, 1), 1);
    }

    private static void latest() {
        SoleGuest x = Bench.street(row(3));
        x.ask(0, 0);
        x.year(0, 40);
        due("40 evenings", x.earned(0), 7200);
        x.year(0, 2);
        due("the latest has two", x.earned(0), 360);
        due("evening 1", x.dined(1, 0, 1), 0);
        due("evening 2 was another YEAR's", x.dined(2, 0, 1), NONE);
        due("settled", x.settled(), 0);
        x.ask(0, NONE);
        x.base(0, 0, 50);
        due("what changes later doesn't matter", x.dined(1, 0, 0), 0);
        due("what changes later doesn't matter", x.earned(0), 360);
        x.year(-1, 2);
        due("a REFUSED one doesn't matter", x.earned(0), 360);
        x.host(5);
        due("a HOST of later", x.earned(1), NOTHING);
        due("a HOST of later", x.dined(0, 1, 0), NONE);
        x.image(0);
        x.ask(1, 0);
        x.year(0, 3);
        due("a new YEAR", x.earned(1), 0);
        x.back(0);
        due("BACK doesn't matter", x.dined(2, 1, 1), 0);
    }

    private static void dinedBounds() {
        SoleGuest x = Bench.street(row(3, 3), row(3, 3));
        for (int what = 0; what <= 1; what++) {
            due("ahead of any YEAR", x.dined(0, 0, what), NONE);
        }
        x.ask(0, 0);
        x.ask(1, 0);
        x.year(0, 3);
        for (int e = 0; e < 3; e++) {
            due("asked in " + e, x.dined(e, 1, 0), 0);
            due("dined in " + e, x.dined(e, 1, 1), NONE);
        }
        for (int v : new int[] {-1, 3, 39, 40, LEAST, GREATEST}) {
            due("evening " + v, x.dined(v, 0, 0), NONE);
        }
        for (int v : new int[] {-1, 2, 4, 5, LEAST, GREATEST}) {
            due("HOST " + v, x.dined(0, v, 0), NONE);
            due("HOST " + v, x.dined(1, v, 0), NONE);
        }
        for (int v : new int[] {-1, 2, LEAST, GREATEST}) {
            due("what " + v, x.dined(0, 0, v), NONE);
        }
        SoleGuest y = new SoleGuest();
        Bench.crowd(y, 5, 6);
        for (int h = 0; h < 5; h++) {
            y.ask(h, h + 1);
        }
        y.year(0, 40);
        for (int h = 0; h < 5; h++) {
            due("the first evening, " + h, y.dined(0, h, 0), h + 1);
            due("the last evening, " + h, y.dined(39, h, 1), h + 1);
            due("none behind it, " + h, y.dined(40, h, 1), NONE);
        }
    }

    private static void earnedBounds() {
        SoleGuest x = new SoleGuest();
        due("ahead of any YEAR", x.earned(0), NOTHING);
        Bench.crowd(x, 5, 6);
        due("ahead of any YEAR", x.earned(0), NOTHING);
        for (int h = 0; h < 5; h++) {
            x.ask(h, h);
        }
        Bench.force(x, "worth 99");
        x.year(0, 40);
        due("the greatest", x.earned(4), 237600);
        Bench.force(x, "worth 0-99");
        x.year(0, 40);
        due("the least", x.earned(4), -237600);
        x.terms(1, -99);
        Bench.force(x, "bars");
        x.year(0, 40);
        due("the least, alone", x.earned(0), -237600);
        for (int h : new int[] {-1, 5, 6, -2, LEAST, GREATEST}) {
            due("HOST " + h, x.earned(h), NOTHING);
        }
    }

    private static void settledBounds() {
        SoleGuest x = Bench.street(row(3, 3), row(3, 3));
        due("ahead of any YEAR", x.settled(), NONE);
        x.year(0, 1);
        due("an evening", x.settled(), 0);
        x.year(0, 40);
        due("from the first", x.settled(), 0);
        x.ask(0, 0);
        x.ask(1, 1);
        for (int change = 1; change < 6; change++) {
            SoleGuest y = Bench.street(row(3, 3), row(3, 3));
            y.ask(0, 0);
            y.ask(1, 1);
            Bench.force(y, "bars if host=1 and evening<" + change);
            y.year(0, 6);
            due("from " + change, y.settled(), change);
            y.year(0, change);
            due("before it", y.settled(), 0);
            y.year(0, change + 1);
            due("its last", y.settled(), change);
        }
        Bench.force(x, "bars if host=0 and evening=2");
        x.year(0, 5);
        due("as it was in the first, but not all along", x.settled(), 3);
        x.force(NONE);
        x.terms(0, 2);
        x.ask(1, 0);
        x.year(0, 8);
        due("who dined doesn't matter", x.settled(), 0);
    }

    /** All find all alike: evening by evening all ask the lowest of those who were asked least. */
    private static void fullOfHope() {
        SoleGuest x = new SoleGuest();
        Bench.crowd(x, 5, 6);
        Bench.force(x, "worth 5");
        for (int h = 0; h < 5; h++) {
            x.manner(h, 2);
        }
        due("all alone", x.year(0, 40), 40);
        for (int e = 0; e < 40; e++) {
            for (int h = 0; h < 5; h++) {
                due("HOST " + h + " in " + e, x.dined(e, h, 0), e == 0 ? NONE : (e - 1) % 6);
            }
        }
        due("they change to the last", x.settled(), 39);
    }

    private static void fullOfDice() {
        SoleGuest x = new SoleGuest();
        Bench.crowd(x, 5, 6);
        Bench.force(x, "worth 5");
        for (int h = 0; h < 5; h++) {
            x.manner(h, 3);
        }
        due("no TENTHS", x.year(1000000, 40), 40);
        due("nobody", x.dined(39, 4, 0), NONE);
        due("nobody", x.settled(), 0);
        for (int h = 0; h < 5; h++) {
            x.dice(h, 5, 10);
        }
        due("all ask the last", x.year(1000000, 40), 40);
        due("the last", x.dined(39, 4, 0), 5);
        due("in vain", x.dined(39, 4, 1), NONE);
        x.terms(0, 1);
        due("all ask the last", x.year(1000000, 40), 40);
        due("the lowest has him", x.earned(0), 300 * 40);
        due("the next hasn't", x.earned(1), 0);
    }

    /** Those who ask nobody have no lot drawn for them. */
    private static void fullWithoutDraws() {
        SoleGuest x = new SoleGuest();
        Bench.crowd(x, 5, 6);
        x.terms(0, 2);
        x.manner(4, 3);
        x.dice(4, 5, 2);
        // rolls 5 1 9 7 0 0
        x.year(0, 6);
        int[] want = {NONE, 5, NONE, NONE, 5, 5};
        for (int e = 0; e < 6; e++) {
            due("evening " + e, x.dined(e, 4, 1), want[e]);
        }
    }
}
