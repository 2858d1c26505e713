import java.util.ArrayList;
import java.util.List;
import java.util.Random;

/** Random runs of at most 512 calls, each answer against the Oracle's. */
public final class OracleTest {
    private static final int RUNS = 400;
    private static final int CALLS = 512;

    private final Checks checks;
    private final Random random;
    private final RandomTexts texts;
    private final SoleGuest x = new SoleGuest();
    private final Oracle o = new Oracle();
    private final List<String> log = new ArrayList<>();
    private final int mostHosts;
    private final int mostGuests;
    private int calls = 0;

    private OracleTest(Checks checks, long seed) {
        this.checks = checks;
        random = new Random(seed);
        texts = new RandomTexts(random);
        boolean large = seed % 20 == 0;
        mostHosts = large ? 6 : 1 + random.nextInt(4);
        mostGuests = large ? 7 : 1 + random.nextInt(4);
    }

    public static void main(String[] args) {
        Checks checks = new Checks("OracleTest");
        int runs = args.length > 0 ? Integer.parseInt(args[0]) : RUNS;
        int from = args.length > 1 ? Integer.parseInt(args[1]) : 0;
        for (int seed = from; seed < from + runs && checks.wrong() == 0; seed++) {
            new OracleTest(checks, seed).run();
        }
        for (int custom = 0; custom <= 2 && checks.wrong() == 0; custom++) {
            new OracleTest(checks, custom).alikeOfMany(custom, 5, 3);
            new OracleTest(checks, custom).alikeOfMany(custom, 2, 6);
            new OracleTest(checks, custom).alikeOfMany(custom, 4, 4);
        }
        checks.close();
    }

    /** The Oracle goes through all rows and all outcomes of each, so that the runs can't ask it of many. */
    private void alikeOfMany(int custom, int hosts, int guests) {
        x.terms(0, custom);
        o.terms(0, custom);
        for (int h = 0; h < hosts; h++) due("host(1)", x.host(1), o.host(1));
        for (int g = 0; g < guests; g++) due("guest(1)", x.guest(1), o.guest(1));
        for (int h = 0; h < hosts; h++) {
            for (int g = 0; g < guests; g++) {
                int v = random.nextInt(12) - 2;
                due("base(" + h + ", " + g + ", " + v + ")", x.base(h, g, v), o.base(h, g, v));
            }
        }
        due("alike(0)", x.alike(0), o.alike(0));
        due("alike(1)", x.alike(1), o.alike(1));
        for (int g = 0; g < guests; g++) due("alikeOf(" + g + ")", x.alikeOf(g), o.alikeOf(g));
    }

    private void run() {
        if (random.nextInt(4) != 0) {
            moveIn();
        }
        while (calls < CALLS && checks.wrong() == 0) {
            int kind = random.nextInt(103);
            if (kind >= 100) {
                crowd();
            } else if (kind < 45) {
                change();
            } else if (kind < 48) {
                text();
            } else if (kind < 90) {
                look();
            } else if (kind < 97) {
                year();
            } else {
                dear();
            }
        }
        if (checks.wrong() != 0) {
            log.forEach(System.out::println);
        }
    }

    /** Most of what is promised shows only where there are HOSTS and GUESTS. */
    private void moveIn() {
        for (int i = 0; i < mostHosts; i++) {
            int v = random.nextInt(10);
            due("host(" + v + ")", x.host(v), o.host(v));
        }
        for (int i = 0; i < mostGuests; i++) {
            int v = random.nextInt(10);
            due("guest(" + v + ")", x.guest(v), o.guest(v));
        }
        crowd();
    }

    /** New BASES for all by a row of bytes; then all ask something, or what they come to BY TURNS. */
    private void crowd() {
        StringBuilder rows = new StringBuilder();
        int wide = 1 + random.nextInt(12);
        for (int h = 0; h < o.count(0); h++) {
            for (int g = 0; g < o.count(1); g++) {
                rows.append((char) h).append((char) g).append((char) (100 + random.nextInt(2 * wide) - wide / 3));
            }
        }
        feed(rows.toString());
        end(rows.length());
        due("row()", x.row(), o.row());
        for (int h = 0; h < o.count(0); h++) {
            int g = random.nextInt(o.count(1) + 1) - 1;
            due("ask(" + h + ", " + g + ")", x.ask(h, g), o.ask(h, g));
            int m = random.nextInt(6);
            due("manner(" + h + ", " + m + ")", x.manner(h, m), o.manner(h, m));
        }
        due("rounds(1)", x.rounds(1), o.rounds(1));
        int[] came = new int[o.count(0)];
        for (int h = 0; h < came.length; h++) {
            came[h] = o.turned(h);
            due("turned(" + h + ")", x.turned(h), came[h]);
        }
        for (int h = 0; h < came.length && random.nextInt(9) != 0; h++) {
            due("ask(" + h + ", " + came[h] + ")", x.ask(h, came[h]), o.ask(h, came[h]));
        }
        due("breaker()", x.breaker(), o.breaker());
    }

    private void due(String call, long got, long want) {
        calls++;
        log.add(call + " -> " + got);
        checks.same(call, got, want);
    }

    private int anyHost() {
        return random.nextInt(12) == 0 ? random.nextInt(12) - 3 : random.nextInt(Math.max(1, o.count(0)));
    }

    private int anyGuest() {
        return random.nextInt(12) == 0 ? random.nextInt(12) - 3 : random.nextInt(Math.max(1, o.count(1)));
    }

    private int anyWhat(int most) {
        return random.nextInt(15) == 0 ? random.nextInt(20) - 5 : random.nextInt(most + 1);
    }

    private int anyOf(int least, int most) {
        int odd = random.nextInt(30);
        if (odd == 0) return random.nextInt();
        if (odd == 1) return least - 1;
        if (odd == 2) return most + 1;
        return least + random.nextInt(most - least + 1);
    }

    private void change() {
        int h = anyHost();
        int g = anyGuest();
        switch (random.nextInt(12)) {
            case 0: {
                int v = anyOf(0, 9);
                if (o.count(0) < mostHosts) due("host(" + v + ")", x.host(v), o.host(v));
                break;
            }
            case 1: {
                int v = anyOf(0, 9);
                if (o.count(1) < mostGuests) due("guest(" + v + ")", x.guest(v), o.guest(v));
                break;
            }
            case 2:
            case 3: {
                int v = random.nextBoolean() ? anyOf(-99, 99) : anyOf(-4, 6);
                due("base(" + h + ", " + g + ", " + v + ")", x.base(h, g, v), o.base(h, g, v));
                break;
            }
            case 4: {
                int w = random.nextInt(12) == 0 ? random.nextInt(5) - 1 : random.nextInt(2);
                int v = w == 0 ? anyOf(0, 2) : random.nextBoolean() ? anyOf(-99, 99) : anyOf(-3, 3);
                due("terms(" + w + ", " + v + ")", x.terms(w, v), o.terms(w, v));
                break;
            }
            case 5: {
                int v = anyOf(-1, Math.max(0, o.count(2) - 1));
                due("force(" + v + ")", x.force(v), o.force(v));
                break;
            }
            case 6:
            case 7: {
                int v = random.nextInt(6) == 0 ? -1 : g;
                due("ask(" + h + ", " + v + ")", x.ask(h, v), o.ask(h, v));
                break;
            }
            case 8:
            case 9: {
                int v = random.nextBoolean() ? anyOf(0, 10) : anyOf(0, 4);
                due("dice(" + h + ", " + g + ", " + v + ")", x.dice(h, g, v), o.dice(h, g, v));
                break;
            }
            case 10: {
                int v = anyOf(0, 5);
                due("manner(" + h + ", " + v + ")", x.manner(h, v), o.manner(h, v));
                break;
            }
            default: {
                int k = anyOf(0, 1);
                if (random.nextInt(3) == 0) due("back(" + k + ")", x.back(k), o.back(k));
                else due("image(" + k + ")", x.image(k), o.image(k));
            }
        }
    }

    private void feed(String text) {
        for (int i = 0; i < text.length(); i += 20) {
            int[] v = new int[5];
            for (int b = 0; b < 20; b++) {
                int sign = i + b < text.length() ? text.charAt(i + b) : random.nextInt(256);
                v[b / 4] = v[b / 4] << 8 | sign;
            }
            due("feed(" + v[0] + ", " + v[1] + ", " + v[2] + ", " + v[3] + ", " + v[4] + ")",
                x.feed(v[0], v[1], v[2], v[3], v[4]), o.feed(v));
        }
    }

    private void text() {
        if (random.nextInt(4) == 0) {
            StringBuilder rows = new StringBuilder();
            for (int i = random.nextInt(8); i >= 0; i--) {
                rows.append((char) (anyHost() & 255)).append((char) (anyGuest() & 255));
                rows.append((char) (anyOf(1, 199) & 255));
            }
            rows.setLength(Math.max(0, rows.length() - random.nextInt(3)));
            feed(rows.toString());
            if (random.nextInt(5) != 0) end(rows.length());
            due("row()", x.row(), o.row());
            due("smudged()", x.smudged(), o.smudged());
            return;
        }
        String text = texts.next();
        log.add("// " + text);
        feed(text);
        if (random.nextInt(15) != 0) end(text.length());
        due("law()", x.law(), o.law());
        due("fault()", x.fault(), o.fault());
        if (o.count(2) > 0 && random.nextInt(3) != 0) {
            int law = o.count(2) - 1;
            due("force(" + law + ")", x.force(law), o.force(law));
        }
    }

    private void end(int n) {
        due("end(" + n + ")", x.end(n), o.end(n));
        if (random.nextInt(10) == 0) {
            int other = n + random.nextInt(7) - 1;
            due("end(" + other + ")", x.end(other), o.end(other));
        }
    }

    private void look() {
        int h = anyHost();
        int g = anyGuest();
        int w = anyWhat(1);
        switch (random.nextInt(22)) {
            case 0: case 1: case 2:
                w = anyWhat(2);
                due("of(" + h + ", " + g + ", " + w + ")", x.of(h, g, w), o.of(h, g, w));
                break;
            case 3:
                due("asked(" + g + ")", x.asked(g), o.asked(g));
                break;
            case 4: case 5:
                due("goes(" + g + ")", x.goes(g), o.goes(g));
                break;
            case 6: case 7:
                h = random.nextInt(4) == 0 ? -1 : h;
                due("gain(" + h + ")", x.gain(h), o.gain(h));
                break;
            case 8:
                due("answers(" + h + ")", x.answers(h), o.answers(h));
                break;
            case 9:
                due("rounds(" + w + ")", x.rounds(w), o.rounds(w));
                break;
            case 10:
                due("turned(" + h + ")", x.turned(h), o.turned(h));
                break;
            case 11: case 12:
                h = random.nextInt(4) == 0 ? -1 : h;
                due("mean(" + h + ")", x.mean(h), o.mean(h));
                break;
            case 13:
                due("restless()", x.restless(), o.restless());
                break;
            case 14: case 15:
                w = anyWhat(10);
                due("count(" + w + ")", x.count(w), o.count(w));
                break;
            case 16:
                due("status()", x.status(), o.status());
                break;
            case 17:
                due("smudged()", x.smudged(), o.smudged());
                break;
            case 18:
                due("fault()", x.fault(), o.fault());
                break;
            default:
                int set = random.nextInt(6) == 0 ? random.nextInt(80) - 20 : random.nextInt(1 << o.count(0));
                if (o.count(0) < 5) due("breaks(" + set + ")", x.breaks(set), o.breaks(set));
        }
    }

    private void year() {
        int seed = random.nextInt(8) == 0 ? anyOf(999999, 1000000) : anyOf(0, 1000000);
        int n = random.nextInt(6) == 0 ? anyOf(1, 40) : 1 + random.nextInt(12);
        due("year(" + seed + ", " + n + ")", x.year(seed, n), o.year(seed, n));
        due("settled()", x.settled(), o.settled());
        for (int i = 0; i < 6; i++) {
            int h = anyHost();
            int e = random.nextInt(9) == 0 ? anyOf(0, 40) : Math.max(0, n - 1 - random.nextInt(4));
            int w = anyWhat(1);
            due("dined(" + e + ", " + h + ", " + w + ")", x.dined(e, h, w), o.dined(e, h, w));
            due("earned(" + h + ")", x.earned(h), o.earned(h));
        }
    }

    private void dear() {
        int h = anyHost();
        int g = anyGuest();
        int w = anyWhat(1);
        boolean large = o.count(0) > 3 && o.count(1) > 3;
        switch (random.nextInt(large ? 8 : 10)) {
            case 0:
                due("most(" + w + ")", x.most(w), o.most(w));
                break;
            case 1:
                due("mostOf(" + h + ")", x.mostOf(h), o.mostOf(h));
                break;
            case 2: case 3:
                due("fair(" + w + ")", x.fair(w), o.fair(w));
                break;
            case 4: {
                int many = o.steady();
                due("steady()", x.steady(), many);
                int i = many == 0 || random.nextInt(9) == 0 ? anyOf(0, 5) : random.nextInt(many);
                due("steadyOf(" + i + ", " + h + ")", x.steadyOf(i, h), o.steadyOf(i, h));
                break;
            }
            case 5: case 6:
                due("steadySum(" + w + ")", x.steadySum(w), o.steadySum(w));
                break;
            case 7:
                due("breaker()", x.breaker(), o.breaker());
                break;
            case 8:
                due("alike(" + w + ")", x.alike(w), o.alike(w));
                break;
            default:
                due("alikeOf(" + g + ")", x.alikeOf(g), o.alikeOf(g));
        }
    }
}
