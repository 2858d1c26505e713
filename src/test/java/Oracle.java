import java.util.ArrayList;
import java.util.HashSet;
import java.util.List;
import java.util.Set;

/**
 * The document written a second time, by trying everything out: slow, without tricks, sharing no code with SoleGuest.
 * LAWS are trees (OracleLaw), chances are all outcomes one by one, years are kept evening by evening.
 */
final class Oracle {
    private static final int NONE = -1;
    private static final int NOTHING = -1000000;

    /** What an IMAGE keeps. */
    private static final class State {
        List<Integer> streets = new ArrayList<>();
        List<Integer> wits = new ArrayList<>();
        int[][] base = new int[5][6];
        int[][] dice = new int[5][6];
        int[] told = {NONE, NONE, NONE, NONE, NONE};
        int[] manner = new int[5];
        int custom = 0;
        int lone = 0;
        List<OracleLaw> laws = new ArrayList<>();
        int force = NONE;

        State copy() {
            State c = new State();
            c.streets = new ArrayList<>(streets);
            c.wits = new ArrayList<>(wits);
            for (int h = 0; h < 5; h++) {
                c.base[h] = base[h].clone();
                c.dice[h] = dice[h].clone();
            }
            c.told = told.clone();
            c.manner = manner.clone();
            c.custom = custom;
            c.lone = lone;
            c.laws = new ArrayList<>(laws);
            c.force = force;
            return c;
        }
    }

    private State s = new State();
    private final State[] images = new State[2];
    private final List<Integer> tape = new ArrayList<>();
    private final int[] refused = new int[7];
    private int status = 0;
    private int fault = NONE;
    private int smudged = 0;
    private int[][] met = new int[5][6];
    private int evening = 0;
    private List<int[]> yearAsked = null;
    private List<int[]> yearDined = null;
    private int[] yearEarned = null;
    private long drawState = 0;

    private int no(int by) {
        status = by;
        refused[-by]++;
        return by;
    }

    private int yes(int answer) {
        status = 0;
        return answer;
    }

    private int hosts() {
        return s.streets.size();
    }

    private int guests() {
        return s.wits.size();
    }

    private boolean isHost(int h) {
        return h >= 0 && h < hosts();
    }

    private boolean isGuest(int g) {
        return g >= 0 && g < guests();
    }

    int host(int street) {
        if (street < 0 || street > 9) return no(-1);
        if (hosts() == 5) return no(-5);
        s.streets.add(street);
        return yes(hosts() - 1);
    }

    int guest(int wit) {
        if (wit < 0 || wit > 9) return no(-1);
        if (guests() == 6) return no(-5);
        s.wits.add(wit);
        return yes(guests() - 1);
    }

    int base(int h, int g, int base) {
        if (Math.abs((long) base) > 99) { no(-1); return NOTHING; }
        if (!isHost(h) || !isGuest(g)) { no(-2); return NOTHING; }
        int was = s.base[h][g];
        s.base[h][g] = base;
        return yes(was);
    }

    private int worth(int h, int g) {
        if (s.force == NONE) return s.base[h][g];
        return s.laws.get(s.force).worth(words(h, g));
    }

    private boolean barred(int h, int g) {
        return s.force != NONE && s.laws.get(s.force).bars(words(h, g));
    }

    private int[] words(int h, int g) {
        return new int[] {h, g, s.base[h][g], s.wits.get(g), s.streets.get(h), met[h][g], evening};
    }

    int of(int h, int g, int what) {
        if (!isHost(h) || !isGuest(g) || what < 0 || what > 2) return NOTHING;
        if (what == 0) return s.base[h][g];
        return what == 1 ? worth(h, g) : barred(h, g) ? 1 : 0;
    }

    int terms(int what, int value) {
        if (what == 0 && value >= 0 && value <= 2) { int was = s.custom; s.custom = value; return yes(was); }
        if (what == 1 && value >= -99 && value <= 99) { int was = s.lone; s.lone = value; return yes(was); }
        no(-1);
        return NOTHING;
    }

    int feed(int... five) {
        if (tape.size() + 20 > 400) return NONE;
        for (int v : five) {
            String hex = String.format("%08x", v);
            for (int i = 0; i < 8; i += 2) tape.add(Integer.parseInt(hex.substring(i, i + 2), 16));
        }
        return tape.size();
    }

    int end(int n) {
        if (n < 0 || n > tape.size()) return NONE;
        while (tape.size() > n) tape.remove(tape.size() - 1);
        return n;
    }

    int row() {
        if (tape.isEmpty()) return no(-6);
        int came = 0;
        smudged = 0;
        while (!tape.isEmpty()) {
            List<Integer> three = new ArrayList<>();
            while (three.size() < 3 && !tape.isEmpty()) three.add(tape.remove(0));
            if (three.size() == 3 && isHost(three.get(0)) && isGuest(three.get(1))
                && three.get(2) >= 1 && three.get(2) <= 199) {
                s.base[three.get(0)][three.get(1)] = three.get(2) - 100;
                came++;
            } else {
                smudged++;
            }
        }
        return yes(came);
    }

    int smudged() {
        return smudged;
    }

    int law() {
        StringBuilder text = new StringBuilder();
        for (int b : tape) text.append((char) b);
        tape.clear();
        if (s.laws.size() == 6) return no(-5);
        try {
            OracleLaw law = new OracleLaw(text.toString());
            fault = NONE;
            s.laws.add(law);
            return yes(s.laws.size() - 1);
        } catch (OracleLaw.Fault f) {
            fault = f.place;
            return no(-6);
        }
    }

    int fault() {
        return fault;
    }

    int force(int law) {
        if (law != NONE && (law < 0 || law >= s.laws.size())) return no(-2);
        int was = s.force;
        s.force = law;
        return yes(was);
    }

    int ask(int h, int g) {
        if (!isHost(h) || g != NONE && !isGuest(g)) return no(-2);
        int was = s.told[h];
        s.told[h] = g;
        return yes(was);
    }

    private int[] told() {
        int[] asks = new int[hosts()];
        for (int h = 0; h < hosts(); h++) {
            asks[h] = s.told[h] != NONE && barred(h, s.told[h]) ? NONE : s.told[h];
        }
        return asks;
    }

    private static List<Integer> askers(int[] asks, int g) {
        List<Integer> found = new ArrayList<>();
        for (int h = 0; h < asks.length; h++) if (asks[h] == g) found.add(h);
        return found;
    }

    int asked(int g) {
        return isGuest(g) ? askers(told(), g).size() : NONE;
    }

    int goes(int g) {
        if (!isGuest(g)) return NONE;
        List<Integer> who = askers(told(), g);
        if (who.size() == 1) return who.get(0);
        return who.size() > 1 && s.custom == 1 ? who.get(0) : NONE;
    }

    private int gainOf(int[] asks, int h) {
        int alone = 60 * s.lone;
        if (asks[h] == NONE) return alone;
        int full = 60 * worth(h, asks[h]);
        List<Integer> who = askers(asks, asks[h]);
        if (who.size() == 1) return full;
        if (s.custom == 0) return alone;
        if (s.custom == 1) return who.get(0) == h ? full : alone;
        return (full + (who.size() - 1) * alone) / who.size();
    }

    private int sumOf(int[] asks) {
        int sum = 0;
        for (int h = 0; h < asks.length; h++) sum += gainOf(asks, h);
        return sum;
    }

    int gain(int h) {
        if (h == NONE) return sumOf(told());
        return isHost(h) ? gainOf(told(), h) : NOTHING;
    }

    private List<Integer> choices(int h) {
        List<Integer> can = new ArrayList<>();
        for (int g = 0; g < guests(); g++) if (!barred(h, g)) can.add(g);
        can.add(NONE);
        return can;
    }

    /** All ways in which the HOSTS of a set ask, others as in from, in order. */
    private List<int[]> all(int[] from, int set) {
        List<int[]> rows = new ArrayList<>();
        rows.add(from.clone());
        for (int h = 0; h < from.length; h++) {
            if ((set >> h & 1) == 0) continue;
            List<int[]> more = new ArrayList<>();
            for (int[] row : rows) {
                for (int c : choices(h)) {
                    int[] next = row.clone();
                    next[h] = c;
                    more.add(next);
                }
            }
            rows = more;
        }
        return rows;
    }

    private List<int[]> all() {
        return all(new int[hosts()], (1 << hosts()) - 1);
    }

    private List<int[]> mostRows() {
        List<int[]> found = new ArrayList<>();
        int best = Integer.MIN_VALUE;
        for (int[] row : all()) {
            int sum = sumOf(row);
            if (sum > best) { best = sum; found.clear(); }
            if (sum == best) found.add(row);
        }
        return found;
    }

    int most(int what) {
        if (what == 0) return sumOf(mostRows().get(0));
        return what == 1 ? mostRows().size() : NOTHING;
    }

    int mostOf(int h) {
        return isHost(h) ? mostRows().get(0)[h] : NONE;
    }

    int fair(int what) {
        if (what < 0 || what > 1 || hosts() == 0) return NOTHING;
        int best = Integer.MIN_VALUE;
        int many = 0;
        for (int[] row : all()) {
            int least = Integer.MAX_VALUE;
            for (int h = 0; h < hosts(); h++) least = Math.min(least, gainOf(row, h));
            if (least > best) { best = least; many = 0; }
            if (least == best) many++;
        }
        return what == 0 ? best : many;
    }

    private List<Integer> bestFor(int[] asks, int h) {
        List<Integer> found = new ArrayList<>();
        int best = Integer.MIN_VALUE;
        for (int c : choices(h)) {
            int[] other = asks.clone();
            other[h] = c;
            int gain = gainOf(other, h);
            if (gain > best) { best = gain; found.clear(); }
            if (gain == best) found.add(c);
        }
        return found;
    }

    private List<int[]> steadyRows() {
        List<int[]> found = new ArrayList<>();
        for (int[] row : all()) {
            boolean steady = true;
            for (int h = 0; h < hosts() && steady; h++) steady = bestFor(row, h).contains(row[h]);
            if (steady) found.add(row);
        }
        return found;
    }

    int steady() {
        return steadyRows().size();
    }

    int steadyOf(int i, int h) {
        List<int[]> rows = steadyRows();
        return i >= 0 && i < rows.size() && isHost(h) ? rows.get(i)[h] : NONE;
    }

    int steadySum(int what) {
        List<int[]> rows = steadyRows();
        if (what < 0 || what > 1 || rows.isEmpty()) return NOTHING;
        int found = sumOf(rows.get(0));
        for (int[] row : rows) found = what == 0 ? Math.max(found, sumOf(row)) : Math.min(found, sumOf(row));
        return found;
    }

    int answers(int h) {
        if (!isHost(h)) return NONE;
        int bits = 0;
        for (int c : bestFor(told(), h)) bits += c == NONE ? 64 : 1 << c;
        return bits;
    }

    private int turnRounds;
    private int turnSteady;
    private int[] turnAsks;

    private void turn() {
        int[] asks = told();
        Set<String> were = new HashSet<>();
        were.add(java.util.Arrays.toString(asks));
        for (turnRounds = 1; ; turnRounds++) {
            boolean did = false;
            for (int h = 0; h < hosts(); h++) {
                int[] other = asks.clone();
                other[h] = bestFor(asks, h).get(0);
                if (gainOf(other, h) > gainOf(asks, h)) { asks = other; did = true; }
            }
            turnAsks = asks;
            turnSteady = did ? 0 : 1;
            if (!did || !were.add(java.util.Arrays.toString(asks))) return;
        }
    }

    int rounds(int what) {
        turn();
        return what == 0 ? turnRounds : what == 1 ? turnSteady : NONE;
    }

    int turned(int h) {
        turn();
        return isHost(h) ? turnAsks[h] : NONE;
    }

    int breaks(int set) {
        if (set <= 0 || set > (1 << hosts()) - 1) return NONE;
        int[] now = told();
        for (int[] row : all(now, set)) {
            boolean each = true;
            for (int h = 0; h < hosts(); h++) {
                if ((set >> h & 1) == 1 && gainOf(row, h) <= gainOf(now, h)) each = false;
            }
            if (each) return 1;
        }
        return 0;
    }

    int breaker() {
        for (int set = 1; set < 1 << hosts(); set++) if (breaks(set) == 1) return set;
        return NONE;
    }

    int dice(int h, int g, int tenths) {
        if (tenths < 0 || tenths > 10) return no(-1);
        if (!isHost(h) || !isGuest(g)) return no(-2);
        int sum = tenths;
        for (int o = 0; o < guests(); o++) sum += o == g ? 0 : s.dice[h][o];
        if (sum > 10) return no(-3);
        int was = s.dice[h][g];
        s.dice[h][g] = tenths;
        return yes(was);
    }

    /** GAINS of all HOSTS in the mean by TENTHS (nobody's in column 6), over all outcomes. */
    private long[] means(int[][] tenths) {
        int n = hosts();
        long[] sums = new long[n];
        int[] asks = new int[n];
        spread(tenths, 0, 1, asks, sums);
        return sums;
    }

    private void spread(int[][] tenths, int h, long weight, int[] asks, long[] sums) {
        if (weight == 0) return;
        if (h == asks.length) {
            for (int i = 0; i < asks.length; i++) sums[i] += weight * gainOf(asks, i);
            return;
        }
        for (int c = 0; c < 7; c++) {
            asks[h] = c == 6 ? NONE : c;
            spread(tenths, h + 1, weight * tenths[h][c], asks, sums);
        }
    }

    private int[][] effective(int[][] rows) {
        int[][] tenths = new int[hosts()][7];
        for (int h = 0; h < hosts(); h++) {
            int left = 10;
            for (int g = 0; g < guests(); g++) {
                if (!barred(h, g)) { tenths[h][g] = rows[h][g]; left -= rows[h][g]; }
            }
            tenths[h][6] = left;
        }
        return tenths;
    }

    long mean(int h) {
        if (h != NONE && !isHost(h)) return NOTHING;
        long[] sums = means(effective(s.dice));
        if (h != NONE) return sums[h];
        long all = 0;
        for (long v : sums) all += v;
        return all;
    }

    int restless() {
        int[][] tenths = effective(s.dice);
        long[] now = means(tenths);
        for (int h = 0; h < hosts(); h++) {
            for (int c : choices(h)) {
                int[][] other = tenths.clone();
                other[h] = new int[7];
                other[h][c == NONE ? 6 : c] = 10;
                if (means(other)[h] > now[h]) return h;
            }
        }
        return NONE;
    }

    private long alikeBest;
    private int alikeMany;
    private int[] alikeFirst;

    private void alikeAll() {
        alikeMany = 0;
        alikeRow(new int[guests()], 0, 10);
    }

    private void alikeRow(int[] row, int g, int left) {
        if (g < row.length) {
            for (int t = 0; t <= left; t++) {
                row[g] = t;
                alikeRow(row, g + 1, left - t);
            }
            return;
        }
        int[][] rows = new int[hosts()][];
        for (int h = 0; h < hosts(); h++) rows[h] = row;
        long sum = 0;
        for (long v : means(effective(rows))) sum += v;
        if (alikeMany == 0 || sum > alikeBest) {
            alikeBest = sum;
            alikeMany = 1;
            alikeFirst = row.clone();
        } else if (sum == alikeBest) {
            alikeMany++;
        }
    }

    long alike(int what) {
        if (what < 0 || what > 1) return NOTHING;
        alikeAll();
        return what == 0 ? alikeBest : alikeMany;
    }

    int alikeOf(int g) {
        if (!isGuest(g)) return NONE;
        alikeAll();
        return alikeFirst[g];
    }

    int manner(int h, int manner) {
        if (manner < 0 || manner > 5) return no(-1);
        if (!isHost(h)) return no(-2);
        int was = s.manner[h];
        s.manner[h] = manner;
        return yes(was);
    }

    private int draw(int m) {
        drawState = (drawState * 1103 + 12345) % 1000003;
        return (int) (drawState % m);
    }

    int year(int seed, int n) {
        if (seed < 0 || seed > 1000000 || n < 1 || n > 40) return no(-1);
        drawState = seed;
        yearAsked = new ArrayList<>();
        yearDined = new ArrayList<>();
        yearEarned = new int[hosts()];
        List<int[]> gains = new ArrayList<>();
        int lonely = 0;
        for (int e = 0; e < n; e++) {
            setEvening(e);
            int[] asks = new int[hosts()];
            for (int h = 0; h < hosts(); h++) {
                int g = wish(h, e, gains);
                asks[h] = g != NONE && barred(h, g) ? NONE : g;
            }
            int[] dined = new int[hosts()];
            java.util.Arrays.fill(dined, NONE);
            for (int g = 0; g < guests(); g++) {
                List<Integer> who = askers(asks, g);
                if (who.size() == 1) dined[who.get(0)] = g;
                if (who.size() > 1 && s.custom == 1) dined[who.get(0)] = g;
                if (who.size() > 1 && s.custom == 2) dined[who.get(draw(who.size()))] = g;
            }
            int[] gain = new int[hosts()];
            boolean alone = false;
            for (int h = 0; h < hosts(); h++) {
                gain[h] = 60 * (dined[h] == NONE ? s.lone : worth(h, dined[h]));
                yearEarned[h] += gain[h];
                alone |= dined[h] == NONE;
            }
            lonely += alone ? 1 : 0;
            yearAsked.add(asks);
            yearDined.add(dined);
            gains.add(gain);
        }
        met = new int[5][6];
        evening = 0;
        return yes(lonely);
    }

    private void setEvening(int e) {
        evening = e;
        met = new int[5][6];
        for (int[] dined : yearDined) {
            for (int h = 0; h < dined.length; h++) if (dined[h] != NONE) met[h][dined[h]]++;
        }
    }

    private int wish(int h, int e, List<int[]> gains) {
        int manner = s.manner[h];
        if (manner == 3) {
            int roll = draw(10);
            int below = 0;
            for (int g = 0; g < guests(); g++) {
                below += s.dice[h][g];
                if (roll < below) return g;
            }
            return NONE;
        }
        if (e == 0 || manner == 0) return s.told[h];
        int[] asked = yearAsked.get(e - 1);
        int[] dined = yearDined.get(e - 1);
        if (manner == 1) return bestFor(asked, h).get(0);
        if (manner == 2) return hope(h);
        if (manner == 4) {
            int rich = NONE;
            for (int o = hosts() - 1; o >= 0; o--) {
                if (o != h && (rich == NONE || gains.get(e - 1)[o] >= gains.get(e - 1)[rich])) rich = o;
            }
            return rich != NONE && dined[rich] != NONE ? dined[rich] : s.told[h];
        }
        if (dined[h] != NONE) return dined[h];
        for (int g = 0; g < guests(); g++) {
            if (!barred(h, g) && askers(asked, g).isEmpty()) return g;
        }
        return s.told[h];
    }

    private int hope(int h) {
        int found = NONE;
        int best = 0;
        for (int g = 0; g < guests(); g++) {
            int free = 0;
            for (int[] asked : yearAsked) {
                List<Integer> who = askers(asked, g);
                who.remove((Integer) h);
                free += who.isEmpty() ? 1 : 0;
            }
            int value = (worth(h, g) - s.lone) * free;
            if (value > best) { best = value; found = g; }
        }
        return found;
    }

    int dined(int e, int h, int what) {
        if (yearAsked == null || e < 0 || e >= yearAsked.size() || h < 0 || h >= yearEarned.length) return NONE;
        return what == 0 ? yearAsked.get(e)[h] : what == 1 ? yearDined.get(e)[h] : NONE;
    }

    int earned(int h) {
        return yearEarned == null || h < 0 || h >= yearEarned.length ? NOTHING : yearEarned[h];
    }

    int settled() {
        if (yearAsked == null) return NONE;
        for (int e = 0; ; e++) {
            boolean alike = true;
            for (int[] row : yearAsked.subList(e, yearAsked.size())) {
                alike &= java.util.Arrays.equals(row, yearAsked.get(e));
            }
            if (alike) return e;
        }
    }

    int image(int k) {
        if (k != 0 && k != 1) return no(-1);
        images[k] = s.copy();
        return yes(0);
    }

    int back(int k) {
        if (k != 0 && k != 1) return no(-1);
        if (images[k] == null) return no(-2);
        s = images[k].copy();
        return yes(0);
    }

    int count(int what) {
        int[] all = {hosts(), guests(), s.laws.size(), tape.size(), refused[1], refused[2], refused[3], refused[5],
            refused[6], s.force, s.custom};
        return what >= 0 && what < all.length ? all[what] : NONE;
    }

    int status() {
        return status;
    }
}
