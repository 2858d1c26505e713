import java.util.ArrayList;
import java.util.List;
import java.util.function.Consumer;
import java.util.function.ToLongFunction;

/**
 * Two objects that had the same calls: one of them has one call more, then both are asked all that can be asked, and
 * must answer alike. Asking changes things too, so each view has a new pair.
 */
final class Twins {
    private static final int VIEWS = 8;

    private final Checks checks;
    private final String name;
    private final Consumer<SoleGuest> setUp;

    Twins(Checks checks, String name, Consumer<SoleGuest> setUp) {
        this.checks = checks;
        this.name = name;
        this.setUp = setUp;
    }

    /** It answers so, status() and one count tell of it, and nothing else has changed. */
    void refused(String call, ToLongFunction<SoleGuest> doing, long answer, int by) {
        SoleGuest before = made();
        SoleGuest behind = made();
        checks.same(name + ": " + call, doing.applyAsLong(behind), answer);
        checks.same(name + ": status behind " + call, behind.status(), by);
        for (int what = 4; what <= 8; what++) {
            int more = what == placeOf(by) ? 1 : 0;
            checks.same(name + ": count(" + what + ") behind " + call, behind.count(what), before.count(what) + more);
        }
        alike(call, doing);
    }

    /** It answers so, status() is 0, and no REFUSAL is counted. */
    void granted(String call, ToLongFunction<SoleGuest> doing, long answer) {
        SoleGuest before = made();
        SoleGuest behind = made();
        checks.same(name + ": " + call, doing.applyAsLong(behind), answer);
        checks.same(name + ": status behind " + call, behind.status(), 0);
        for (int what = 4; what <= 8; what++) {
            checks.same(name + ": count(" + what + ") behind " + call, behind.count(what), before.count(what));
        }
    }

    /** A call of which status() does not tell: it answers so, and nothing at all has changed. */
    void idle(String call, ToLongFunction<SoleGuest> doing, long answer) {
        SoleGuest before = made();
        SoleGuest behind = made();
        checks.same(name + ": " + call, doing.applyAsLong(behind), answer);
        checks.same(name + ": status behind " + call, behind.status(), before.status());
        for (int what = 0; what <= 10; what++) {
            checks.same(name + ": count(" + what + ") behind " + call, behind.count(what), before.count(what));
        }
        alike(call, doing);
    }

    private SoleGuest made() {
        SoleGuest x = new SoleGuest();
        setUp.accept(x);
        return x;
    }

    private static int placeOf(int by) {
        return new int[] {-1, 4, 5, 6, -1, 7, 8}[-by];
    }

    private void alike(String call, ToLongFunction<SoleGuest> doing) {
        for (int view = 0; view < VIEWS; view++) {
            SoleGuest before = made();
            SoleGuest behind = made();
            doing.applyAsLong(behind);
            checks.isSo(name + ": nothing changed by " + call + ", view " + view,
                seen(before, view).equals(seen(behind, view)));
        }
    }

    private static List<Long> seen(SoleGuest x, int view) {
        List<Long> all = new ArrayList<>();
        switch (view) {
            case 0:
                pairs(x, all);
                break;
            case 1:
                wholes(x, all);
                break;
            case 2:
                kept(x, all);
                break;
            case 3:
                all.add((long) x.law());
                all.add((long) x.fault());
                all.add((long) x.force(x.count(2) - 1));
                pairs(x, all);
                break;
            case 4:
                all.add((long) x.row());
                all.add((long) x.smudged());
                pairs(x, all);
                break;
            case 5:
                x.end(0);
                all.add((long) Bench.law(x, "worth street*10+wit"));
                x.force(x.count(2) - 1);
                pairs(x, all);
                break;
            default:
                all.add((long) x.back(view - 6));
                kept(x, all);
                pairs(x, all);
        }
        return all;
    }

    /** What stands, and what comes of it, for each HOST and GUEST. */
    private static void pairs(SoleGuest x, List<Long> all) {
        for (int what : new int[] {0, 1, 2, 3, 9, 10}) {
            all.add((long) x.count(what));
        }
        for (int h = 0; h < x.count(0); h++) {
            for (int g = 0; g < x.count(1); g++) {
                for (int what = 0; what <= 2; what++) {
                    all.add((long) x.of(h, g, what));
                }
            }
            all.add((long) x.gain(h));
        }
    }

    /** The latest YEAR, FAULT, SMUDGED, and what is reckoned of all. */
    private static void wholes(SoleGuest x, List<Long> all) {
        all.add((long) x.fault());
        all.add((long) x.smudged());
        all.add((long) x.settled());
        for (int h = 0; h < 5; h++) {
            all.add((long) x.earned(h));
            for (int e = 0; e < 40; e += 3) {
                all.add((long) x.dined(e, h, 0));
                all.add((long) x.dined(e, h, 1));
            }
            all.add((long) x.answers(h));
            all.add((long) x.turned(h));
        }
        all.add((long) x.rounds(0));
        all.add((long) x.most(0));
        all.add((long) x.steady());
        all.add(x.mean(-1));
        all.add(x.alike(0));
    }

    /** What is told by changing it alone. */
    private static void kept(SoleGuest x, List<Long> all) {
        for (int h = 0; h < x.count(0); h++) {
            all.add((long) x.ask(h, -1));
            all.add((long) x.manner(h, 0));
            for (int g = 0; g < x.count(1); g++) {
                all.add((long) x.dice(h, g, 0));
            }
        }
        all.add((long) x.terms(0, 0));
        all.add((long) x.terms(1, 0));
        all.add((long) x.force(-1));
    }
}
