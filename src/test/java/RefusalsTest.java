import java.util.function.Consumer;
import java.util.function.ToIntFunction;

/**
 * "Refused, and nothing changes, the first that fits": each refusal, then all
 * that the object answers against one to which the refused call was never made.
 */
public final class RefusalsTest {
    private static final int NONE = BoundWalks.NONE, BAD = BoundWalks.BAD, NOT = BoundWalks.NOT, FULL = BoundWalks.FULL;
    private static final int AT_ONCE = 60;

    private interface Call {
        int of(BoundWalks land, int[] a);
    }

    public static void main(String[] args) {
        wholeTellsStatesApart();
        badOnes();
        badAheadOfFull();
        notNow();
        fullOnes();
        badAheadOfNot();
        askingChangesNothing();
        refusedAtTheEnd();
        Checks.end("RefusalsTest");
    }

    // ---- states

    /** Some of everything, with room for more. */
    private static void some(BoundWalks land) {
        box(land, 0, 0, 6, 6);
        box(land, 3, 3, 6, 6);
        land.parish(9, 9);
        land.leg(2, 0, 1, 3);
        land.leg(2, 2, 2, 4);
        land.stone(1, 2);
        land.witness(0);
        land.witness(3);
        land.years(5);
        land.stone(3, 4);
        land.stone(5, 6);
        land.moved(0, 4, 7, 8);
        land.years(5);
        land.lost(2, 9);
        land.see(1);
        land.gap(4);
        land.agree(0, 1, 5, 4, 4, 1);
        land.agree(1, 2, 10, 0, 0, 2);
        land.house(4, 4, 3, 2, 4, 4, 6, 5);
        land.house(8, 8, 4, 4, 8, 8, 11, 11);
        land.law(1, 5, 2);
        land.law(2, 10, 1);
    }

    /** As much of everything as there can be. */
    private static void full(BoundWalks land) {
        some(land);
        box(land, 6, 0, 6, 12);
        for (int i = 0; i < 12; i++) {
            land.leg(0, i % 4, 2, 2);
            land.leg(1, i % 4, 2, 2);
            land.leg(2, i % 4, 2, 2);
            land.leg(3, i % 4, 2, 2);
            land.stone(i, i);
            land.agree(0, 3, i, i, i, i % 2 * 3);
            land.law(i % 4, 10 * i, i % 3);
            land.house(i % 8, i % 7, 2, 3, i % 8, i % 7, i % 8 + 1, i % 7 + 2);
        }
        for (int i = 0; i < 60; i++) {
            land.moved(i % 12, 10, i % 13, 12 - i % 13);
            if (i < 20) {
                land.witness(i);
            }
        }
    }

    private static void box(BoundWalks land, int x, int y, int w, int h) {
        int parish = land.parish(x, y);
        land.leg(parish, 0, w, w);
        land.leg(parish, 1, h, h);
        land.leg(parish, 2, w, w);
        land.leg(parish, 3, h, h);
    }

    // ---- the tests

    /** A check of Whole itself: each call that changes something is seen by it. */
    private static void wholeTellsStatesApart() {
        Checks.sentence("and state changes described above");
        int[] before = Whole.of(RefusalsTest::some);
        changes("parish", before, land -> land.parish(0, 0));
        changes("leg", before, land -> land.leg(2, 0, 1, 1));
        changes("leg of a span", before, land -> land.leg(2, 3, 1, 12));
        changes("unleg", before, land -> land.unleg(0));
        changes("agree", before, land -> land.agree(0, 1, 300, 5, 5, 0));
        changes("years", before, land -> land.years(1));
        changes("stone", before, land -> land.stone(0, 0));
        changes("moved", before, land -> land.moved(0, 0, 0, 0));
        changes("lost", before, land -> land.lost(0, 0));
        changes("witness", before, land -> land.witness(300));
        changes("house", before, land -> land.house(0, 0, 1, 1, 0, 0, 0, 0));
        changes("law", before, land -> land.law(0, 300, 0));
        changes("see", before, land -> land.see(0));
        changes("gap", before, land -> land.gap(5));
    }

    private static void changes(String what, int[] before, ToIntFunction<BoundWalks> call) {
        int[] after = Whole.of(land -> {
            some(land);
            call.applyAsInt(land);
        });
        Checks.holds(what + " changes something", !Whole.same(before, after));
    }

    private static void badOnes() {
        Checks.sentence("Refused, and nothing changes");
        refusals(RefusalsTest::some, "there is room");
    }

    private static void badAheadOfFull() {
        Checks.sentence("Refused, and nothing changes, the first that fits: BAD");
        refusals(RefusalsTest::full, "all is full");
    }

    /** Each argument of each call, out of its bounds, while the others are good. */
    private static void refusals(Consumer<BoundWalks> state, String how) {
        int[] before = Whole.of(state);
        int[] ends = {0, 12, 0, 12};
        refuse("parish", how, state, before, (l, a) -> l.parish(a[0], a[1]), new int[] {1, 1}, ends);
        refuse("leg", how, state, before, (l, a) -> l.leg(a[0], a[1], a[2], a[3]),
            new int[] {0, 0, 2, 3}, new int[] {0, lastOf(state, 0), 0, 3, 1, 3, 2, 12});
        refuse("unleg", how, state, before, (l, a) -> l.unleg(a[0]), new int[] {0}, new int[] {0, lastOf(state, 0)});
        refuse("agree", how, state, before, (l, a) -> l.agree(a[0], a[1], a[2], a[3], a[4], a[5]),
            new int[] {0, 1, 5, 5, 5, 0}, new int[] {0, 0, 1, lastOf(state, 0), 0, 300, 0, 11, 0, 11, 0, 1});
        refuse("agree, given to two", how, state, before, (l, a) -> l.agree(a[0], a[1], 5, 5, 5, a[1]),
            new int[] {0, 1}, new int[] {0, 0, 1, lastOf(state, 0)});
        refuse("years", how, state, before, (l, a) -> l.years(a[0]), new int[] {1}, new int[] {1, 50});
        refuse("stone", how, state, before, (l, a) -> l.stone(a[0], a[1]), new int[] {1, 1}, ends);
        refuse("moved", how, state, before, (l, a) -> l.moved(a[0], a[1], a[2], a[3]),
            new int[] {1, 5, 0, 0}, new int[] {0, lastOf(state, 2), 5, 10, 0, 12, 0, 12});
        refuse("lost", how, state, before, (l, a) -> l.lost(a[0], a[1]),
            new int[] {1, 5}, new int[] {0, lastOf(state, 2), 5, 10});
        refuse("witness", how, state, before, (l, a) -> l.witness(a[0]), new int[] {5}, new int[] {0, 300});
        refuse("house", how, state, before, (l, a) -> l.house(a[0], a[1], a[2], a[3], a[4], a[5], a[6], a[7]),
            new int[] {3, 4, 2, 3, 3, 4, 4, 6}, new int[] {3, 3, 4, 4, 2, 4, 3, 4, 3, 4, 4, 6, 3, 4, 4, 6});
        refuse("law", how, state, before, (l, a) -> l.law(a[0], a[1], a[2]),
            new int[] {1, 5, 1}, new int[] {0, 3, 0, 300, 0, 2});
        refuse("see", how, state, before, (l, a) -> l.see(a[0]), new int[] {0}, new int[] {0, lastOf(state, 2)});
        refuse("gap", how, state, before, (l, a) -> l.gap(a[0]), new int[] {5}, new int[] {1, 20});
        refuse("round", how, state, before, (l, a) -> l.round(a[0], a[1]), new int[] {5, 5}, new int[] {1, 30, 1, 12});
    }

    /** The last number of what count(what) counts. */
    private static int lastOf(Consumer<BoundWalks> state, int what) {
        BoundWalks land = new BoundWalks();
        state.accept(land);
        return land.count(what) - 1;
    }

    /** Bounds as pairs least, most, one for each argument. */
    private static void refuse(String name, String how, Consumer<BoundWalks> state, int[] before, Call call,
            int[] good, int[] bounds) {
        Consumer<BoundWalks> refused = land -> {
            for (int at = 0; at < good.length; at++) {
                for (int v : Checks.beyond(bounds[2 * at], bounds[2 * at + 1])) {
                    int[] a = good.clone();
                    a[at] = v;
                    Checks.due(name + ", " + how + ", argument " + at + " is " + v, call.of(land, a), BAD);
                }
            }
        };
        nothingChanges(name + ", " + how, state, before, refused);
    }

    private static void nothingChanges(String name, Consumer<BoundWalks> state, int[] before, Consumer<BoundWalks> refused) {
        int[] after = Whole.of(land -> {
            state.accept(land);
            refused.accept(land);
        });
        Checks.holds(name + ": nothing changes", Whole.same(before, after));
    }

    private static void notNow() {
        Checks.sentence("NOT (not now)");
        Consumer<BoundWalks> bare = land -> {
            some(land);
            land.unleg(2);
            land.unleg(2);
        };
        nothingChanges("unleg without legs", bare, Whole.of(bare), land -> {
            for (int i = 0; i < AT_ONCE; i++) {
                Checks.due("unleg", land.unleg(2), NOT);
            }
        });
        nothingChanges("see what is lost", RefusalsTest::some, Whole.of(RefusalsTest::some), land -> {
            for (int i = 0; i < AT_ONCE; i++) {
                Checks.due("see", land.see(2), NOT);
            }
        });
    }

    private static void fullOnes() {
        Checks.sentence("Refused, and nothing changes, the first that fits: BAD (no such PARISH, FIELD, STONE, "
            + "or a number out of its bounds), NOT (not now), FULL.");
        int[] before = Whole.of(RefusalsTest::full);
        full("parish", before, land -> land.parish(5, 5));
        full("leg of parish 0", before, land -> land.leg(0, 0, 1, 1));
        full("leg of parish 3", before, land -> land.leg(3, 2, 1, 12));
        full("agree", before, land -> land.agree(0, 1, 0, 7, 7, 1));
        full("stone", before, land -> land.stone(5, 5));
        full("moved", before, land -> land.moved(1, 10, 12, 12));
        full("lost", before, land -> land.lost(1, 10));
        full("witness", before, land -> land.witness(100));
        full("house", before, land -> land.house(0, 0, 4, 4, 0, 0, 3, 3));
        full("law", before, land -> land.law(3, 300, 2));
    }

    private static void full(String name, int[] before, ToIntFunction<BoundWalks> call) {
        nothingChanges(name + ", full", RefusalsTest::full, before, land -> {
            for (int i = 0; i < AT_ONCE / 4; i++) {
                Checks.due(name, call.applyAsInt(land), FULL);
            }
        });
    }

    private static void badAheadOfNot() {
        Checks.sentence("the first that fits: BAD (no such PARISH, FIELD, STONE, or a number out of its bounds), NOT");
        BoundWalks land = new BoundWalks();
        Checks.due("unleg without parishes", land.unleg(0), BAD);
        Checks.due("see without stones", land.see(0), BAD);
        land.parish(0, 0);
        land.stone(0, 0);
        land.lost(0, 0);
        Checks.due("unleg of the next parish", land.unleg(1), BAD);
        Checks.due("unleg", land.unleg(0), NOT);
        Checks.due("see the next stone", land.see(1), BAD);
        Checks.due("see", land.see(0), NOT);
    }

    private static void askingChangesNothing() {
        Checks.sentence("Nothing is promised beyond the answers and state changes described above");
        int[] before = Whole.of(RefusalsTest::some);
        int first = 0;
        while (first < Whole.questionCount()) {
            int from = first;
            first += Whole.askFrom(new BoundWalks(), from) - from;
            nothingChanges("questions from " + from + " on", RefusalsTest::some, before, land -> Whole.askFrom(land, from));
        }
    }

    private static void refusedAtTheEnd() {
        Checks.sentence("THE YEAR goes on by n (1 .. 50; 300 at most)");
        Consumer<BoundWalks> late = land -> {
            some(land);
            Checks.goTo(land, 299);
        };
        nothingChanges("years beyond 300", late, Whole.of(late), land -> {
            for (int n = 2; n <= 50; n++) {
                Checks.due("years", land.years(n), BAD);
            }
        });
        Checks.due("NONE is no refusal", new BoundWalks().owner(0, 0, 0), NONE);
    }
}
