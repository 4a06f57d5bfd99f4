/** The boundary cases of promises 21 to 25, a test for each sentence of the document that names one. */
public final class SeeingEdgesTest {
    private static final int NONE = BoundWalks.NONE, BAD = BoundWalks.BAD, NOT = BoundWalks.NOT;

    public static void main(String[] args) {
        seenWhenTold();
        seenWhenSet();
        dueUnlessLost();
        gapYearsAgoOrLonger();
        gapBounds();
        sevenAtFirst();
        roundYears();
        theYearAndTheFollowing();
        upToMStones();
        roundsUnlessLost();
        longestAgo();
        severalAlike();
        firstYearThatFails();
        notSeenForGapYears();
        noneFails();
        nearTheLastYear();
        nothingIsChanged();
        seeCalls();
        gapCalls();
        dueCalls();
        roundCalls();
        countCalls();
        Checks.end("SeeingEdgesTest");
    }

    // ---- seeing

    private static void seenWhenTold() {
        Checks.sentence("SEEN is a STONE in THE YEAR when that is told");
        BoundWalks land = stones(2);
        Checks.goTo(land, 7);
        Checks.due("both are due", land.due(), 3);
        Checks.due("seen", land.see(1), 7);
        Checks.due("one is due", land.due(), 1);
        Checks.due("seen again", land.see(1), 0);
        Checks.goTo(land, 13);
        Checks.due("six years later", land.due(), 1);
        Checks.goTo(land, 14);
        Checks.due("seven years later", land.due(), 3);
        Checks.due("seen", land.see(1), 7);
    }

    private static void seenWhenSet() {
        Checks.sentence("(it was also when it was SET)");
        int[] years = {0, 1, 150, 280};
        for (int year : years) {
            BoundWalks land = new BoundWalks();
            Checks.goTo(land, year);
            land.stone(0, 0);
            Checks.due("not due at once", land.due(), 0);
            Checks.goTo(land, year + 6);
            Checks.due("not due six years later", land.due(), 0);
            Checks.goTo(land, year + 7);
            Checks.due("due seven years later", land.due(), 1);
            Checks.due("seen when set", land.see(0), 7);
        }
        BoundWalks now = stones(1);
        Checks.due("in the year itself", now.see(0), 0);
    }

    // ---- due

    private static void dueUnlessLost() {
        Checks.sentence("DUE in a year are STONES, not LOST as told now");
        BoundWalks land = stones(3);
        Checks.goTo(land, 20);
        land.lost(0, 20);
        land.lost(1, 0);
        Checks.due("lost in THE YEAR, and when set", land.due(), 4);
        land.lost(2, 19);
        Checks.due("all lost", land.due(), 0);
        land.moved(0, 19, 1, 1);
        Checks.due("moved before it was lost", land.due(), 0);
        land.moved(0, 20, 1, 1);
        Checks.due("set anew in that year, told last", land.due(), 1);
        land.lost(0, 20);
        Checks.due("lost again", land.due(), 0);
        land.moved(1, 1, 1, 1);
        Checks.due("set anew a year later", land.due(), 2);
        land.years(1);
        land.moved(2, 21, 1, 1);
        Checks.due("set anew, told later", land.due(), 6);
    }

    private static void gapYearsAgoOrLonger() {
        Checks.sentence("that were SEEN GAP years ago or longer");
        for (int gap = 1; gap <= 20; gap++) {
            BoundWalks land = stones(1);
            land.gap(gap);
            Checks.goTo(land, gap - 1);
            Checks.due("a year less than " + gap, land.due(), 0);
            Checks.goTo(land, gap);
            Checks.due(gap + " years", land.due(), 1);
            Checks.goTo(land, gap + 1);
            Checks.due("a year more than " + gap, land.due(), 1);
            Checks.goTo(land, 300);
            Checks.due("much longer", land.due(), 1);
        }
    }

    private static void gapBounds() {
        Checks.sentence("(GAP 1 .. 20");
        Checks.bounds("gap", 1, 20, v -> new BoundWalks().gap(v));
        for (int gap = 1; gap <= 20; gap++) {
            BoundWalks land = new BoundWalks();
            land.gap(gap);
            Checks.due("which it was", land.gap(21 - gap), gap);
            Checks.due("which it was then", land.gap(1), 21 - gap);
        }
    }

    private static void sevenAtFirst() {
        Checks.sentence("7 at first)");
        Checks.due("which it was", new BoundWalks().gap(1), 7);
        BoundWalks land = stones(8);
        Checks.due("a round of eight stones", land.round(30, 1), 7);
        Checks.goTo(land, 6);
        Checks.due("six years", land.due(), 0);
        Checks.goTo(land, 7);
        Checks.due("seven years", land.due(), 255);
    }

    // ---- rounds

    private static void roundYears() {
        Checks.sentence("A ROUND for n years (1 .. 30)");
        Checks.bounds("round: n", 1, 30, n -> stones(1).round(n, 1));
        // Twelve stones of year 0, one a year: in year 11 the last of them still waits.
        for (int gap = 1; gap <= 12; gap++) {
            BoundWalks land = stones(12);
            land.gap(gap);
            for (int n = 1; n <= 30; n++) {
                Checks.due(n + " years, gap " + gap, land.round(n, 1), gap <= 11 && n > gap ? gap : NONE);
            }
        }
    }

    private static void theYearAndTheFollowing() {
        Checks.sentence("in each of THE YEAR, and the following ones");
        BoundWalks land = stones(2);
        land.gap(4);
        Checks.goTo(land, 4);
        Checks.due("fails in THE YEAR", land.round(1, 1), 4);
        Checks.due("seeing comes first", land.round(1, 2), NONE);
        land.see(0);
        Checks.due("THE YEAR counts as a year of seeing", land.round(1, 1), NONE);
        Checks.due("each of the following", land.round(30, 1), NONE);
        land.gap(1);
        Checks.due("in THE YEAR 1, in the next one 0, but not 1", land.round(2, 1), 5);
        Checks.due("THE YEAR alone", land.round(1, 1), NONE);
    }

    private static void upToMStones() {
        Checks.sentence("up to m STONES (1 .. 12)");
        Checks.bounds("round: m", 1, 12, m -> stones(1).round(1, m));
        for (int m = 1; m <= 12; m++) {
            for (int count = 0; count <= 12; count++) {
                BoundWalks land = stones(count);
                land.gap(1);
                Checks.goTo(land, 1);
                Checks.due(m + " of " + count, land.round(1, m), count > m ? 1 : NONE);
                Checks.due(m + " of " + count + " for long", land.round(30, m), count > m ? 1 : NONE);
            }
        }
    }

    private static void roundsUnlessLost() {
        Checks.sentence("up to m STONES (1 .. 12), not LOST as told now, are SEEN");
        for (int lost = 0; lost <= 12; lost++) {
            BoundWalks land = stones(12);
            land.gap(1);
            for (int i = 0; i < lost; i++) {
                land.lost(i * 5 % 12, 0);
            }
            land.years(1);
            Checks.due("all that are left", land.round(30, Math.max(1, 12 - lost)), NONE);
            Checks.due("one fewer", land.round(30, Math.max(1, 11 - lost)), lost <= 10 ? 1 : NONE);
        }
        BoundWalks again = stones(2);
        again.gap(1);
        again.lost(0, 0);
        Checks.due("lost", again.round(2, 1), NONE);
        again.moved(0, 0, 0, 0);
        Checks.due("set anew", again.round(2, 1), 1);
        // A lost stone that was seen longest ago takes no stone's turn.
        BoundWalks turn = stones(2);
        turn.years(5);
        turn.see(1);
        turn.lost(0, 3);
        turn.gap(1);
        turn.years(1);
        Checks.due("the other is seen", turn.round(1, 1), NONE);
    }

    private static void longestAgo() {
        Checks.sentence("those whose last seeing is longest ago");
        // Stone i is seen in the year that order has for it, so that the eldest is not always the least or the last.
        int[][] orders = {{1, 2, 3, 4}, {4, 3, 2, 1}, {2, 4, 1, 3}, {3, 1, 4, 2}};
        for (int[] order : orders) {
            BoundWalks land = stones(4);
            for (int year = 1; year <= 4; year++) {
                land.years(1);
                for (int stone = 0; stone < 4; stone++) {
                    if (order[stone] == year) {
                        land.see(stone);
                    }
                }
            }
            land.gap(4);
            Checks.goTo(land, 5);
            Checks.due("one a year, the eldest first", land.round(30, 1), NONE);
            land.gap(3);
            Checks.due("in 5 the first of them, but the second not", land.round(30, 1), 5);
            Checks.due("two a year", land.round(30, 2), NONE);
            land.gap(2);
            Checks.due("two a year, but the third not", land.round(30, 2), 5);
            Checks.due("three a year, and each in two", land.round(30, 3), NONE);
        }
    }

    private static void severalAlike() {
        Checks.sentence("of several the least STONES");
        // Which of equals is seen can't be told from FAILS: any two stones of equal age may change places.
        for (int seen = 0; seen < 4; seen++) {
            BoundWalks land = stones(4);
            land.gap(3);
            land.years(2);
            land.see(seen);
            Checks.due("three of year 0", land.round(30, 1), 3);
            Checks.due("three of year 0, two of them at once", land.round(30, 2), NONE);
            Checks.due("up to the year before", land.round(1, 1), NONE);
        }
    }

    private static void firstYearThatFails() {
        Checks.sentence("FAILS: the first year of these");
        // Twelve stones of one year, m of them in each of the next: some wait gap years if m * gap is below twelve.
        for (int gap = 1; gap <= 20; gap++) {
            for (int m = 1; m <= 12; m++) {
                BoundWalks land = new BoundWalks();
                Checks.goTo(land, 100);
                for (int stone = 0; stone < 12; stone++) {
                    land.stone(stone, stone);
                }
                land.gap(gap);
                Checks.due("gap " + gap + ", " + m + " a year", land.round(30, m), m * gap < 12 ? 100 + gap : NONE);
            }
        }
        BoundWalks later = stones(1);
        later.gap(3);
        later.years(2);
        later.stone(0, 0);
        later.stone(0, 0);
        later.stone(0, 0);
        later.stone(0, 0);
        Checks.due("0 in 2, the others in 3, 4, 5: but one not", later.round(30, 1), 5);
        Checks.due("not in the years before", later.round(3, 1), NONE);
        Checks.due("in the last year of the round", later.round(4, 1), 5);
    }

    private static void notSeenForGapYears() {
        Checks.sentence("behind whose seeing some such STONE was not SEEN for GAP years or longer");
        for (int gap = 1; gap <= 20; gap++) {
            BoundWalks land = stones(2);
            land.gap(gap);
            Checks.goTo(land, gap - 1);
            Checks.due("a year less, one alone is seen", land.round(1, 1), NONE);
            Checks.goTo(land, gap);
            Checks.due("gap years, one alone is seen", land.round(1, 1), gap);
            Checks.due("behind the seeing of both", land.round(1, 2), NONE);
            Checks.goTo(land, gap + 5);
            Checks.due("longer, one alone is seen", land.round(1, 1), gap + 5);
            Checks.due("longer, behind the seeing of both", land.round(1, 2), NONE);
        }
    }

    private static void noneFails() {
        Checks.sentence("was not SEEN for GAP years or longer; none.");
        Checks.due("no stones", new BoundWalks().round(30, 1), NONE);
        Checks.due("one stone", stones(1).round(30, 1), NONE);
        BoundWalks lost = stones(12);
        lost.gap(1);
        for (int i = 0; i < 12; i++) {
            lost.lost(i, 0);
        }
        Checks.due("all lost", lost.round(30, 1), NONE);
        BoundWalks zero = stones(12);
        zero.gap(1);
        Checks.due("a round in year 0 that does not fail there", zero.round(1, 1), NONE);
    }

    private static void nearTheLastYear() {
        Checks.sentence("A ROUND for n years (1 .. 30): in each of THE YEAR, and the following ones");
        // The document names no end of a round but its n years.
        BoundWalks land = stones(2);
        land.gap(1);
        Checks.goTo(land, 300);
        Checks.due("in the last year", land.round(1, 1), 300);
        Checks.due("both are seen", land.round(30, 2), NONE);
        land.see(0);
        land.see(1);
        Checks.due("the last year alone", land.round(1, 1), NONE);
        Checks.due("behind the last year", land.round(2, 1), 301);
        BoundWalks many = new BoundWalks();
        Checks.goTo(many, 299);
        for (int i = 0; i < 12; i++) {
            many.stone(0, 0);
        }
        many.gap(1);
        Checks.due("in the last year, from the one before", many.round(30, 1), 300);
        Checks.due("THE YEAR stays", many.count(1), 299);
    }

    private static void nothingIsChanged() {
        Checks.sentence("(Nothing is changed.)");
        BoundWalks land = stones(12);
        land.gap(5);
        Checks.goTo(land, 9);
        land.see(4);
        for (int m = 1; m <= 12; m++) {
            for (int n = 1; n <= 30; n++) {
                land.round(n, m);
            }
        }
        Checks.due("THE YEAR", land.count(1), 9);
        Checks.due("what is due", land.due(), 4095 - 16);
        Checks.due("nothing was told", land.count(3), 0);
        Checks.due("a round again", land.round(30, 10), 9);
        Checks.due("a round again", land.round(30, 11), NONE);
        for (int stone = 0; stone < 12; stone++) {
            Checks.due("last seeing of " + stone, land.see(stone), stone == 4 ? 0 : 9);
        }
        Checks.due("GAP", land.gap(1), 5);
    }

    // ---- the calls, one by one

    private static void seeCalls() {
        Checks.sentence("A STONE is SEEN in THE YEAR: how long ago it was. BAD; NOT: it is LOST as told now.");
        Checks.bounds("see: stone", 0, 0, stone -> stones(1).see(stone));
        Checks.bounds("see: stone of twelve", 0, 11, stone -> stones(12).see(stone));
        Checks.due("no stones", new BoundWalks().see(0), BAD);
        BoundWalks land = stones(2);
        Checks.due("just now", land.see(0), 0);
        Checks.goTo(land, 300);
        Checks.due("as long as can be", land.see(0), 300);
        Checks.due("just now", land.see(0), 0);
        land.lost(1, 0);
        Checks.due("NOT", land.see(1), NOT);
        Checks.due("NOT again", land.see(1), NOT);
        land.moved(1, 0, 5, 5);
        Checks.due("set anew in that year, told last; the refused seeings are none", land.see(1), 300);
        land.lost(1, 300);
        Checks.due("lost in THE YEAR", land.see(1), NOT);
        Checks.due("no stone 2", land.see(2), BAD);
    }

    private static void gapCalls() {
        Checks.sentence("GAP: which it was. BAD.");
        BoundWalks land = new BoundWalks();
        Checks.due("0", land.gap(0), BAD);
        Checks.due("21", land.gap(21), BAD);
        Checks.due("the first, though some were refused", land.gap(20), 7);
        Checks.due("21 again", land.gap(21), BAD);
        Checks.due("which it was", land.gap(20), 20);
        Checks.due("the same once more", land.gap(1), 20);
        Checks.due("the least", land.gap(7), 1);
        BoundWalks due = stones(1);
        due.years(10);
        due.gap(11);
        Checks.due("a longer gap counts at once", due.due(), 0);
        due.gap(10);
        Checks.due("a shorter gap counts at once", due.due(), 1);
    }

    private static void dueCalls() {
        Checks.sentence("STONES that are DUE in THE YEAR (bits).");
        Checks.due("no stones", new BoundWalks().due(), 0);
        for (int count = 1; count <= 12; count++) {
            BoundWalks land = stones(count);
            Checks.due("none of " + count, land.due(), 0);
            land.years(7);
            Checks.due("all of " + count, land.due(), (1 << count) - 1);
        }
        for (int stone = 0; stone < 12; stone++) {
            BoundWalks land = stones(12);
            land.years(7);
            land.see(stone);
            Checks.due("all but " + stone, land.due(), 4095 - (1 << stone));
        }
    }

    private static void roundCalls() {
        Checks.sentence("FAILS of a ROUND for n years with m STONES; NONE. BAD.");
        Checks.bounds("round: n, without stones", 1, 30, n -> new BoundWalks().round(n, 12));
        Checks.bounds("round: m, without stones", 1, 12, m -> new BoundWalks().round(30, m));
        BoundWalks land = stones(12);
        land.gap(1);
        land.years(1);
        Checks.due("fails at once", land.round(1, 1), 1);
        Checks.due("n 0, and it would fail", land.round(0, 1), BAD);
        Checks.due("n 31, and it would fail", land.round(31, 1), BAD);
        Checks.due("m 0, and it would fail", land.round(1, 0), BAD);
        Checks.due("m 13, and it would not", land.round(1, 13), BAD);
        Checks.due("fails in year 0 never", stones(12).round(1, 1), NONE);
    }

    private static void countCalls() {
        Checks.sentence("0 PARISHES, 1 THE YEAR, 2 STONES, 3 what was told of them, "
            + "4 WITNESSES, 5 HOUSES, 6 AGREEMENTS, 7 LAWS. BAD.");
        Checks.bounds("count", 0, 7, what -> new BoundWalks().count(what));
        BoundWalks land = new BoundWalks();
        for (int i = 0; i < 13; i++) {
            land.parish(0, 0);
            land.stone(0, 0);
            land.agree(0, 1, 0, 0, 0, 0);
            land.law(0, 0, 0);
            land.house(0, 0, 1, 1, 0, 0, 0, 0);
        }
        for (int i = 0; i < 31; i++) {
            land.witness(0);
            land.moved(0, 0, 0, 0);
            land.lost(0, 0);
        }
        Checks.goTo(land, 300);
        land.years(1);
        int[] most = {4, 300, 12, 60, 20, 6, 12, 10};
        for (int what = 0; what < most.length; what++) {
            Checks.due("the most of " + what, land.count(what), most[what]);
        }
        Checks.due("count(8)", land.count(8), BAD);
        Checks.due("count(-1)", land.count(-1), BAD);
    }

    // ---- lands to ask

    /** So many stones, all of year 0. */
    private static BoundWalks stones(int count) {
        BoundWalks land = new BoundWalks();
        for (int i = 0; i < count; i++) {
            land.stone(i, i);
        }
        return land;
    }
}
