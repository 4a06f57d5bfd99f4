/** Promises 21 to 25: seeing, the gap, what is due, rounds and counts. */
public final class SeeingTest {
    private static final int NONE = BoundWalks.NONE, BAD = BoundWalks.BAD, NOT = BoundWalks.NOT;
    private static final int[] WILD = {Integer.MIN_VALUE, -1000, -1, 1000, Integer.MAX_VALUE};

    public static void main(String[] args) {
        seeing();
        gaps();
        dues();
        duesOfLostStones();
        rounds();
        roundsSeeTheOldest();
        roundsWhereTheFirstStoneWaits();
        roundsOfLostStones();
        roundsChangeNothing();
        roundsBeyondTheLastYear();
        roundBounds();
        counts();
        Checks.end("SeeingTest");
    }

    private static void seeing() {
        BoundWalks land = new BoundWalks();
        Checks.due("P21 no stone", land.see(0), BAD);
        land.years(3);
        land.stone(1, 1);
        Checks.due("P21 in the year it was set", land.see(0), 0);
        land.years(10);
        Checks.due("P21 ten years ago", land.see(0), 10);
        Checks.due("P21 just now", land.see(0), 0);
        land.lost(0, 5);
        Checks.due("P21 lost", land.see(0), NOT);
        land.moved(0, 4, 2, 2);
        Checks.due("P21 moved before it was lost", land.see(0), NOT);
        land.years(2);
        land.moved(0, 6, 2, 2);
        Checks.due("P21 set anew after it was lost; refused seeings don't count", land.see(0), 2);
        Checks.due("P21 stone 1", land.see(1), BAD);
        for (int wild : WILD) {
            Checks.due("P21 wild", land.see(wild), BAD);
        }
    }

    private static void gaps() {
        BoundWalks land = new BoundWalks();
        Checks.due("P22 0", land.gap(0), BAD);
        Checks.due("P22 21", land.gap(21), BAD);
        for (int wild : WILD) {
            Checks.due("P22 wild", land.gap(wild), BAD);
        }
        Checks.due("P22 7 at first", land.gap(20), 7);
        Checks.due("P22 20", land.gap(1), 20);
        Checks.due("P22 1", land.gap(1), 1);
    }

    private static void dues() {
        BoundWalks land = new BoundWalks();
        Checks.due("P23 no stones", land.due(), 0);
        land.stone(0, 0);
        land.years(1);
        land.stone(0, 0);
        land.years(5);
        Checks.due("P23 six years", land.due(), 0);
        land.years(1);
        Checks.due("P23 seven years", land.due(), 1);
        land.years(1);
        Checks.due("P23 both", land.due(), 3);
        land.see(0);
        Checks.due("P23 one was seen", land.due(), 2);
        land.gap(8);
        Checks.due("P23 a longer gap", land.due(), 0);
        land.years(1);
        Checks.due("P23 a longer gap", land.due(), 2);
        land.gap(1);
        Checks.due("P23 the shortest gap", land.due(), 3);
        for (int i = 2; i < 12; i++) {
            land.stone(i, i);
        }
        land.years(1);
        Checks.due("P23 all stones", land.due(), 4095);
    }

    private static void duesOfLostStones() {
        BoundWalks land = new BoundWalks();
        land.stone(0, 0);
        land.stone(0, 0);
        land.stone(0, 0);
        land.years(30);
        land.lost(1, 10);
        Checks.due("P23 one is lost", land.due(), 5);
        land.moved(1, 9, 0, 0);
        Checks.due("P23 it is lost still", land.due(), 5);
        land.moved(1, 10, 0, 0);
        Checks.due("P23 set anew in that year, told last", land.due(), 7);
        land.lost(0, 30);
        Checks.due("P23 lost in the year", land.due(), 6);
    }

    private static void rounds() {
        BoundWalks land = new BoundWalks();
        Checks.due("P24 no stones", land.round(30, 1), NONE);
        land.gap(3);
        for (int i = 0; i < 4; i++) {
            land.stone(i, i);
        }
        Checks.due("P24 one a year", land.round(30, 1), 3);
        Checks.due("P24 up to the year that fails", land.round(4, 1), 3);
        Checks.due("P24 not so far", land.round(3, 1), NONE);
        Checks.due("P24 two a year", land.round(30, 2), NONE);
        land.gap(4);
        Checks.due("P24 a longer gap", land.round(30, 1), NONE);
        land.gap(1);
        Checks.due("P24 three a year", land.round(30, 3), 1);
        Checks.due("P24 all each year", land.round(30, 4), NONE);
        Checks.due("P24 more than there are", land.round(30, 12), NONE);
        land.years(10);
        Checks.due("P24 fails at once", land.round(1, 3), 10);
        Checks.due("P24 seen at once", land.round(1, 4), NONE);
    }

    private static void roundsSeeTheOldest() {
        BoundWalks land = new BoundWalks();
        land.gap(5);
        land.stone(0, 0);
        land.years(2);
        land.stone(1, 1);
        land.years(1);
        land.stone(2, 2);
        land.see(0);
        land.years(2);
        Checks.due("P24 in order of their last seeing", land.round(30, 1), NONE);
        land.gap(4);
        Checks.due("P24 stone 1, then 0, then 2", land.round(30, 1), NONE);
        land.gap(3);
        Checks.due("P24 stone 1 in 5, then 0 in 6, but 2 not", land.round(30, 1), 6);
        land.years(1);
        Checks.due("P24 stones 0 and 2 at once", land.round(1, 1), 6);
        land.gap(20);
        land.years(15);
        Checks.due("P24 nineteen years, eighteen, eighteen", land.round(1, 1), NONE);
        Checks.due("P24 stone 1, then 0, then 2 in time", land.round(30, 1), NONE);
        land.years(1);
        Checks.due("P24 stone 1 in 22, then 0 in 23, but 2 not", land.round(30, 1), 23);
        Checks.due("P24 two a year", land.round(30, 2), NONE);
    }

    private static void roundsWhereTheFirstStoneWaits() {
        BoundWalks land = new BoundWalks();
        land.gap(3);
        land.stone(0, 0);
        land.stone(1, 1);
        land.years(1);
        land.see(0);
        land.years(2);
        Checks.due("P24 stone 1 in 3, then 0 in 4", land.round(30, 1), NONE);
        land.years(1);
        Checks.due("P24 stone 1 in 4, but 0 not", land.round(30, 1), 4);
    }

    private static void roundsOfLostStones() {
        BoundWalks land = new BoundWalks();
        land.gap(1);
        land.stone(0, 0);
        land.stone(0, 0);
        Checks.due("P24 one of two", land.round(30, 1), 1);
        land.lost(0, 0);
        Checks.due("P24 one is lost", land.round(30, 1), NONE);
        land.lost(1, 0);
        Checks.due("P24 both are lost", land.round(30, 1), NONE);
        land.moved(0, 0, 5, 5);
        Checks.due("P24 one was set anew", land.round(30, 1), NONE);
        land.moved(1, 0, 5, 5);
        Checks.due("P24 both were", land.round(30, 1), 1);
    }

    private static void roundsChangeNothing() {
        BoundWalks land = new BoundWalks();
        land.stone(0, 0);
        land.years(9);
        Checks.due("P24 round", land.round(30, 12), NONE);
        Checks.due("P24 the year", land.count(1), 9);
        Checks.due("P24 still due", land.due(), 1);
        Checks.due("P24 not seen", land.see(0), 9);
        land.gap(1);
        Checks.due("P24 round", land.round(30, 1), NONE);
        Checks.due("P24 the gap", land.gap(1), 1);
    }

    private static void roundsBeyondTheLastYear() {
        BoundWalks land = new BoundWalks();
        for (int i = 0; i < 6; i++) {
            land.years(50);
        }
        land.stone(0, 0);
        land.stone(0, 0);
        land.gap(1);
        Checks.due("P24 a round goes on for its n years", land.round(30, 1), 301);
        Checks.due("P24 one year alone", land.round(1, 1), NONE);
    }

    private static void roundBounds() {
        BoundWalks land = new BoundWalks();
        land.stone(0, 0);
        Checks.due("P24 n 0", land.round(0, 1), BAD);
        Checks.due("P24 n 31", land.round(31, 1), BAD);
        Checks.due("P24 m 0", land.round(1, 0), BAD);
        Checks.due("P24 m 13", land.round(1, 13), BAD);
        for (int wild : WILD) {
            Checks.due("P24 wild n", land.round(wild, 1), BAD);
            Checks.due("P24 wild m", land.round(1, wild), BAD);
        }
    }

    private static void counts() {
        BoundWalks land = new BoundWalks();
        land.parish(0, 0);
        land.parish(0, 0);
        land.years(9);
        for (int i = 0; i < 3; i++) {
            land.stone(0, 0);
        }
        land.moved(0, 9, 0, 0);
        land.moved(0, 9, 0, 0);
        land.lost(0, 9);
        land.lost(1, 9);
        for (int i = 0; i < 5; i++) {
            land.witness(0);
        }
        for (int i = 0; i < 6; i++) {
            land.house(0, 0, 1, 1, 0, 0, 0, 0);
        }
        for (int i = 0; i < 7; i++) {
            land.agree(0, 1, 0, 0, 0, 0);
        }
        for (int i = 0; i < 8; i++) {
            land.law(0, 0, 0);
        }
        int[] want = {2, 9, 3, 4, 5, 6, 7, 8};
        for (int what = 0; what < want.length; what++) {
            Checks.due("P25 count(" + what + ")", land.count(what), want[what]);
        }
        Checks.due("P25 count(8)", land.count(8), BAD);
        for (int wild : WILD) {
            Checks.due("P25 wild", land.count(wild), BAD);
        }
    }
}
