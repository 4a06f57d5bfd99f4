/** Promises 1 to 10: a new object, walks, claims, agreements, owners and quarrels. */
public final class WalksTest {
    private static final int NONE = BoundWalks.NONE, BAD = BoundWalks.BAD, NOT = BoundWalks.NOT, FULL = BoundWalks.FULL;
    private static final int[] WILD = {Integer.MIN_VALUE, -1000, -1, 1000, Integer.MAX_VALUE};

    public static void main(String[] args) {
        newObject();
        parishes();
        legs();
        unlegs();
        lengths();
        lengthsComeFirst();
        areas();
        ringsThatLeaveTheLand();
        ringsThatMeetThemselves();
        claims();
        agreements();
        owners();
        quarrels();
        Checks.end("WalksTest");
    }

    private static void newObject() {
        BoundWalks land = new BoundWalks();
        for (int what = 0; what < 8; what++) {
            Checks.due("P1 count(" + what + ")", land.count(what), 0);
        }
        Checks.due("P1 gap(7)", land.gap(7), 7);
        Checks.due("P1 due()", land.due(), 0);
        Checks.due("P1 quarrel(300)", land.quarrel(300), 0);
        Checks.due("P1 owner(11, 11, 300)", land.owner(11, 11, 300), NONE);
        BoundWalks other = new BoundWalks();
        other.parish(0, 0);
        other.years(9);
        other.stone(0, 0);
        Checks.due("P1 objects share nothing: parishes", land.count(0), 0);
        Checks.due("P1 objects share nothing: year", land.count(1), 0);
        Checks.due("P1 objects share nothing: stones", land.count(2), 0);
        Checks.due("NONE", NONE, -1);
        Checks.due("BAD", BAD, -2);
        Checks.due("NOT", NOT, -3);
        Checks.due("FULL", FULL, -4);
    }

    private static void parishes() {
        BoundWalks land = new BoundWalks();
        Checks.due("P2 parish(0, 0)", land.parish(0, 0), 0);
        Checks.due("P2 parish(12, 12)", land.parish(12, 12), 1);
        Checks.due("P2 parish(13, 12)", land.parish(13, 12), BAD);
        Checks.due("P2 parish(12, 13)", land.parish(12, 13), BAD);
        Checks.due("P2 parish(-1, 0)", land.parish(-1, 0), BAD);
        Checks.due("P2 parish(0, -1)", land.parish(0, -1), BAD);
        for (int wild : WILD) {
            Checks.due("P2 parish(wild, 0)", land.parish(wild, 0), BAD);
            Checks.due("P2 parish(0, wild)", land.parish(0, wild), BAD);
        }
        Checks.due("P2 parish(0, 12)", land.parish(0, 12), 2);
        Checks.due("P2 parish(12, 0)", land.parish(12, 0), 3);
        Checks.due("P2 a fifth parish", land.parish(1, 1), FULL);
        Checks.due("P2 a fifth parish, and no point", land.parish(13, 0), BAD);
        Checks.due("P2 count(0)", land.count(0), 4);
        Checks.due("P2 no legs", land.unleg(3), NOT);
    }

    private static void legs() {
        BoundWalks land = new BoundWalks();
        land.parish(6, 6);
        Checks.due("P3 low above high", land.leg(0, 0, 3, 2), BAD);
        Checks.due("P3 low 0", land.leg(0, 0, 0, 2), BAD);
        Checks.due("P3 high 13", land.leg(0, 0, 2, 13), BAD);
        Checks.due("P3 low 13", land.leg(0, 0, 13, 13), BAD);
        Checks.due("P3 direction -1", land.leg(0, -1, 1, 2), BAD);
        Checks.due("P3 direction 4", land.leg(0, 4, 1, 2), BAD);
        Checks.due("P3 parish 1", land.leg(1, 0, 1, 2), BAD);
        Checks.due("P3 parish 4", land.leg(4, 0, 1, 2), BAD);
        for (int wild : WILD) {
            Checks.due("P3 wild parish", land.leg(wild, 0, 1, 1), BAD);
            Checks.due("P3 wild direction", land.leg(0, wild, 1, 1), BAD);
            Checks.due("P3 wild low", land.leg(0, 0, wild, 12), BAD);
            Checks.due("P3 wild high", land.leg(0, 0, 1, wild), BAD);
        }
        for (int i = 1; i <= 12; i++) {
            Checks.due("P3 leg " + i, land.leg(0, i % 4, 1, 12), i);
        }
        Checks.due("P3 a thirteenth leg", land.leg(0, 0, 1, 1), FULL);
        Checks.due("P3 a thirteenth leg, low above high", land.leg(0, 0, 2, 1), BAD);
        land.parish(0, 0);
        Checks.due("P3 each parish has legs of its own", land.leg(1, 3, 12, 12), 1);
    }

    private static void unlegs() {
        BoundWalks land = new BoundWalks();
        Checks.due("P4 no parish", land.unleg(0), BAD);
        Checks.box(land, 1, 1, 3, 2);
        Checks.due("P4 area", land.area(0), 6);
        Checks.due("P4 unleg", land.unleg(0), 3);
        Checks.due("P4 the walk is open", land.area(0), NONE);
        Checks.due("P4 the claims are gone", land.claims(1, 1), 0);
        Checks.due("P4 the leg is gone", land.length(0, 3), BAD);
        Checks.due("P4 another leg comes", land.leg(0, 3, 1, 12), 4);
        Checks.due("P4 area again", land.area(0), 6);
        Checks.due("P4 its length", land.length(0, 3), 2);
        for (int left = 3; left >= 0; left--) {
            Checks.due("P4 left", land.unleg(0), left);
        }
        Checks.due("P4 none left", land.unleg(0), NOT);
        Checks.due("P4 a ring around nothing", land.area(0), 0);
        Checks.due("P4 parish 1", land.unleg(1), BAD);
        for (int wild : WILD) {
            Checks.due("P4 wild", land.unleg(wild), BAD);
        }
    }

    private static void lengths() {
        BoundWalks land = new BoundWalks();
        Checks.due("P5 no parish", land.length(0, 0), BAD);
        land.parish(2, 2);
        Checks.due("P5 no legs", land.length(0, 0), BAD);
        Checks.legs(land, 0, 0, 3, 5);
        Checks.lengths(land, 0, NONE);
        Checks.legs(land, 0, 2, 6, 9);
        Checks.lengths(land, 0, NONE, NONE);
        land.unleg(0);
        Checks.legs(land, 0, 2, 5, 9);
        Checks.lengths(land, 0, 5, 5);
        Checks.legs(land, 0, 1, 1, 12);
        Checks.lengths(land, 0, NONE, NONE, NONE);
        Checks.legs(land, 0, 3, 2, 12);
        Checks.lengths(land, 0, 5, 5, 2, 2);
        Checks.due("P5 i -1", land.length(0, -1), BAD);
        for (int wild : WILD) {
            Checks.due("P5 wild parish", land.length(wild, 0), BAD);
            Checks.due("P5 wild i", land.length(0, wild), BAD);
        }
    }

    private static void lengthsComeFirst() {
        BoundWalks land = new BoundWalks();
        land.parish(0, 0);
        Checks.legs(land, 0, 0, 1, 9, 2, 1, 4, 0, 2, 3, 2, 5, 9);
        Checks.lengths(land, 0, 3, 1, 3, 5);
        land.parish(6, 6);
        Checks.legs(land, 1, 0, 1, 12, 0, 1, 2, 2, 9, 12, 0, 1, 3);
        Checks.lengths(land, 1, 4, 2, 9, 3);
        land.parish(0, 0);
        Checks.legs(land, 2, 3, 1, 2, 1, 5, 12, 0, 2, 2, 3, 1, 3, 2, 1, 2, 3, 1, 9);
        Checks.lengths(land, 2, 1, 5, 2, 1, 2, 3);
        Checks.due("P5 lengths whose way leaves the land are lengths all the same", land.area(2), NONE);
        land.parish(5, 5);
        Checks.legs(land, 3, 0, 1, 12, 0, 1, 12, 0, 1, 12, 0, 1, 12, 0, 1, 12, 0, 1, 12);
        Checks.legs(land, 3, 2, 1, 12, 2, 1, 12, 2, 1, 12, 2, 1, 12, 2, 1, 12, 2, 12, 12);
        Checks.lengths(land, 3, 1, 1, 1, 1, 1, 12, 1, 1, 1, 1, 1, 12);
    }

    private static void areas() {
        BoundWalks land = new BoundWalks();
        Checks.due("P6 no parish", land.area(0), BAD);
        land.parish(12, 12);
        Checks.due("P6 a walk without legs", land.area(0), 0);
        Checks.legs(land, 0, 2, 12, 12);
        Checks.due("P6 no lengths", land.area(0), NONE);
        Checks.legs(land, 0, 3, 12, 12, 0, 12, 12, 1, 12, 12);
        Checks.due("P6 the whole land", land.area(0), 144);
        Checks.due("P6 parish 1", land.area(1), BAD);
        for (int wild : WILD) {
            Checks.due("P6 wild", land.area(wild), BAD);
        }
        land.parish(3, 0);
        Checks.legs(land, 1, 1, 5, 5, 0, 2, 2, 3, 2, 2, 0, 3, 3, 3, 3, 3, 2, 5, 5);
        Checks.due("P6 a bent ring", land.area(1), 19);
        Checks.due("P6 the bend's inner field", land.claims(4, 4), 3);
        Checks.due("P6 the bend's outer field", land.claims(5, 3), 1);
    }

    private static void ringsThatLeaveTheLand() {
        int[][] starts = {{10, 5, 0}, {5, 10, 1}, {2, 5, 2}, {5, 2, 3}};
        for (int[] start : starts) {
            BoundWalks land = new BoundWalks();
            land.parish(start[0], start[1]);
            int d = start[2];
            Checks.legs(land, 0, d, 2, 2, (d + 1) % 4, 1, 1, (d + 2) % 4, 2, 2, (d + 3) % 4, 1, 1);
            Checks.due("P6 up to the edge, direction " + d, land.area(0), 2);
            while (land.unleg(0) > 0) {
                Checks.due("P6 open", land.area(0), NONE);
            }
            Checks.legs(land, 0, d, 1, 3, (d + 1) % 4, 1, 1, (d + 2) % 4, 3, 3, (d + 3) % 4, 1, 1);
            Checks.due("P6 beyond the edge, direction " + d, land.area(0), NONE);
            Checks.due("P6 it claims nothing", land.claims(start[0] - (d == 2 ? 1 : 0), start[1] - (d == 3 ? 1 : 0)), 0);
            Checks.lengths(land, 0, 3, 1, 3, 1);
        }
    }

    private static void ringsThatMeetThemselves() {
        BoundWalks land = new BoundWalks();
        land.parish(0, 0);
        Checks.legs(land, 0, 0, 3, 3, 1, 3, 3, 2, 3, 3, 3, 3, 3);
        Checks.legs(land, 0, 0, 5, 5, 1, 5, 5, 2, 5, 5, 3, 5, 5);
        Checks.due("P6 a field met twice is not inside", land.area(0), 16);
        Checks.due("P7 in both turns", land.claims(2, 2), 0);
        Checks.due("P7 in one turn", land.claims(3, 2), 1);
        Checks.due("P7 in one turn, above", land.claims(0, 3), 1);
        land.parish(6, 6);
        Checks.legs(land, 1, 1, 4, 4, 3, 4, 4);
        Checks.due("P6 a side walked twice", land.area(1), 0);
        land.parish(6, 6);
        Checks.legs(land, 2, 0, 2, 2, 1, 2, 2, 2, 4, 4, 3, 4, 4, 0, 2, 2, 1, 2, 2);
        Checks.due("P6 two boxes that meet in a point", land.area(2), 12);
        Checks.due("P7 the first box", land.claims(7, 7), 4);
        Checks.due("P7 between them", land.claims(4, 5), 4);
        Checks.due("P7 beside them", land.claims(6, 5), 0);
    }

    private static void claims() {
        BoundWalks land = new BoundWalks();
        Checks.due("P7 no parish", land.claims(0, 0), 0);
        Checks.box(land, 0, 0, 6, 6);
        Checks.box(land, 3, 3, 6, 6);
        Checks.box(land, 3, 0, 2, 4);
        Checks.box(land, 4, 3, 8, 9);
        Checks.due("P7 four claims", land.claims(4, 3), 15);
        Checks.due("P7 three claims", land.claims(3, 3), 7);
        Checks.due("P7 one claim", land.claims(0, 0), 1);
        Checks.due("P7 the last field", land.claims(11, 11), 8);
        Checks.due("P7 no claim", land.claims(11, 0), 0);
        Checks.due("P7 x 12", land.claims(12, 0), BAD);
        Checks.due("P7 y 12", land.claims(0, 12), BAD);
        Checks.due("P7 x -1", land.claims(-1, 0), BAD);
        Checks.due("P7 y -1", land.claims(0, -1), BAD);
        for (int wild : WILD) {
            Checks.due("P7 wild x", land.claims(wild, 0), BAD);
            Checks.due("P7 wild y", land.claims(0, wild), BAD);
        }
    }

    private static void agreements() {
        BoundWalks land = new BoundWalks();
        land.parish(0, 0);
        Checks.due("P8 one parish alone", land.agree(0, 1, 0, 0, 0, 0), BAD);
        land.parish(0, 0);
        land.parish(0, 0);
        Checks.due("P8 to neither", land.agree(0, 1, 0, 0, 0, 2), BAD);
        Checks.due("P8 to NONE", land.agree(0, 1, 0, 0, 0, NONE), BAD);
        Checks.due("P8 both the same", land.agree(1, 1, 0, 0, 0, 1), BAD);
        Checks.due("P8 no parish one", land.agree(3, 1, 0, 0, 0, 1), BAD);
        Checks.due("P8 no parish two", land.agree(1, 3, 0, 0, 0, 1), BAD);
        Checks.due("P8 no parish, to it", land.agree(1, 3, 0, 0, 0, 3), BAD);
        Checks.due("P8 year -1", land.agree(0, 1, -1, 0, 0, 1), BAD);
        Checks.due("P8 year 301", land.agree(0, 1, 301, 0, 0, 1), BAD);
        Checks.due("P8 x 12", land.agree(0, 1, 0, 12, 0, 1), BAD);
        Checks.due("P8 y 12", land.agree(0, 1, 0, 0, 12, 1), BAD);
        for (int wild : WILD) {
            Checks.due("P8 wild one", land.agree(wild, 1, 0, 0, 0, 1), BAD);
            Checks.due("P8 wild two", land.agree(0, wild, 0, 0, 0, 0), BAD);
            Checks.due("P8 wild year", land.agree(0, 1, wild, 0, 0, 0), BAD);
            Checks.due("P8 wild x", land.agree(0, 1, 0, wild, 0, 0), BAD);
            Checks.due("P8 wild y", land.agree(0, 1, 0, 0, wild, 0), BAD);
            Checks.due("P8 wild to", land.agree(0, 1, 0, 0, 0, wild), BAD);
        }
        Checks.due("P8 nothing was told", land.count(6), 0);
        for (int i = 0; i < 12; i++) {
            Checks.due("P8 its number", land.agree(2, 0, 300, 11, i, i % 2 * 2), i);
        }
        Checks.due("P8 a thirteenth", land.agree(2, 0, 300, 11, 0, 2), FULL);
        Checks.due("P8 a thirteenth, to neither", land.agree(2, 0, 300, 11, 0, 1), BAD);
        Checks.due("P8 count(6)", land.count(6), 12);
        Checks.due("P8 given to the second", land.owner(11, 0, 300), 0);
        Checks.due("P8 given to the first", land.owner(11, 11, 300), 2);
    }

    private static void owners() {
        BoundWalks land = new BoundWalks();
        Checks.box(land, 0, 0, 4, 4);
        Checks.box(land, 2, 0, 4, 4);
        land.parish(0, 0);
        Checks.due("P9 alone", land.owner(1, 0, 0), 0);
        Checks.due("P9 alone", land.owner(5, 3, 300), 1);
        Checks.due("P9 two claim it", land.owner(2, 0, 0), NONE);
        Checks.due("P9 none claims it", land.owner(6, 0, 0), NONE);
        land.agree(0, 1, 50, 2, 0, 0);
        land.agree(0, 1, 20, 2, 0, 1);
        Checks.due("P9 before both", land.owner(2, 0, 19), NONE);
        Checks.due("P9 from the year itself", land.owner(2, 0, 20), 1);
        Checks.due("P9 up to the later", land.owner(2, 0, 49), 1);
        Checks.due("P9 the latest year, not the last told", land.owner(2, 0, 50), 0);
        land.agree(2, 1, 50, 2, 0, 2);
        Checks.due("P9 of several told last", land.owner(2, 0, 300), 2);
        Checks.due("P9 other years stay", land.owner(2, 0, 49), 1);
        land.agree(1, 2, 0, 0, 0, 1);
        Checks.due("P9 against a sole claim", land.owner(0, 0, 0), 1);
        Checks.due("P9 the field beside it", land.owner(1, 0, 300), 0);
        Checks.due("P9 the field with x and y changed", land.owner(0, 2, 300), 0);
        Checks.due("P9 year 301", land.owner(0, 0, 301), BAD);
        Checks.due("P9 year -1", land.owner(0, 0, -1), BAD);
        Checks.due("P9 x 12", land.owner(12, 0, 0), BAD);
        Checks.due("P9 y 12", land.owner(0, 12, 0), BAD);
        for (int wild : WILD) {
            Checks.due("P9 wild x", land.owner(wild, 0, 0), BAD);
            Checks.due("P9 wild y", land.owner(0, wild, 0), BAD);
            Checks.due("P9 wild year", land.owner(0, 0, wild), BAD);
        }
    }

    private static void quarrels() {
        BoundWalks land = new BoundWalks();
        Checks.box(land, 0, 0, 4, 4);
        Checks.due("P10 one parish", land.quarrel(0), 0);
        Checks.box(land, 2, 2, 4, 4);
        Checks.box(land, 3, 3, 9, 9);
        Checks.due("P10 two or three claims", land.quarrel(0), 12);
        land.agree(0, 2, 10, 3, 3, 2);
        land.agree(0, 2, 20, 2, 2, 2);
        land.agree(0, 2, 5, 0, 0, 2);
        land.agree(0, 2, 5, 11, 0, 2);
        Checks.due("P10 before the agreements", land.quarrel(9), 12);
        Checks.due("P10 after one", land.quarrel(10), 11);
        Checks.due("P10 after both", land.quarrel(300), 10);
        land.unleg(1);
        Checks.due("P10 a ring fewer", land.quarrel(9), 1);
        Checks.due("P10 a ring fewer", land.quarrel(10), 0);
        Checks.due("P10 year -1", land.quarrel(-1), BAD);
        Checks.due("P10 year 301", land.quarrel(301), BAD);
        for (int wild : WILD) {
            Checks.due("P10 wild", land.quarrel(wild), BAD);
        }
        BoundWalks all = new BoundWalks();
        Checks.box(all, 0, 0, 12, 12);
        Checks.box(all, 0, 0, 12, 12);
        Checks.due("P10 every field", all.quarrel(0), 144);
    }
}
