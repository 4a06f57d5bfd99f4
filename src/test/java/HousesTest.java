/** Promises 18 to 20: houses, laws, and whose a house is. */
public final class HousesTest {
    private static final int NONE = BoundWalks.NONE, BAD = BoundWalks.BAD, FULL = BoundWalks.FULL;
    private static final int[] WILD = {Integer.MIN_VALUE, -1000, -1, 1000, Integer.MAX_VALUE};

    public static void main(String[] args) {
        houses();
        housesRefused();
        laws();
        byDoorAndHearth();
        byGreaterPart();
        onlyItsFieldsCount();
        greaterPartTied();
        lawsOfYearsAndUses();
        whoseBounds();
        Checks.end("HousesTest");
    }

    private static void houses() {
        BoundWalks land = new BoundWalks();
        Checks.due("P18 at the origin", land.house(0, 0, 1, 1, 0, 0, 0, 0), 0);
        Checks.due("P18 the largest, at the end", land.house(8, 8, 4, 4, 11, 11, 8, 8), 1);
        Checks.due("P18 one field, at the end", land.house(11, 11, 1, 1, 11, 11, 11, 11), 2);
        Checks.due("P18 on another house", land.house(0, 0, 4, 1, 3, 0, 0, 0), 3);
        Checks.due("P18 upright", land.house(0, 0, 1, 4, 0, 3, 0, 0), 4);
        Checks.due("P18 the sixth", land.house(5, 5, 2, 3, 6, 7, 5, 6), 5);
        Checks.due("P18 FULL", land.house(5, 5, 2, 3, 6, 7, 5, 6), FULL);
        Checks.due("P18 BAD ahead of FULL", land.house(5, 5, 2, 3, 7, 7, 5, 6), BAD);
        Checks.due("P18 count(5)", land.count(5), 6);
    }

    private static void housesRefused() {
        BoundWalks land = new BoundWalks();
        Checks.due("P18 w 0", land.house(0, 0, 0, 1, 0, 0, 0, 0), BAD);
        Checks.due("P18 h 0", land.house(0, 0, 1, 0, 0, 0, 0, 0), BAD);
        Checks.due("P18 w 5", land.house(0, 0, 5, 1, 0, 0, 0, 0), BAD);
        Checks.due("P18 h 5", land.house(0, 0, 1, 5, 0, 0, 0, 0), BAD);
        Checks.due("P18 beyond x", land.house(9, 0, 4, 1, 9, 0, 9, 0), BAD);
        Checks.due("P18 beyond y", land.house(0, 9, 1, 4, 0, 9, 0, 9), BAD);
        Checks.due("P18 x 12", land.house(12, 0, 1, 1, 12, 0, 12, 0), BAD);
        Checks.due("P18 y 12", land.house(0, 12, 1, 1, 0, 12, 0, 12), BAD);
        Checks.due("P18 door before x", land.house(3, 3, 2, 2, 2, 3, 3, 3), BAD);
        Checks.due("P18 door behind x", land.house(3, 3, 2, 2, 5, 3, 3, 3), BAD);
        Checks.due("P18 door before y", land.house(3, 3, 2, 2, 3, 2, 3, 3), BAD);
        Checks.due("P18 door behind y", land.house(3, 3, 2, 2, 3, 5, 3, 3), BAD);
        Checks.due("P18 hearth before x", land.house(3, 3, 2, 2, 3, 3, 2, 3), BAD);
        Checks.due("P18 hearth behind x", land.house(3, 3, 2, 2, 3, 3, 5, 3), BAD);
        Checks.due("P18 hearth before y", land.house(3, 3, 2, 2, 3, 3, 3, 2), BAD);
        Checks.due("P18 hearth behind y", land.house(3, 3, 2, 2, 3, 3, 3, 5), BAD);
        for (int at = 0; at < 8; at++) {
            for (int wild : WILD) {
                int[] a = {0, 0, 1, 1, 0, 0, 0, 0};
                a[at] = wild;
                Checks.due("P18 wild argument " + at, land.house(a[0], a[1], a[2], a[3], a[4], a[5], a[6], a[7]), BAD);
            }
        }
        Checks.due("P18 none stands", land.count(5), 0);
    }

    private static void laws() {
        BoundWalks land = new BoundWalks();
        Checks.due("P19 use 4", land.law(4, 0, 0), BAD);
        Checks.due("P19 year 301", land.law(0, 301, 0), BAD);
        Checks.due("P19 by 3", land.law(0, 0, 3), BAD);
        for (int wild : WILD) {
            Checks.due("P19 wild use", land.law(wild, 0, 0), BAD);
            Checks.due("P19 wild year", land.law(0, wild, 0), BAD);
            Checks.due("P19 wild by", land.law(0, 0, wild), BAD);
        }
        Checks.due("P19 none", land.count(7), 0);
        for (int i = 0; i < 10; i++) {
            Checks.due("P19 its number", land.law(i % 4, i * 33, i % 3), i);
        }
        Checks.due("P19 FULL", land.law(0, 0, 0), FULL);
        Checks.due("P19 BAD ahead of FULL", land.law(0, 0, 3), BAD);
        Checks.due("P19 count(7)", land.count(7), 10);
    }

    private static void byDoorAndHearth() {
        BoundWalks land = new BoundWalks();
        Checks.box(land, 0, 0, 6, 12);
        Checks.box(land, 6, 0, 5, 12);
        land.house(4, 4, 3, 2, 6, 4, 4, 5);
        Checks.due("P20 without a law by door", land.whose(0, 0, 0), 1);
        land.law(0, 10, 1);
        Checks.due("P20 before the law", land.whose(0, 0, 9), 1);
        Checks.due("P20 by hearth", land.whose(0, 0, 10), 0);
        Checks.due("P20 another use", land.whose(0, 1, 10), 1);
        land.agree(0, 1, 20, 4, 5, 1);
        Checks.due("P20 the hearth's owner of the year", land.whose(0, 0, 19), 0);
        Checks.due("P20 the hearth's owner of the year", land.whose(0, 0, 20), 1);
        land.house(10, 0, 2, 1, 10, 0, 11, 0);
        Checks.due("P20 a hearth that none owns", land.whose(1, 0, 10), NONE);
        Checks.due("P20 its door", land.whose(1, 0, 9), 1);
    }

    private static void byGreaterPart() {
        BoundWalks land = new BoundWalks();
        Checks.box(land, 0, 0, 6, 12);
        Checks.box(land, 6, 0, 6, 8);
        Checks.box(land, 0, 6, 2, 2);
        land.law(3, 0, 2);
        land.house(3, 0, 4, 4, 6, 0, 6, 0);
        Checks.due("P20 most of its fields", land.whose(0, 3, 0), 0);
        land.house(5, 0, 4, 1, 5, 0, 5, 0);
        Checks.due("P20 most of its fields", land.whose(1, 3, 0), 1);
        Checks.due("P20 by door", land.whose(1, 2, 0), 0);
        land.house(0, 6, 3, 2, 0, 6, 0, 6);
        Checks.due("P20 most, though not half", land.whose(2, 3, 0), 0);
        Checks.due("P20 its door has no owner", land.whose(2, 0, 0), NONE);
        land.house(9, 6, 3, 4, 9, 9, 9, 9);
        Checks.due("P20 the part that is owned", land.whose(3, 3, 0), 1);
        land.agree(0, 2, 100, 9, 9, 2);
        Checks.due("P20 a lesser part", land.whose(3, 3, 100), 1);
        Checks.due("P20 its door", land.whose(3, 1, 100), 2);
    }

    private static void onlyItsFieldsCount() {
        BoundWalks land = new BoundWalks();
        land.parish(0, 0);
        Checks.box(land, 0, 0, 12, 4);
        Checks.box(land, 0, 4, 12, 4);
        Checks.box(land, 0, 8, 12, 4);
        land.law(0, 0, 2);
        land.house(3, 6, 4, 2, 3, 7, 3, 7);
        land.house(3, 8, 4, 3, 3, 8, 3, 8);
        land.house(3, 3, 1, 3, 3, 3, 3, 3);
        land.house(3, 3, 1, 2, 3, 3, 3, 3);
        land.house(3, 7, 1, 2, 3, 8, 3, 8);
        land.house(3, 7, 1, 3, 3, 7, 3, 7);
        int[] want = {2, 3, 2, 1, 3, 3};
        for (int house = 0; house < want.length; house++) {
            Checks.due("P20 whose(" + house + ", 0, 0)", land.whose(house, 0, 0), want[house]);
        }
        land.agree(1, 0, 5, 2, 3, 0);
        land.agree(1, 0, 5, 4, 3, 0);
        Checks.due("P20 fields beside a house are not its own", land.whose(3, 0, 5), 1);
    }

    private static void greaterPartTied() {
        BoundWalks land = new BoundWalks();
        Checks.box(land, 0, 0, 6, 6);
        Checks.box(land, 6, 0, 6, 6);
        land.parish(0, 0);
        land.law(0, 0, 2);
        land.house(5, 0, 2, 2, 6, 1, 5, 0);
        Checks.due("P20 of several the door's", land.whose(0, 0, 0), 1);
        land.house(5, 0, 2, 2, 5, 1, 6, 0);
        Checks.due("P20 of several the door's", land.whose(1, 0, 0), 0);
        land.house(5, 5, 2, 2, 5, 6, 5, 5);
        Checks.due("P20 of several, the door's owner is none", land.whose(2, 0, 0), NONE);
        land.house(4, 0, 4, 3, 5, 0, 5, 0);
        land.agree(0, 2, 50, 5, 0, 2);
        land.agree(1, 2, 50, 6, 0, 2);
        Checks.due("P20 of several, the door's owner is a third", land.whose(3, 0, 50), 2);
        land.house(2, 8, 2, 2, 2, 8, 3, 9);
        Checks.due("P20 none owns any", land.whose(4, 0, 0), NONE);
        land.agree(0, 2, 60, 3, 9, 2);
        Checks.due("P20 one field owned is most", land.whose(4, 0, 60), 2);
        Checks.due("P20 before it was", land.whose(4, 0, 59), NONE);
    }

    private static void lawsOfYearsAndUses() {
        BoundWalks land = new BoundWalks();
        Checks.box(land, 0, 0, 2, 2);
        Checks.box(land, 2, 0, 2, 2);
        Checks.box(land, 4, 0, 2, 2);
        land.house(1, 0, 4, 1, 1, 0, 4, 0);
        land.law(1, 30, 2);
        land.law(1, 20, 1);
        Checks.due("P20 before both", land.whose(0, 1, 19), 0);
        Checks.due("P20 the earlier", land.whose(0, 1, 29), 2);
        Checks.due("P20 the latest, not the last told", land.whose(0, 1, 30), 1);
        land.law(1, 30, 1);
        Checks.due("P20 of several told last", land.whose(0, 1, 30), 2);
        land.law(1, 300, 0);
        Checks.due("P20 up to the last year", land.whose(0, 1, 299), 2);
        Checks.due("P20 the last year", land.whose(0, 1, 300), 0);
        Checks.due("P20 use 0", land.whose(0, 0, 300), 0);
        Checks.due("P20 use 3", land.whose(0, 3, 30), 0);
    }

    private static void whoseBounds() {
        BoundWalks land = new BoundWalks();
        Checks.due("P20 no house", land.whose(0, 0, 0), BAD);
        land.house(0, 0, 1, 1, 0, 0, 0, 0);
        Checks.due("P20 none owns it", land.whose(0, 0, 0), NONE);
        Checks.due("P20 house 1", land.whose(1, 0, 0), BAD);
        Checks.due("P20 house 6", land.whose(6, 0, 0), BAD);
        Checks.due("P20 use 4", land.whose(0, 4, 0), BAD);
        Checks.due("P20 year 301", land.whose(0, 0, 301), BAD);
        for (int wild : WILD) {
            Checks.due("P20 wild house", land.whose(wild, 0, 0), BAD);
            Checks.due("P20 wild use", land.whose(0, wild, 0), BAD);
            Checks.due("P20 wild year", land.whose(0, 0, wild), BAD);
        }
    }
}
