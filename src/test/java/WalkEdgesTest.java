/** The boundary cases of promises 1 to 10, a test for each sentence of the document that names one. */
public final class WalkEdgesTest {
    private static final int NONE = BoundWalks.NONE, BAD = BoundWalks.BAD, NOT = BoundWalks.NOT, FULL = BoundWalks.FULL;

    public static void main(String[] args) {
        nothingTold();
        theLastCall();
        fields();
        points();
        fourParishes();
        twelveLegs();
        directions();
        spans();
        withinTheSpan();
        endsAtTheStart();
        byTheFirstLeg();
        thenTheSecond();
        lessAheadOfMore();
        noLengthsNoRing();
        leavesTheLand();
        leavesOnTheWay();
        onlyTheFirstLengthsCount();
        withoutLegs();
        oddNumber();
        walkedTwice();
        areas();
        claimBits();
        twelveAgreements();
        fromAYearOn();
        toOneOfBoth();
        thatYearOrBefore();
        latestYear();
        toldLast();
        aloneOrNone();
        twoClaimsOrMore();
        parishCalls();
        legCalls();
        unlegCalls();
        lengthCalls();
        areaCalls();
        claimsCalls();
        agreeCalls();
        ownerCalls();
        quarrelCalls();
        Checks.end("WalkEdgesTest");
    }

    // ---- a new object

    private static void nothingTold() {
        Checks.sentence("YEAR 0, nothing told.");
        BoundWalks land = new BoundWalks();
        for (int what = 0; what <= 7; what++) {
            Checks.due("count " + what, land.count(what), 0);
        }
        for (int field = 0; field < 144; field++) {
            Checks.due("claims of field " + field, land.claims(field % 12, field / 12), 0);
            Checks.due("owner of field " + field, land.owner(field % 12, field / 12, 300), NONE);
        }
        Checks.due("quarrel", land.quarrel(0), 0);
        Checks.due("remember", land.remember(7, 7), 0);
        Checks.due("due", land.due(), 0);
        Checks.due("round", land.round(30, 1), NONE);
        Checks.due("no parish", land.area(0), BAD);
        Checks.due("no stone", land.where(0, 0, 0), BAD);
        Checks.due("no house", land.whose(0, 0, 0), BAD);
    }

    private static void theLastCall() {
        Checks.sentence("An object is used for at most 512 calls");
        BoundWalks land = new BoundWalks();
        land.parish(3, 3);
        for (int i = 0; i < 255; i++) {
            Checks.due("call " + (2 * i + 2), land.leg(0, 0, 1, 12), 1);
            Checks.due("call " + (2 * i + 3), land.unleg(0), 0);
        }
        Checks.due("call 512", land.leg(0, 2, 12, 12), 1);
    }

    // ---- the land

    private static void fields() {
        Checks.sentence("THE LAND has FIELDS (x, y), x and y 0 .. 11");
        Checks.bounds("claims: x", 0, 11, x -> whole(1).claims(x, 0));
        Checks.bounds("claims: y", 0, 11, y -> whole(1).claims(0, y));
        Checks.bounds("owner: x", 0, 11, x -> whole(1).owner(x, 11, 0));
        Checks.bounds("owner: y", 0, 11, y -> whole(1).owner(11, y, 0));
        Checks.bounds("agree: x", 0, 11, x -> whole(2).agree(0, 1, 0, x, 11, 1));
        Checks.bounds("agree: y", 0, 11, y -> whole(2).agree(0, 1, 0, 11, y, 1));
        Checks.due("all of them are fields", whole(1).area(0), 144);
        int[][] corners = {{0, 0}, {11, 0}, {0, 11}, {11, 11}};
        for (int[] corner : corners) {
            Checks.due("a corner's claims", whole(1).claims(corner[0], corner[1]), 1);
            Checks.due("a corner's owner", whole(1).owner(corner[0], corner[1], 0), 0);
        }
    }

    private static void points() {
        Checks.sentence("POINTS are their corners (x, y 0 .. 12).");
        Checks.bounds("parish: x", 0, 12, x -> new BoundWalks().parish(x, 12));
        Checks.bounds("parish: y", 0, 12, y -> new BoundWalks().parish(12, y));
        Checks.bounds("stone: x", 0, 12, x -> new BoundWalks().stone(x, 12));
        Checks.bounds("stone: y", 0, 12, y -> new BoundWalks().stone(12, y));
        Checks.bounds("moved: x", 0, 12, x -> oneStone().moved(0, 0, x, 12));
        Checks.bounds("moved: y", 0, 12, y -> oneStone().moved(0, 0, 12, y));
    }

    private static void fourParishes() {
        Checks.sentence("PARISHES are numbered from 0, 4 at most");
        BoundWalks land = new BoundWalks();
        for (int number = 0; number < 4; number++) {
            Checks.due("not yet", land.area(number), BAD);
            Checks.due("its number", land.parish(number, 0), number);
            Checks.due("now", land.area(number), 0);
        }
        Checks.due("a fifth", land.parish(0, 0), FULL);
        Checks.due("a sixth", land.parish(12, 12), FULL);
        Checks.due("there is no parish 4", land.area(4), BAD);
        Checks.due("four are there", land.count(0), 4);
    }

    private static void twelveLegs() {
        Checks.sentence("a WALK: LEGS (12 at most)");
        BoundWalks land = new BoundWalks();
        land.parish(0, 0);
        land.parish(0, 0);
        for (int i = 1; i <= 12; i++) {
            Checks.due("leg " + i, land.leg(1, i % 2 * 2, 1, 1), i);
        }
        Checks.due("a thirteenth", land.leg(1, 0, 1, 1), FULL);
        Checks.due("a thirteenth again", land.leg(1, 0, 1, 1), FULL);
        Checks.due("the other parish has none", land.leg(0, 0, 1, 1), 1);
        Checks.due("leg 11 is the last", land.length(1, 11), 1);
        Checks.due("no leg 12", land.length(1, 12), BAD);
        Checks.due("one goes", land.unleg(1), 11);
        Checks.due("there is room for one", land.leg(1, 0, 1, 1), 12);
        Checks.due("and no more", land.leg(1, 0, 1, 1), FULL);
    }

    private static void directions() {
        Checks.sentence("each in a DIRECTION 0 (x grows), 1 (y grows), 2 (x falls), 3 (y falls)");
        Checks.bounds("leg: direction", 0, 3, direction -> oneParish(6, 6).leg(0, direction, 1, 1));
        // From (6, 6) to the left of each direction: the field that such a ring lies around.
        int[][] want = {{6, 6}, {5, 6}, {5, 5}, {6, 5}};
        for (int d = 0; d < 4; d++) {
            BoundWalks land = oneParish(6, 6);
            Checks.legs(land, 0, d, 1, 1, (d + 1) % 4, 1, 1, (d + 2) % 4, 1, 1, (d + 3) % 4, 1, 1);
            Checks.due("one field, direction " + d, land.area(0), 1);
            Checks.due("this field, direction " + d, land.claims(want[d][0], want[d][1]), 1);
        }
    }

    private static void spans() {
        Checks.sentence("with a LENGTH of low to high (1 .. 12 each)");
        Checks.bounds("leg: low", 1, 12, low -> oneParish(0, 0).leg(0, 0, low, 12));
        Checks.bounds("leg: high", 1, 12, high -> oneParish(0, 0).leg(0, 0, 1, high));
        Checks.bounds("leg: both", 1, 12, both -> oneParish(0, 0).leg(0, 0, both, both));
        BoundWalks land = new BoundWalks();
        Checks.box(land, 0, 0, 1, 12);
        Checks.lengths(land, 0, 1, 12, 1, 12);
        Checks.due("the shortest and the longest", land.area(0), 12);
    }

    // ---- lengths

    private static void withinTheSpan() {
        Checks.sentence("one for each LEG within its span");
        Checks.lengths(walk(0, 0, 3, 5, 2, 1, 2), 0, NONE, NONE);
        Checks.lengths(walk(0, 0, 3, 5, 2, 1, 3), 0, 3, 3);
        Checks.lengths(walk(0, 0, 3, 5, 2, 5, 9), 0, 5, 5);
        Checks.lengths(walk(0, 0, 3, 5, 2, 6, 9), 0, NONE, NONE);
        Checks.lengths(walk(0, 1, 3, 5, 3, 1, 2), 0, NONE, NONE);
        Checks.lengths(walk(0, 1, 3, 5, 3, 1, 3), 0, 3, 3);
        Checks.lengths(walk(0, 3, 3, 5, 1, 5, 9), 0, 5, 5);
        Checks.lengths(walk(0, 3, 3, 5, 1, 6, 9), 0, NONE, NONE);
        Checks.lengths(walk(0, 0, 4, 4, 0, 4, 4, 2, 7, 7), 0, NONE, NONE, NONE);
        Checks.lengths(walk(0, 0, 4, 4, 0, 4, 4, 2, 8, 8), 0, 4, 4, 8);
        Checks.lengths(walk(0, 0, 4, 4, 0, 4, 4, 2, 9, 9), 0, NONE, NONE, NONE);
    }

    private static void endsAtTheStart() {
        Checks.sentence("so that it ends at its START");
        Checks.lengths(walk(5, 0, 1, 12), 0, NONE);
        Checks.lengths(walk(5, 0, 1, 12, 0, 1, 12), 0, NONE, NONE);
        Checks.lengths(walk(5, 0, 1, 12, 1, 1, 12), 0, NONE, NONE);
        Checks.lengths(walk(5, 0, 1, 12, 2, 1, 12, 1, 1, 12), 0, NONE, NONE, NONE);
        Checks.lengths(walk(5, 1, 1, 12, 3, 1, 12, 2, 1, 12), 0, NONE, NONE, NONE);
        Checks.lengths(walk(5, 0, 1, 1, 1, 1, 1, 2, 1, 1), 0, NONE, NONE, NONE);
        Checks.lengths(walk(5, 0, 1, 1, 1, 1, 1, 2, 1, 1, 3, 1, 1), 0, 1, 1, 1, 1);
        Checks.lengths(walk(5, 0, 1, 1, 1, 1, 1, 2, 1, 1, 3, 1, 1, 0, 1, 1), 0, NONE, NONE, NONE, NONE, NONE);
    }

    private static void byTheFirstLeg() {
        Checks.sentence("those that come first (by the first LEG");
        // 1 for the first leg needs 6 for the second; 2 for the first could do with less.
        Checks.lengths(walk(0, 0, 1, 6, 0, 1, 6, 2, 7, 7), 0, 1, 6, 7);
        Checks.lengths(walk(0, 0, 1, 6, 0, 1, 5, 2, 7, 7), 0, 2, 5, 7);
        Checks.lengths(walk(0, 1, 1, 6, 1, 1, 6, 3, 12, 12), 0, 6, 6, 12);
    }

    private static void thenTheSecond() {
        Checks.sentence("then the second, and so on");
        Checks.lengths(walk(0, 0, 2, 2, 0, 1, 9, 0, 1, 9, 2, 9, 9), 0, 2, 1, 6, 9);
        Checks.lengths(walk(0, 0, 2, 2, 0, 1, 9, 0, 1, 5, 2, 9, 9), 0, 2, 2, 5, 9);
        Checks.lengths(walk(0, 0, 1, 2, 1, 1, 2, 0, 1, 2, 1, 1, 2, 2, 3, 4, 3, 3, 4), 0, 1, 1, 2, 2, 3, 3);
        BoundWalks land = oneParish(0, 0);
        for (int i = 0; i < 6; i++) {
            Checks.legs(land, 0, 0, 1, 12);
        }
        for (int i = 0; i < 5; i++) {
            Checks.legs(land, 0, 2, 1, 12);
        }
        Checks.legs(land, 0, 2, 12, 12);
        Checks.lengths(land, 0, 1, 1, 1, 1, 1, 12, 1, 1, 1, 1, 1, 12);
    }

    private static void lessAheadOfMore() {
        Checks.sentence("less ahead of more)");
        Checks.lengths(walk(0, 0, 1, 12, 2, 1, 12), 0, 1, 1);
        Checks.lengths(walk(0, 0, 4, 12, 2, 1, 12), 0, 4, 4);
        Checks.lengths(walk(0, 0, 1, 12, 2, 4, 12), 0, 4, 4);
        Checks.lengths(walk(0, 2, 1, 12, 0, 12, 12), 0, 12, 12);
        Checks.lengths(walk(0, 3, 1, 12, 1, 12, 12), 0, 12, 12);
    }

    // ---- rings

    private static void noLengthsNoRing() {
        Checks.sentence("RING is the way by these LENGTHS; a WALK without LENGTHS");
        BoundWalks land = new BoundWalks();
        Checks.box(land, 2, 2, 3, 3);
        Checks.due("a ring", land.area(0), 9);
        Checks.due("a leg too many", land.leg(0, 0, 1, 1), 5);
        Checks.due("none", land.area(0), NONE);
        Checks.due("it claims nothing", land.claims(2, 2), 0);
        Checks.due("and owns nothing", land.owner(2, 2, 0), NONE);
        Checks.due("the leg goes", land.unleg(0), 4);
        Checks.due("the ring again", land.area(0), 9);
        Checks.due("and its claim", land.claims(2, 2), 1);
    }

    private static void leavesTheLand() {
        Checks.sentence("or by which one would leave THE LAND, has none");
        int[][] edges = {{9, 6, 0}, {6, 9, 1}, {3, 6, 2}, {6, 3, 3}};
        for (int[] edge : edges) {
            for (int length = 3; length <= 4; length++) {
                BoundWalks land = oneParish(edge[0], edge[1]);
                int d = edge[2];
                Checks.legs(land, 0, d, length, length, (d + 1) % 4, 1, 1);
                Checks.legs(land, 0, (d + 2) % 4, length, length, (d + 3) % 4, 1, 1);
                Checks.due("direction " + d + " by " + length, land.area(0), length == 3 ? 3 : NONE);
                Checks.due("its lengths stay", land.length(0, 0), length);
            }
        }
        BoundWalks corner = new BoundWalks();
        Checks.box(corner, 11, 11, 1, 1);
        Checks.box(corner, 12, 11, 1, 1);
        Checks.box(corner, 11, 12, 1, 1);
        Checks.due("up to the corner", corner.area(0), 1);
        Checks.due("beyond x", corner.area(1), NONE);
        Checks.due("beyond y", corner.area(2), NONE);
        Checks.due("one claim", corner.claims(11, 11), 1);
    }

    private static void leavesOnTheWay() {
        Checks.sentence("by which one would leave THE LAND");
        int[][] startsAtTheEdge = {{12, 6, 0}, {6, 12, 1}, {0, 6, 2}, {6, 0, 3}};
        for (int[] start : startsAtTheEdge) {
            int d = start[2];
            BoundWalks land = oneParish(start[0], start[1]);
            Checks.legs(land, 0, d, 1, 1, (d + 2) % 4, 1, 1);
            Checks.due("out and back, direction " + d, land.area(0), NONE);
            BoundWalks last = oneParish(start[0], start[1]);
            Checks.legs(last, 0, (d + 2) % 4, 1, 1, d, 2, 2, (d + 2) % 4, 1, 1);
            Checks.due("out at the last leg but one, direction " + d, last.area(0), NONE);
            BoundWalks within = oneParish(start[0], start[1]);
            Checks.legs(within, 0, (d + 2) % 4, 1, 1, d, 1, 1);
            Checks.due("in and back, direction " + d, within.area(0), 0);
        }
    }

    private static void onlyTheFirstLengthsCount() {
        Checks.sentence("RING is the way by these LENGTHS");
        BoundWalks alongX = walk(1, 0, 1, 2, 2, 3, 3, 0, 1, 2);
        Checks.lengths(alongX, 0, 1, 3, 2);
        Checks.due("2, 3, 1 would stay on the land, but 1, 3, 2 comes first", alongX.area(0), NONE);
        BoundWalks alongY = walk(11, 3, 1, 2, 1, 3, 3, 3, 1, 2);
        Checks.lengths(alongY, 0, 1, 3, 2);
        Checks.due("so too along y", alongY.area(0), NONE);
        BoundWalks stays = walk(11, 0, 1, 2, 2, 2, 3, 0, 1, 1);
        Checks.lengths(stays, 0, 1, 2, 1);
        Checks.due("2, 3, 1 would leave the land, but 1, 2, 1 comes first", stays.area(0), 0);
    }

    private static void withoutLegs() {
        Checks.sentence("that without LEGS is a RING around nothing");
        int[][] starts = {{0, 0}, {12, 0}, {0, 12}, {12, 12}};
        BoundWalks land = new BoundWalks();
        for (int[] start : starts) {
            Checks.due("its area", land.area(land.parish(start[0], start[1])), 0);
        }
        Checks.due("claims", land.claims(0, 0), 0);
        Checks.due("claims", land.claims(11, 11), 0);
        Checks.due("quarrel", land.quarrel(0), 0);
        BoundWalks emptied = new BoundWalks();
        Checks.box(emptied, 0, 0, 12, 12);
        for (int left = 3; left >= 0; left--) {
            Checks.due("left", emptied.unleg(0), left);
        }
        Checks.due("emptied", emptied.area(0), 0);
        Checks.due("nothing is claimed", emptied.claims(5, 5), 0);
    }

    private static void oddNumber() {
        Checks.sentence("meets the RING an odd number of times");
        // Two towers over a base: the row of the towers is met once, twice, three times, four times.
        BoundWalks land = oneParish(1, 1);
        Checks.legs(land, 0, 0, 8, 8, 1, 4, 4, 2, 2, 2, 3, 2, 2, 2, 3, 3, 1, 2, 2, 2, 3, 3, 3, 4, 4);
        int[] towers = {0, 1, 1, 1, 0, 0, 0, 1, 1, 0, 0, 0};
        int[] base = {0, 1, 1, 1, 1, 1, 1, 1, 1, 0, 0, 0};
        for (int x = 0; x < 12; x++) {
            Checks.due("below, x " + x, land.claims(x, 0), 0);
            Checks.due("the base's first row, x " + x, land.claims(x, 1), base[x]);
            Checks.due("the base's last row, x " + x, land.claims(x, 2), base[x]);
            Checks.due("the towers' first row, x " + x, land.claims(x, 3), towers[x]);
            Checks.due("the towers' last row, x " + x, land.claims(x, 4), towers[x]);
            Checks.due("above, x " + x, land.claims(x, 5), 0);
        }
        Checks.due("area", land.area(0), 26);
    }

    private static void walkedTwice() {
        Checks.sentence("(a side that is walked twice counts twice)");
        BoundWalks spur = oneParish(4, 4);
        Checks.legs(spur, 0, 2, 2, 2, 1, 3, 3, 3, 3, 3, 0, 2, 2);
        Checks.due("a spur is around nothing", spur.area(0), 0);
        Checks.legs(spur, 0, 0, 2, 2, 1, 2, 2, 2, 2, 2, 3, 2, 2);
        Checks.due("between the spur and the box", spur.claims(3, 4), 0);
        Checks.due("in the box, behind the spur", spur.claims(4, 4), 1);
        Checks.due("behind both", spur.claims(6, 4), 0);
        Checks.due("the box alone", spur.area(0), 4);
        BoundWalks thrice = oneParish(4, 4);
        Checks.legs(thrice, 0, 0, 2, 2, 1, 2, 2, 2, 2, 2, 3, 2, 2, 1, 2, 2, 3, 2, 2);
        Checks.due("a side that is walked three times counts three times", thrice.area(0), 4);
        BoundWalks twice = oneParish(4, 4);
        Checks.legs(twice, 0, 0, 2, 2, 1, 2, 2, 2, 2, 2, 3, 2, 2);
        Checks.legs(twice, 0, 0, 2, 2, 1, 2, 2, 2, 2, 2, 3, 2, 2);
        Checks.due("a box walked twice is around nothing", twice.area(0), 0);
        Checks.legs(twice, 0, 0, 2, 2, 1, 2, 2, 2, 2, 2, 3, 2, 2);
        Checks.due("walked three times", twice.area(0), 4);
        BoundWalks beside = oneParish(4, 4);
        Checks.legs(beside, 0, 0, 2, 2, 1, 2, 2, 2, 2, 2, 3, 2, 2);
        Checks.legs(beside, 0, 2, 2, 2, 1, 2, 2, 0, 2, 2, 3, 2, 2);
        Checks.due("two boxes at one side", beside.area(0), 8);
    }

    private static void areas() {
        Checks.sentence("AREA: how many FIELDS are INSIDE.");
        BoundWalks land = new BoundWalks();
        Checks.box(land, 0, 0, 12, 12);
        Checks.box(land, 11, 11, 1, 1);
        Checks.box(land, 0, 11, 12, 1);
        land.parish(0, 0);
        int[] want = {144, 1, 12, 0};
        for (int parish = 0; parish < 4; parish++) {
            Checks.due("area of parish " + parish, land.area(parish), want[parish]);
        }
    }

    // ---- claims, agreements, owners, quarrels

    private static void claimBits() {
        Checks.sentence("CLAIMS of a FIELD: PARISHES INSIDE whose RING it is (bits).");
        for (int parishes = 0; parishes <= 4; parishes++) {
            Checks.due(parishes + " claims", whole(parishes).claims(11, 11), (1 << parishes) - 1);
        }
        BoundWalks land = whole(4);
        for (int parish = 0; parish < 4; parish++) {
            land.unleg(parish);
            Checks.due("without parish " + parish, land.claims(0, 0), 15 & -(2 << parish));
        }
    }

    private static void twelveAgreements() {
        Checks.sentence("AN AGREEMENT (12 at most)");
        BoundWalks land = whole(2);
        for (int number = 0; number < 12; number++) {
            Checks.due("its number", land.agree(0, 1, 0, number, 0, 1), number);
        }
        Checks.due("a thirteenth", land.agree(0, 1, 0, 0, 0, 0), FULL);
        Checks.due("a thirteenth elsewhere", land.agree(1, 0, 300, 5, 5, 0), FULL);
        Checks.due("twelve are there", land.count(6), 12);
        for (int x = 0; x < 12; x++) {
            Checks.due("each binds, x " + x, land.owner(x, 0, 0), 1);
        }
        Checks.due("the refused one does not", land.owner(5, 5, 300), NONE);
    }

    private static void fromAYearOn() {
        Checks.sentence("of two PARISHES from a year on");
        int[] years = {0, 1, 150, 299, 300};
        for (int year : years) {
            BoundWalks land = whole(2);
            land.agree(0, 1, year, 4, 4, 1);
            if (year > 0) {
                Checks.due("the year before " + year, land.owner(4, 4, year - 1), NONE);
                Checks.due("long before " + year, land.owner(4, 4, 0), NONE);
            }
            Checks.due("the year " + year, land.owner(4, 4, year), 1);
            Checks.due("long after " + year, land.owner(4, 4, 300), 1);
        }
    }

    private static void toOneOfBoth() {
        Checks.sentence("gives a FIELD to one of both");
        BoundWalks land = whole(4);
        Checks.due("to the first", land.agree(3, 1, 0, 0, 0, 3), 0);
        Checks.due("to the second", land.agree(3, 1, 0, 1, 0, 1), 1);
        Checks.due("the first", land.owner(0, 0, 0), 3);
        Checks.due("the second", land.owner(1, 0, 0), 1);
        Checks.due("to a parish between them", land.agree(3, 1, 0, 0, 0, 2), BAD);
        Checks.due("to a parish beside them", land.agree(3, 1, 0, 0, 0, 0), BAD);
        Checks.due("the field beside", land.owner(0, 1, 300), NONE);
        Checks.due("the owner stays", land.owner(0, 0, 300), 3);
    }

    private static void thatYearOrBefore() {
        Checks.sentence("of AGREEMENTS on it from that year or before");
        BoundWalks land = whole(2);
        land.agree(0, 1, 100, 0, 0, 0);
        land.agree(0, 1, 101, 0, 0, 1);
        Checks.due("one year too early", land.owner(0, 0, 99), NONE);
        Checks.due("that year", land.owner(0, 0, 100), 0);
        Checks.due("the next year, with an agreement of its own", land.owner(0, 0, 101), 1);
        Checks.due("THE YEAR does not matter", land.count(1), 0);
    }

    private static void latestYear() {
        Checks.sentence("the one with the latest year");
        BoundWalks land = whole(3);
        land.agree(0, 1, 200, 0, 0, 0);
        land.agree(0, 1, 199, 0, 0, 1);
        land.agree(0, 2, 0, 0, 0, 2);
        Checks.due("199, told between", land.owner(0, 0, 199), 1);
        Checks.due("200, told first", land.owner(0, 0, 200), 0);
        Checks.due("0, told last", land.owner(0, 0, 198), 2);
        Checks.due("300", land.owner(0, 0, 300), 0);
    }

    private static void toldLast() {
        Checks.sentence("of several told last: whom that gives it");
        BoundWalks land = whole(3);
        int[] to = {0, 1, 2, 0, 2, 1};
        for (int i = 0; i < to.length; i++) {
            land.agree(to[i], (to[i] + 1) % 3, 0, 7, 8, to[i]);
            Checks.due("told " + (i + 1), land.owner(7, 8, 0), to[i]);
        }
        land.years(10);
        land.agree(0, 1, 0, 7, 8, 0);
        Checks.due("told in a later year", land.owner(7, 8, 0), 0);
    }

    private static void aloneOrNone() {
        Checks.sentence("without one the PARISH that alone CLAIMS it; else none.");
        BoundWalks land = whole(4);
        int[] want = {NONE, NONE, NONE, 3, NONE};
        for (int gone = 0; gone <= 4; gone++) {
            Checks.due(4 - gone + " claims", land.owner(6, 6, 150), want[gone]);
            if (gone < 4) {
                land.unleg(gone);
            }
        }
        for (int alone = 0; alone < 4; alone++) {
            BoundWalks one = new BoundWalks();
            for (int parish = 0; parish < alone; parish++) {
                one.parish(0, 0);
            }
            Checks.box(one, 6, 6, 1, 1);
            Checks.due("parish " + alone + " alone", one.owner(6, 6, 0), alone);
            Checks.due("beside its ring", one.owner(7, 6, 0), NONE);
        }
    }

    private static void twoClaimsOrMore() {
        Checks.sentence("QUARREL in a year: how many FIELDS have two CLAIMS or more and no OWNER.");
        int[] want = {0, 0, 144, 144, 144};
        for (int parishes = 0; parishes <= 4; parishes++) {
            Checks.due(parishes + " claims", whole(parishes).quarrel(0), want[parishes]);
        }
        BoundWalks land = whole(2);
        land.agree(0, 1, 10, 0, 0, 0);
        land.agree(0, 1, 11, 11, 11, 1);
        land.agree(0, 1, 11, 11, 11, 0);
        Checks.due("before", land.quarrel(9), 144);
        Checks.due("one agreement", land.quarrel(10), 143);
        Checks.due("two more on one field", land.quarrel(11), 142);
        Checks.due("ever since", land.quarrel(300), 142);
        land.unleg(1);
        Checks.due("one claim, and fields that one alone claims", land.quarrel(0), 0);
    }

    // ---- the calls, one by one

    private static void parishCalls() {
        Checks.sentence("A PARISH without LEGS: its number. BAD: no POINT; FULL.");
        BoundWalks land = new BoundWalks();
        Checks.due("the first", land.parish(12, 0), 0);
        Checks.due("no legs", land.unleg(0), NOT);
        Checks.due("no point", land.parish(12, 13), BAD);
        Checks.due("the second, though one was refused", land.parish(12, 12), 1);
        land.parish(0, 0);
        land.parish(0, 0);
        Checks.due("FULL", land.parish(0, 0), FULL);
        Checks.due("no point, and FULL", land.parish(-1, 0), BAD);
        Checks.due("no point, and FULL", land.parish(0, 13), BAD);
    }

    private static void legCalls() {
        Checks.sentence("A LEG more: how many. BAD: also low above high; FULL.");
        BoundWalks land = oneParish(0, 0);
        Checks.due("low above high by one", land.leg(0, 0, 2, 1), BAD);
        Checks.due("low above high, the ends", land.leg(0, 0, 12, 1), BAD);
        Checks.due("low above high, at the end", land.leg(0, 0, 12, 11), BAD);
        Checks.due("none so far", land.unleg(0), NOT);
        Checks.due("low as high", land.leg(0, 0, 2, 2), 1);
        Checks.due("low below high by one", land.leg(0, 0, 1, 2), 2);
        Checks.bounds("leg: parish", 0, 0, parish -> oneParish(0, 0).leg(parish, 0, 1, 1));
        Checks.bounds("leg: parish of four", 0, 3, parish -> whole(4).leg(parish, 0, 1, 1));
        for (int legs = 3; legs <= 12; legs++) {
            Checks.due("how many", land.leg(0, 0, 1, 1), legs);
        }
        Checks.due("FULL", land.leg(0, 0, 1, 1), FULL);
        Checks.due("no parish, and FULL", land.leg(1, 0, 1, 1), BAD);
        Checks.due("no direction, and FULL", land.leg(0, 4, 1, 1), BAD);
        Checks.due("low 0, and FULL", land.leg(0, 0, 0, 1), BAD);
        Checks.due("high 13, and FULL", land.leg(0, 0, 1, 13), BAD);
        Checks.due("low above high, and FULL", land.leg(0, 0, 2, 1), BAD);
    }

    private static void unlegCalls() {
        Checks.sentence("The last LEG goes: how many are left. BAD; NOT: there are none.");
        BoundWalks land = walk(0, 0, 3, 3, 2, 3, 3, 0, 5, 5, 2, 5, 5);
        Checks.due("left", land.unleg(0), 3);
        Checks.due("left", land.unleg(0), 2);
        Checks.lengths(land, 0, 3, 3);
        Checks.due("left", land.unleg(0), 1);
        Checks.due("none left", land.unleg(0), 0);
        Checks.due("NOT", land.unleg(0), NOT);
        Checks.due("NOT again", land.unleg(0), NOT);
        Checks.due("the next is the first", land.leg(0, 0, 1, 1), 1);
        Checks.bounds("unleg: parish", 0, 0, parish -> walk(0, 0, 1, 1).unleg(parish));
        Checks.bounds("unleg: parish of four", 0, 3, parish -> whole(4).unleg(parish));
        BoundWalks full = whole(1);
        Checks.legs(full, 0, 0, 1, 1, 2, 1, 1, 0, 1, 1, 2, 1, 1, 0, 1, 1, 2, 1, 1, 0, 1, 1, 2, 1, 1);
        Checks.due("of twelve", full.unleg(0), 11);
    }

    private static void lengthCalls() {
        Checks.sentence("LENGTH of LEG i; NONE: the WALK has no LENGTHS. BAD.");
        Checks.bounds("length: i", 0, 3, i -> whole(1).length(0, i));
        Checks.bounds("length: parish", 0, 0, parish -> whole(1).length(parish, 0));
        Checks.bounds("length: parish of four", 0, 3, parish -> whole(4).length(parish, 3));
        BoundWalks open = walk(0, 0, 1, 1, 0, 1, 1);
        Checks.due("no lengths, the first leg", open.length(0, 0), NONE);
        Checks.due("no lengths, the last leg", open.length(0, 1), NONE);
        Checks.due("no lengths, and no leg 2", open.length(0, 2), BAD);
        Checks.due("no lengths, and no leg -1", open.length(0, -1), BAD);
        Checks.due("no legs, so no leg 0", oneParish(0, 0).length(0, 0), BAD);
        Checks.due("no legs, and no leg -1", oneParish(0, 0).length(0, -1), BAD);
        BoundWalks full = walk(0, 0, 1, 12, 2, 12, 12, 0, 1, 12, 2, 12, 12, 0, 1, 12, 2, 12, 12);
        Checks.legs(full, 0, 0, 1, 12, 2, 12, 12, 0, 1, 12, 2, 12, 12, 0, 1, 12, 2, 12, 12);
        Checks.lengths(full, 0, 12, 12, 12, 12, 12, 12, 12, 12, 12, 12, 12, 12);
    }

    private static void areaCalls() {
        Checks.sentence("AREA; NONE: it has no RING. BAD.");
        Checks.bounds("area: parish", 0, 0, parish -> whole(1).area(parish));
        Checks.bounds("area: parish of four", 0, 3, parish -> whole(4).area(parish));
        Checks.due("no lengths", walk(0, 0, 1, 1).area(0), NONE);
        Checks.due("beyond the land", walk(0, 2, 1, 1, 0, 1, 1).area(0), NONE);
        Checks.due("a ring around nothing is a ring", walk(0, 0, 1, 1, 2, 1, 1).area(0), 0);
        Checks.due("no parish", new BoundWalks().area(0), BAD);
    }

    private static void claimsCalls() {
        Checks.sentence("CLAIMS of a FIELD. BAD.");
        Checks.bounds("claims: x and y", 0, 11, v -> whole(4).claims(v, v));
        Checks.due("a point that is no field", whole(4).claims(12, 12), BAD);
        Checks.due("no parish is no refusal", new BoundWalks().claims(0, 0), 0);
    }

    private static void agreeCalls() {
        Checks.sentence("AN AGREEMENT: its number. BAD: also to neither of both, or both the same; FULL.");
        Checks.bounds("agree: one", 0, 2, one -> whole(4).agree(one, 3, 0, 0, 0, 3));
        Checks.bounds("agree: two", 1, 3, two -> whole(4).agree(0, two, 0, 0, 0, 0));
        Checks.bounds("agree: one of three, given it", 0, 1, one -> whole(3).agree(one, 2, 0, 0, 0, one));
        Checks.bounds("agree: two of three, given it", 1, 2, two -> whole(3).agree(0, two, 0, 0, 0, two));
        Checks.bounds("agree: year", 0, 300, year -> whole(2).agree(0, 1, year, 0, 0, 0));
        Checks.bounds("agree: to", 1, 2, to -> whole(4).agree(1, 2, 0, 0, 0, to));
        for (int parish = 0; parish < 4; parish++) {
            Checks.due("both the same", whole(4).agree(parish, parish, 0, 0, 0, parish), BAD);
            Checks.due("both the same, to another", whole(4).agree(parish, parish, 0, 0, 0, 3 - parish), BAD);
        }
        BoundWalks land = whole(3);
        for (int number = 0; number < 12; number++) {
            Checks.due("its number", land.agree(2, 1, 0, 0, 0, 2), number);
        }
        Checks.due("FULL", land.agree(2, 1, 0, 0, 0, 2), FULL);
        Checks.due("to neither, and FULL", land.agree(2, 1, 0, 0, 0, 0), BAD);
        Checks.due("both the same, and FULL", land.agree(2, 2, 0, 0, 0, 2), BAD);
        Checks.due("no parish, and FULL", land.agree(2, 3, 0, 0, 0, 2), BAD);
        Checks.due("no year, and FULL", land.agree(2, 1, 301, 0, 0, 2), BAD);
        Checks.due("no field, and FULL", land.agree(2, 1, 0, 12, 0, 2), BAD);
        Checks.due("no field, and FULL", land.agree(2, 1, 0, 0, 12, 2), BAD);
    }

    private static void ownerCalls() {
        Checks.sentence("OWNER of a FIELD in a year; NONE. BAD.");
        Checks.bounds("owner: year", 0, 300, year -> whole(1).owner(0, 0, year));
        Checks.due("no owner: none claims it", whole(0).owner(11, 0, 0), NONE);
        Checks.due("no owner: two claim it", whole(2).owner(0, 11, 300), NONE);
        Checks.due("no field, and no owner", whole(2).owner(0, 12, 300), BAD);
        Checks.due("no year, and no owner", whole(2).owner(0, 11, 301), BAD);
    }

    private static void quarrelCalls() {
        Checks.sentence("QUARREL in a year. BAD.");
        Checks.bounds("quarrel: year", 0, 300, year -> whole(2).quarrel(year));
        Checks.bounds("quarrel: year, without parishes", 0, 300, year -> new BoundWalks().quarrel(year));
    }

    // ---- lands to ask

    /** So many parishes, each with a ring around the whole land. */
    private static BoundWalks whole(int parishes) {
        BoundWalks land = new BoundWalks();
        for (int i = 0; i < parishes; i++) {
            Checks.box(land, 0, 0, 12, 12);
        }
        return land;
    }

    private static BoundWalks oneParish(int x, int y) {
        BoundWalks land = new BoundWalks();
        land.parish(x, y);
        return land;
    }

    private static BoundWalks oneStone() {
        BoundWalks land = new BoundWalks();
        land.stone(0, 0);
        return land;
    }

    /** A parish that starts on the land's diagonal, with legs as triples direction, low, high. */
    private static BoundWalks walk(int start, int... triples) {
        BoundWalks land = oneParish(start, start);
        Checks.legs(land, 0, triples);
        return land;
    }
}
