/** The boundary cases of promises 18 to 20, a test for each sentence of the document that names one. */
public final class HouseEdgesTest {
    private static final int NONE = BoundWalks.NONE, BAD = BoundWalks.BAD, FULL = BoundWalks.FULL;
    private static final int DOOR = 0, HEARTH = 1, GREATER_PART = 2;

    public static void main(String[] args) {
        sixHouses();
        fourByFour();
        bothAreInIt();
        tenLaws();
        fromAYearOn();
        fourUses();
        threeWays();
        thatYearOrBefore();
        theLatest();
        toldLast();
        noLaw();
        ownerOfDoorOrHearth();
        mostOfItsFields();
        ofSeveral();
        whereNoneOwnsAny();
        fieldsOfTheHouse();
        beyondTheLand();
        beyondTheHouse();
        houseCalls();
        lawCalls();
        whoseCalls();
        Checks.end("HouseEdgesTest");
    }

    // ---- houses

    private static void sixHouses() {
        Checks.sentence("HOUSES (6 at most)");
        BoundWalks land = new BoundWalks();
        for (int number = 0; number < 6; number++) {
            Checks.due("not yet", land.whose(number, 0, 0), BAD);
            Checks.due("its number", small(land, 0, 0), number);
            Checks.due("now", land.whose(number, 0, 0), NONE);
        }
        Checks.due("a seventh", small(land, 0, 0), FULL);
        Checks.due("a seventh elsewhere", small(land, 11, 11), FULL);
        Checks.due("there is no house 6", land.whose(6, 0, 0), BAD);
        Checks.due("six are there", land.count(5), 6);
    }

    private static void fourByFour() {
        Checks.sentence("stand on a box of FIELDS (w, h 1 .. 4)");
        Checks.bounds("house: w", 1, 4, w -> new BoundWalks().house(0, 0, w, 1, 0, 0, 0, 0));
        Checks.bounds("house: h", 1, 4, h -> new BoundWalks().house(0, 0, 1, h, 0, 0, 0, 0));
        Checks.bounds("house: both", 1, 4, v -> new BoundWalks().house(4, 4, v, v, 4, 4, 4, 4));
    }

    private static void bothAreInIt() {
        Checks.sentence("in which both are.");
        for (int x = 2; x <= 7; x++) {
            for (int y = 3; y <= 7; y++) {
                // On the fields 3 .. 6 by 4 .. 6.
                int want = x >= 3 && x <= 6 && y >= 4 && y <= 6 ? 0 : BAD;
                Checks.due("door " + x + " " + y, new BoundWalks().house(3, 4, 4, 3, x, y, 3, 4), want);
                Checks.due("hearth " + x + " " + y, new BoundWalks().house(3, 4, 4, 3, 6, 6, x, y), want);
                Checks.due("both " + x + " " + y, new BoundWalks().house(3, 4, 4, 3, x, y, x, y), want);
            }
        }
    }

    // ---- laws

    private static void tenLaws() {
        Checks.sentence("A LAW (10 at most)");
        BoundWalks land = astride();
        for (int number = 0; number < 10; number++) {
            Checks.due("its number", land.law(number % 3, 0, HEARTH), number);
        }
        Checks.due("an eleventh", land.law(3, 0, HEARTH), FULL);
        Checks.due("an eleventh for a use that has one", land.law(0, 0, DOOR), FULL);
        Checks.due("ten are there", land.count(7), 10);
        Checks.due("the refused ones don't hold", land.whose(0, 3, 0), 0);
        Checks.due("the refused ones don't hold", land.whose(0, 0, 0), 1);
    }

    private static void fromAYearOn() {
        Checks.sentence("says from a year on");
        int[] years = {0, 1, 150, 299, 300};
        for (int year : years) {
            BoundWalks land = astride();
            land.law(2, year, HEARTH);
            if (year > 0) {
                Checks.due("the year before " + year, land.whose(0, 2, year - 1), 0);
            }
            Checks.due("the year " + year, land.whose(0, 2, year), 1);
            Checks.due("the last year", land.whose(0, 2, 300), 1);
        }
    }

    private static void fourUses() {
        Checks.sentence("for a USE (0 .. 3)");
        Checks.bounds("law: use", 0, 3, use -> new BoundWalks().law(use, 0, 0));
        Checks.bounds("whose: use", 0, 3, use -> astride().whose(0, use, 0));
        for (int use = 0; use < 4; use++) {
            BoundWalks land = astride();
            land.law(use, 0, HEARTH);
            for (int other = 0; other < 4; other++) {
                Checks.due("law for " + use + ", use " + other, land.whose(0, other, 0), other == use ? 1 : 0);
            }
        }
    }

    private static void threeWays() {
        Checks.sentence("BY what a HOUSE is told: 0 DOOR, 1 HEARTH, 2 THE GREATER PART.");
        Checks.bounds("law: by", 0, 2, by -> new BoundWalks().law(0, 0, by));
        int[] want = {0, 1, 2};
        for (int by = 0; by <= 2; by++) {
            BoundWalks land = astride();
            land.law(0, 0, by);
            Checks.due("by " + by, land.whose(0, 0, 0), want[by]);
        }
    }

    private static void thatYearOrBefore() {
        Checks.sentence("by the LAW for it from that year or before");
        BoundWalks land = astride();
        land.law(0, 100, HEARTH);
        land.law(0, 101, GREATER_PART);
        Checks.due("no law yet", land.whose(0, 0, 99), 0);
        Checks.due("that year", land.whose(0, 0, 100), 1);
        Checks.due("the next year, with a law of its own", land.whose(0, 0, 101), 2);
    }

    private static void theLatest() {
        Checks.sentence("by the LAW for it from that year or before, the latest");
        BoundWalks land = astride();
        land.law(0, 300, DOOR);
        land.law(0, 200, GREATER_PART);
        land.law(0, 0, HEARTH);
        Checks.due("0, told last", land.whose(0, 0, 199), 1);
        Checks.due("200, told between", land.whose(0, 0, 200), 2);
        Checks.due("200 still", land.whose(0, 0, 299), 2);
        Checks.due("300, told first", land.whose(0, 0, 300), 0);
    }

    private static void toldLast() {
        Checks.sentence("the latest, of several told last");
        BoundWalks land = astride();
        int[] by = {HEARTH, DOOR, GREATER_PART, HEARTH, GREATER_PART, DOOR, HEARTH};
        for (int i = 0; i < by.length; i++) {
            land.law(1, 50, by[i]);
            Checks.due("told " + (i + 1), land.whose(0, 1, 50), by[i]);
        }
        land.years(10);
        land.law(1, 50, GREATER_PART);
        Checks.due("told in a later year", land.whose(0, 1, 50), 2);
    }

    private static void noLaw() {
        Checks.sentence("(none: BY DOOR)");
        BoundWalks land = astride();
        for (int use = 0; use < 4; use++) {
            Checks.due("year 0", land.whose(0, use, 0), 0);
            Checks.due("year 300", land.whose(0, use, 300), 0);
        }
        land.law(1, 300, HEARTH);
        Checks.due("none up to 299", land.whose(0, 1, 299), 0);
        Checks.due("none for another use", land.whose(0, 2, 300), 0);
    }

    // ---- whose a house is

    private static void ownerOfDoorOrHearth() {
        Checks.sentence("OWNER of its DOOR, HEARTH");
        BoundWalks land = astride();
        land.law(1, 0, HEARTH);
        land.house(0, 10, 4, 1, 0, 10, 3, 10);
        Checks.due("a door that none owns", land.whose(1, 0, 0), NONE);
        Checks.due("a hearth that none owns", land.whose(1, 1, 0), NONE);
        land.agree(0, 2, 10, 0, 10, 2);
        land.agree(0, 2, 20, 3, 10, 2);
        Checks.due("the door in year 9", land.whose(1, 0, 9), NONE);
        Checks.due("the door in year 10", land.whose(1, 0, 10), 2);
        Checks.due("the hearth in year 10, though the door is owned", land.whose(1, 1, 10), NONE);
        Checks.due("the hearth in year 19", land.whose(1, 1, 19), NONE);
        Checks.due("the hearth in year 20", land.whose(1, 1, 20), 2);
    }

    private static void mostOfItsFields() {
        Checks.sentence("or the PARISH that OWNS most of its FIELDS");
        // Sixteen fields: so many of them go to parish 1, the others to parish 0, the door's.
        for (int given = 0; given <= 12; given++) {
            BoundWalks land = new BoundWalks();
            Checks.box(land, 0, 0, 12, 12);
            land.parish(0, 0);
            land.house(8, 8, 4, 4, 8, 8, 11, 11);
            land.law(0, 0, GREATER_PART);
            for (int i = 0; i < given; i++) {
                land.agree(0, 1, 0, 11 - i % 4, 11 - i / 4, 1);
            }
            Checks.due(given + " of 16", land.whose(0, 0, 0), given <= 8 ? 0 : 1);
        }
        for (int parish = 0; parish < 4; parish++) {
            BoundWalks land = fourCorners();
            int x = parish % 2 == 0 ? 4 : 5;
            int y = parish / 2 == 0 ? 4 : 5;
            int doorX = parish % 2 == 0 ? 6 : 5;
            int doorY = parish / 2 == 0 ? 6 : 5;
            land.house(x, y, 3, 3, doorX, doorY, doorX, doorY);
            land.law(0, 0, GREATER_PART);
            Checks.due("four of nine, the others have two, two and one", land.whose(0, 0, 0), parish);
            Checks.due("its door is the least part's", land.whose(0, 1, 0), 3 - parish);
        }
        BoundWalks few = new BoundWalks();
        few.parish(0, 0);
        few.parish(0, 0);
        few.house(0, 0, 4, 4, 0, 0, 0, 0);
        few.law(0, 0, GREATER_PART);
        few.agree(0, 1, 0, 3, 3, 1);
        Checks.due("one of sixteen, the others nobody's", few.whose(0, 0, 0), 1);
        few.agree(0, 1, 0, 0, 0, 0);
        Checks.due("one each: the door's", few.whose(0, 0, 0), 0);
        few.agree(0, 1, 0, 0, 3, 1);
        Checks.due("two against one", few.whose(0, 0, 0), 1);
    }

    private static void ofSeveral() {
        Checks.sentence("of several, or where none OWNS any, the OWNER of its DOOR.");
        for (int door = 0; door < 4; door++) {
            BoundWalks land = fourCorners();
            land.house(5, 5, 2, 2, 5 + door % 2, 5 + door / 2, 5, 5);
            land.law(0, 0, GREATER_PART);
            Checks.due("four alike, the door's", land.whose(0, 0, 0), door);
        }
        BoundWalks third = new BoundWalks();
        Checks.box(third, 0, 0, 2, 1);
        Checks.box(third, 2, 0, 2, 1);
        Checks.box(third, 0, 1, 1, 1);
        third.law(0, 0, GREATER_PART);
        third.house(0, 0, 4, 2, 0, 1, 0, 0);
        Checks.due("two alike, the door is a third one's", third.whose(0, 0, 0), 2);
        third.house(0, 0, 4, 2, 3, 1, 0, 0);
        Checks.due("two alike, the door is nobody's", third.whose(1, 0, 0), NONE);
        third.house(0, 0, 4, 2, 0, 0, 3, 1);
        Checks.due("two alike, the door is the first's", third.whose(2, 0, 0), 0);
        third.house(0, 0, 4, 2, 2, 0, 0, 0);
        Checks.due("two alike, the door is the second's", third.whose(3, 0, 0), 1);
        third.agree(0, 2, 1, 2, 1, 2);
        Checks.due("three alike", third.whose(3, 0, 1), 1);
        third.agree(0, 2, 2, 3, 1, 2);
        Checks.due("the last has most", third.whose(3, 0, 2), 2);
    }

    private static void whereNoneOwnsAny() {
        Checks.sentence("or where none OWNS any, the OWNER of its DOOR.");
        BoundWalks land = new BoundWalks();
        land.law(0, 0, GREATER_PART);
        land.house(4, 4, 4, 4, 4, 4, 4, 4);
        Checks.due("no parish", land.whose(0, 0, 0), NONE);
        Checks.box(land, 0, 0, 12, 12);
        Checks.box(land, 0, 0, 12, 12);
        Checks.due("two claim all of it", land.whose(0, 0, 0), NONE);
        land.agree(0, 1, 7, 7, 7, 1);
        Checks.due("the year before one owns a field", land.whose(0, 0, 6), NONE);
        Checks.due("one owns a field", land.whose(0, 0, 7), 1);
    }

    private static void fieldsOfTheHouse() {
        Checks.sentence("A HOUSE on the FIELDS x .. x + w - 1, y .. y + h - 1");
        for (int x = 2; x <= 7; x++) {
            for (int y = 3; y <= 7; y++) {
                BoundWalks land = new BoundWalks();
                land.parish(0, 0);
                land.parish(0, 0);
                land.law(0, 0, GREATER_PART);
                land.house(3, 4, 4, 3, 3, 4, 3, 4);
                land.agree(0, 1, 0, x, y, 1);
                boolean its = x >= 3 && x <= 6 && y >= 4 && y <= 6;
                Checks.due("field " + x + " " + y, land.whose(0, 0, 0), its ? 1 : NONE);
            }
        }
    }

    private static void beyondTheLand() {
        Checks.sentence("BAD: also beyond THE LAND");
        for (int size = 1; size <= 4; size++) {
            int last = 12 - size;
            int wide = size;
            Checks.bounds("house: x, w " + size, 0, last, x -> new BoundWalks().house(x, 0, wide, 1, x, 0, x, 0));
            Checks.bounds("house: y, h " + size, 0, last, y -> new BoundWalks().house(0, y, 1, wide, 0, y, 0, y));
            Checks.bounds("house: x and y, " + size, 0, last, v -> new BoundWalks().house(v, v, wide, wide, v, v, v, v));
        }
        Checks.due("at the end of int", new BoundWalks().house(Integer.MAX_VALUE, 0, 4, 1, Integer.MIN_VALUE, 0,
            Integer.MIN_VALUE, 0), BAD);
        Checks.due("at the end of int", new BoundWalks().house(0, Integer.MAX_VALUE, 1, 4, 0, Integer.MIN_VALUE,
            0, Integer.MIN_VALUE), BAD);
        Checks.due("w at the end of int", new BoundWalks().house(1, 0, Integer.MAX_VALUE, 1, 1, 0, 1, 0), BAD);
        Checks.due("h at the end of int", new BoundWalks().house(0, 1, 1, Integer.MIN_VALUE, 0, 1, 0, 1), BAD);
    }

    private static void beyondTheHouse() {
        Checks.sentence("or one of both beyond the HOUSE");
        Checks.bounds("house: doorX", 3, 4, v -> new BoundWalks().house(3, 5, 2, 3, v, 5, 3, 5));
        Checks.bounds("house: doorY", 5, 7, v -> new BoundWalks().house(3, 5, 2, 3, 3, v, 3, 5));
        Checks.bounds("house: hearthX", 3, 4, v -> new BoundWalks().house(3, 5, 2, 3, 3, 5, v, 5));
        Checks.bounds("house: hearthY", 5, 7, v -> new BoundWalks().house(3, 5, 2, 3, 3, 5, 3, v));
        Checks.bounds("house: doorX, one field", 11, 11, v -> new BoundWalks().house(11, 11, 1, 1, v, 11, 11, 11));
        Checks.bounds("house: hearthY, one field", 0, 0, v -> new BoundWalks().house(0, 0, 1, 1, 0, 0, 0, v));
    }

    // ---- the calls, one by one

    private static void houseCalls() {
        Checks.sentence("with its DOOR and HEARTH: its number.");
        BoundWalks land = new BoundWalks();
        Checks.due("refused", land.house(0, 0, 5, 1, 0, 0, 0, 0), BAD);
        for (int number = 0; number < 6; number++) {
            Checks.due("its number", land.house(8, 8, 4, 4, 11, 8, 8, 11), number);
        }
        Checks.sentence("or one of both beyond the HOUSE; FULL.");
        Checks.due("FULL", land.house(8, 8, 4, 4, 11, 8, 8, 11), FULL);
        Checks.due("w 0, and FULL", land.house(8, 8, 0, 4, 8, 8, 8, 8), BAD);
        Checks.due("h 5, and FULL", land.house(7, 7, 4, 5, 8, 8, 8, 8), BAD);
        Checks.due("beyond the land, and FULL", land.house(9, 8, 4, 4, 9, 8, 9, 8), BAD);
        Checks.due("no field, and FULL", land.house(-1, 8, 4, 4, 0, 8, 0, 8), BAD);
        Checks.due("door beyond, and FULL", land.house(8, 8, 2, 2, 10, 8, 8, 8), BAD);
        Checks.due("hearth beyond, and FULL", land.house(8, 8, 2, 2, 8, 8, 8, 10), BAD);
    }

    private static void lawCalls() {
        Checks.sentence("A LAW: its number. BAD; FULL.");
        Checks.bounds("law: year", 0, 300, year -> new BoundWalks().law(3, year, 2));
        BoundWalks land = new BoundWalks();
        Checks.due("refused", land.law(0, 0, 3), BAD);
        for (int number = 0; number < 10; number++) {
            Checks.due("its number", land.law(3, 300, 2), number);
        }
        Checks.due("FULL", land.law(3, 300, 2), FULL);
        Checks.due("no use, and FULL", land.law(4, 300, 2), BAD);
        Checks.due("no year, and FULL", land.law(3, 301, 2), BAD);
        Checks.due("by nothing, and FULL", land.law(3, 300, 3), BAD);
    }

    private static void whoseCalls() {
        Checks.sentence("WHOSE is a HOUSE for a USE in a year; NONE. BAD.");
        Checks.bounds("whose: house", 0, 0, house -> astride().whose(house, 0, 0));
        Checks.bounds("whose: house of six", 0, 5, house -> sixOfThem().whose(house, 0, 0));
        Checks.bounds("whose: year", 0, 300, year -> astride().whose(0, 0, year));
        for (int by = 0; by <= 2; by++) {
            BoundWalks land = new BoundWalks();
            small(land, 6, 6);
            land.law(0, 0, by);
            Checks.due("nobody's by " + by, land.whose(0, 0, 0), NONE);
            Checks.due("nobody's, and no year", land.whose(0, 0, 301), BAD);
        }
        Checks.due("no house", new BoundWalks().whose(0, 0, 0), BAD);
    }

    // ---- lands to ask

    private static int small(BoundWalks land, int x, int y) {
        return land.house(x, y, 1, 1, x, y, x, y);
    }

    /** A house with its door in parish 0, its hearth in parish 1, and most of it in parish 2: as a law's BY is numbered. */
    private static BoundWalks astride() {
        BoundWalks land = new BoundWalks();
        Checks.box(land, 4, 4, 1, 1);
        Checks.box(land, 5, 4, 1, 1);
        Checks.box(land, 4, 5, 4, 1);
        land.house(4, 4, 4, 2, 4, 4, 5, 4);
        return land;
    }

    /** The land in four: parish 0 and 1 below, 2 and 3 above. */
    private static BoundWalks fourCorners() {
        BoundWalks land = new BoundWalks();
        for (int i = 0; i < 4; i++) {
            Checks.box(land, i % 2 * 6, i / 2 * 6, 6, 6);
        }
        return land;
    }

    private static BoundWalks sixOfThem() {
        BoundWalks land = new BoundWalks();
        for (int i = 0; i < 6; i++) {
            small(land, i, i);
        }
        return land;
    }
}
