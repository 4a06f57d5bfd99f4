/** The boundary cases of promises 11 to 17, a test for each sentence of the document that names one. */
public final class StoneEdgesTest {
    private static final int NONE = BoundWalks.NONE, BAD = BoundWalks.BAD, FULL = BoundWalks.FULL;

    public static void main(String[] args) {
        threeHundredYears();
        theYearGoesOn();
        twelveStones();
        setInTheYear();
        notBehindTheYear();
        notBeforeItWasSet();
        sixtyTellings();
        toldInKOrBefore();
        happenedInYOrBefore();
        theLatest();
        severalInOneYear();
        nothingWasTold();
        lostIsNowhere();
        setBehind();
        twentyWitnesses();
        sevenOrMore();
        notBeforeThatYear();
        notEightyOrMore();
        yearsCalls();
        stoneCalls();
        movedCalls();
        lostCalls();
        whereCalls();
        witnessCalls();
        rememberCalls();
        Checks.end("StoneEdgesTest");
    }

    // ---- years

    private static void threeHundredYears() {
        Checks.sentence("YEARS are 0 .. 300");
        Checks.bounds("agree", 0, 300, year -> rich().agree(0, 1, year, 0, 0, 1));
        Checks.bounds("owner", 0, 300, year -> rich().owner(0, 0, year));
        Checks.bounds("quarrel", 0, 300, year -> rich().quarrel(year));
        Checks.bounds("moved, in year 300", 0, 300, year -> old().moved(0, year, 0, 0));
        Checks.bounds("lost, in year 300", 0, 300, year -> old().lost(0, year));
        Checks.bounds("where", 0, 300, year -> rich().where(0, year, 0));
        Checks.bounds("where, as known", 0, 300, known -> rich().where(0, 0, known));
        Checks.bounds("witness", 0, 300, born -> rich().witness(born));
        Checks.bounds("remember", 0, 300, year -> rich().remember(year, 300));
        Checks.bounds("remember, when", 0, 300, when -> rich().remember(0, when));
        Checks.bounds("law", 0, 300, year -> rich().law(0, year, 0));
        Checks.bounds("whose", 0, 300, year -> rich().whose(0, 0, year));
    }

    private static void theYearGoesOn() {
        Checks.sentence("THE YEAR is 0 at first and goes on.");
        BoundWalks land = new BoundWalks();
        Checks.due("at first", land.count(1), 0);
        for (int year = 1; year <= 300; year++) {
            Checks.due("a year more", land.years(1), year);
        }
        Checks.due("the last", land.count(1), 300);
        Checks.due("it goes no further", land.years(1), BAD);
    }

    // ---- stones

    private static void twelveStones() {
        Checks.sentence("STONES are numbered from 0, 12 at most");
        BoundWalks land = new BoundWalks();
        for (int number = 0; number < 12; number++) {
            Checks.due("not yet", land.where(number, 0, 0), BAD);
            Checks.due("its number", land.stone(number, 12 - number), number);
            Checks.due("now", land.where(number, 0, 0), 100 * number + 12 - number);
        }
        Checks.due("a thirteenth", land.stone(0, 0), FULL);
        land.lost(3, 0);
        Checks.due("a stone that is lost leaves no room", land.stone(0, 0), FULL);
        Checks.due("there is no stone 12", land.where(12, 0, 0), BAD);
        Checks.due("twelve are there", land.count(2), 12);
        Checks.due("the last is where it was", land.where(11, 0, 0), 1101);
    }

    private static void setInTheYear() {
        Checks.sentence("each SET at a POINT in THE YEAR.");
        int[] years = {0, 1, 150, 299, 300};
        for (int year : years) {
            BoundWalks land = new BoundWalks();
            Checks.goTo(land, year);
            land.stone(12, 12);
            Checks.due("from its year on", land.where(0, year, year), 1212);
            Checks.due("up to the last", land.where(0, 300, 300), 1212);
            if (year > 0) {
                Checks.due("not in the year before", land.where(0, year - 1, 300), NONE);
                Checks.due("not known in the year before", land.where(0, 300, year - 1), NONE);
            }
        }
    }

    private static void notBehindTheYear() {
        Checks.sentence("in a year (not behind THE YEAR");
        for (int year = 0; year <= 300; year += 50) {
            BoundWalks land = new BoundWalks();
            land.stone(0, 0);
            Checks.goTo(land, year);
            Checks.due("moved in the next year", land.moved(0, year + 1, 0, 0), BAD);
            Checks.due("lost in the next year", land.lost(0, year + 1), BAD);
            Checks.due("moved in THE YEAR", land.moved(0, year, 0, 0), 1);
            Checks.due("lost in THE YEAR", land.lost(0, year), 1);
        }
    }

    private static void notBeforeItWasSet() {
        Checks.sentence("not before it was SET)");
        for (int year = 0; year <= 300; year += 50) {
            BoundWalks land = new BoundWalks();
            land.stone(0, 0);
            Checks.goTo(land, year);
            land.stone(0, 0);
            Checks.due("moved in the year before", land.moved(1, year - 1, 0, 0), BAD);
            Checks.due("lost in the year before", land.lost(1, year - 1), BAD);
            Checks.due("moved in the year", land.moved(1, year, 0, 0), 1);
            Checks.due("lost in the year", land.lost(1, year), 1);
            Checks.due("an older stone", land.moved(0, 0, 0, 0), 1);
        }
    }

    private static void sixtyTellings() {
        Checks.sentence("(60 such at most in all)");
        int[] losses = {0, 1, 30, 59, 60};
        for (int lost : losses) {
            BoundWalks land = new BoundWalks();
            land.stone(0, 0);
            land.stone(0, 0);
            for (int i = 0; i < 60; i++) {
                Checks.due("so many so far", land.count(3), i);
                Checks.due("one more", i < lost ? land.lost(i % 2, 0) : land.moved(i % 2, 0, 1, 1), 1);
            }
            Checks.due("moved, FULL", land.moved(0, 0, 2, 2), FULL);
            Checks.due("lost, FULL", land.lost(0, 0), FULL);
            Checks.due("the other stone, FULL", land.moved(1, 0, 2, 2), FULL);
            land.stone(5, 5);
            Checks.due("a new stone, FULL", land.lost(2, 0), FULL);
            Checks.due("sixty are there", land.count(3), 60);
            Checks.due("the last that was told holds", land.where(0, 0, 0), lost >= 59 ? NONE : 101);
        }
    }

    private static void toldInKOrBefore() {
        Checks.sentence("by what was told in k or before");
        BoundWalks land = new BoundWalks();
        land.stone(1, 1);
        land.moved(0, 0, 2, 2);
        Checks.goTo(land, 10);
        land.moved(0, 0, 3, 3);
        Checks.goTo(land, 300);
        land.lost(0, 0);
        int[] known = {0, 9, 10, 299, 300};
        int[] want = {202, 202, 303, 303, NONE};
        for (int i = 0; i < known.length; i++) {
            Checks.due("year 0 as known in " + known[i], land.where(0, 0, known[i]), want[i]);
            Checks.due("year 300 as known in " + known[i], land.where(0, 300, known[i]), want[i]);
        }
    }

    private static void happenedInYOrBefore() {
        Checks.sentence("of that which happened in y or before");
        BoundWalks land = new BoundWalks();
        land.stone(1, 1);
        Checks.goTo(land, 300);
        land.moved(0, 1, 2, 2);
        land.moved(0, 299, 3, 3);
        land.moved(0, 300, 4, 4);
        int[] years = {0, 1, 2, 298, 299, 300};
        int[] want = {101, 202, 202, 202, 303, 404};
        for (int i = 0; i < years.length; i++) {
            Checks.due("year " + years[i], land.where(0, years[i], 300), want[i]);
        }
    }

    private static void theLatest() {
        Checks.sentence("of that which happened in y or before the latest");
        BoundWalks land = new BoundWalks();
        land.stone(1, 1);
        land.years(50);
        land.moved(0, 50, 2, 2);
        land.years(1);
        land.moved(0, 49, 3, 3);
        land.years(1);
        land.lost(0, 48);
        Checks.due("the latest was told first", land.where(0, 300, 300), 202);
        Checks.due("its own year", land.where(0, 50, 300), 202);
        Checks.due("the year before it", land.where(0, 49, 300), 303);
        Checks.due("two years before it", land.where(0, 48, 300), NONE);
        Checks.due("three years before it", land.where(0, 47, 300), 101);
        Checks.due("the latest is not lost", land.see(0), 52);
    }

    private static void severalInOneYear() {
        Checks.sentence("of several that told last");
        BoundWalks land = new BoundWalks();
        land.stone(1, 1);
        land.stone(9, 9);
        land.years(7);
        for (int i = 0; i <= 12; i++) {
            land.moved(0, 3, i, 12 - i);
            Checks.due("told " + (2 * i + 1), land.where(0, 3, 7), 100 * i + 12 - i);
            land.lost(0, 3);
            Checks.due("told " + (2 * i + 2), land.where(0, 3, 7), NONE);
        }
        Checks.due("the other stone", land.where(1, 3, 7), 909);
        land.years(1);
        land.moved(0, 3, 6, 6);
        Checks.due("told in a later year", land.where(0, 3, 8), 606);
        Checks.due("as known before", land.where(0, 3, 7), NONE);
    }

    private static void nothingWasTold() {
        Checks.sentence("at its POINT (that at which it was SET, if nothing was told)");
        int[][] points = {{0, 0}, {12, 0}, {0, 12}, {12, 12}};
        BoundWalks land = new BoundWalks();
        for (int[] point : points) {
            int stone = land.stone(point[0], point[1]);
            Checks.due("a corner", land.where(stone, 0, 0), 100 * point[0] + point[1]);
        }
        land.years(1);
        land.moved(0, 1, 6, 6);
        Checks.due("nothing was told of year 0", land.where(0, 0, 1), 0);
        Checks.due("nothing was told in year 0", land.where(0, 1, 0), 0);
        Checks.due("nothing was told of another stone", land.where(1, 1, 1), 1200);
    }

    private static void lostIsNowhere() {
        Checks.sentence("LOST: nowhere");
        BoundWalks land = new BoundWalks();
        land.stone(4, 5);
        land.years(2);
        land.lost(0, 1);
        Checks.due("before", land.where(0, 0, 2), 405);
        Checks.due("in its year", land.where(0, 1, 2), NONE);
        Checks.due("after", land.where(0, 300, 300), NONE);
        Checks.due("lost once more", land.lost(0, 2), 1);
        Checks.due("lost twice", land.where(0, 2, 2), NONE);
        Checks.due("set anew", land.moved(0, 2, 0, 0), 1);
        Checks.due("at (0, 0), which is somewhere", land.where(0, 2, 2), 0);
        Checks.due("nowhere between", land.where(0, 1, 2), NONE);
    }

    private static void setBehind() {
        Checks.sentence("SET behind y or k: nowhere.");
        BoundWalks land = new BoundWalks();
        Checks.goTo(land, 20);
        land.stone(4, 5);
        Checks.goTo(land, 30);
        land.moved(0, 20, 6, 7);
        Checks.due("behind y", land.where(0, 19, 300), NONE);
        Checks.due("behind k", land.where(0, 300, 19), NONE);
        Checks.due("behind both", land.where(0, 19, 19), NONE);
        Checks.due("behind neither", land.where(0, 20, 20), 405);
        Checks.due("y its year, k later", land.where(0, 20, 30), 607);
        Checks.due("y later, k its year", land.where(0, 30, 20), 405);
        Checks.due("the ends", land.where(0, 0, 0), NONE);
        Checks.due("it is seen", land.see(0), 10);
        Checks.due("seen behind y and k, but not set", land.where(0, 20, 20), 405);
        Checks.due("seen behind y, but not set", land.where(0, 20, 30), 607);
        Checks.due("seen behind k, but not set", land.where(0, 30, 20), 405);
        Checks.due("told of a year before it was seen", land.lost(0, 20), 1);
    }

    // ---- witnesses

    private static void twentyWitnesses() {
        Checks.sentence("WITNESSES (20 at most) were BORN in a year (0 .. 300)");
        BoundWalks land = new BoundWalks();
        for (int number = 0; number < 20; number++) {
            Checks.due("its number", land.witness(100), number);
            Checks.due("all remember", land.remember(107, 107), number + 1);
        }
        Checks.due("a twenty-first", land.witness(100), FULL);
        Checks.due("a twenty-first, born in 0", land.witness(0), FULL);
        Checks.due("twenty are there", land.count(4), 20);
        Checks.due("twenty remember", land.remember(107, 107), 20);
        Checks.due("the refused one does not", land.remember(7, 7), 0);
        Checks.bounds("witness: born", 0, 300, born -> new BoundWalks().witness(born));
        Checks.due("born behind THE YEAR", new BoundWalks().witness(300), 0);
    }

    private static void sevenOrMore() {
        Checks.sentence("if y is 7 or more behind its birth");
        int[] births = {0, 1, 100, 293, 294, 300};
        for (int born : births) {
            for (int year = Math.max(0, born - 1); year <= Math.min(300, born + 9); year++) {
                Checks.due("born " + born + ", year " + year, bornIn(born).remember(year, year), year - born >= 7 ? 1 : 0);
            }
        }
    }

    private static void notBeforeThatYear() {
        Checks.sentence("k not before y");
        BoundWalks land = bornIn(100);
        Checks.due("the year before", land.remember(120, 119), 0);
        Checks.due("the year itself", land.remember(120, 120), 1);
        Checks.due("the year after", land.remember(120, 121), 1);
        Checks.due("the ends, falling", land.remember(300, 0), 0);
        Checks.due("the ends, growing", land.remember(0, 300), 0);
    }

    private static void notEightyOrMore() {
        Checks.sentence("and not 80 or more behind its birth.");
        int[] births = {0, 1, 220, 221, 222};
        for (int born : births) {
            for (int when = born + 78; when <= Math.min(300, born + 82); when++) {
                int want = when - born < 80 ? 1 : 0;
                Checks.due("born " + born + ", in " + when, bornIn(born).remember(born + 7, when), want);
                Checks.due("born " + born + ", in " + when + " of that year", bornIn(born).remember(when, when), want);
            }
        }
    }

    // ---- the calls, one by one

    private static void yearsCalls() {
        Checks.sentence("THE YEAR goes on by n (1 .. 50; 300 at most): THE YEAR. BAD.");
        Checks.bounds("years: n", 1, 50, n -> new BoundWalks().years(n));
        for (int n = 1; n <= 50; n++) {
            BoundWalks land = new BoundWalks();
            Checks.goTo(land, 300 - n);
            if (n < 50) {
                Checks.due("one beyond 300", land.years(n + 1), BAD);
            }
            Checks.due("THE YEAR stays", land.count(1), 300 - n);
            Checks.due("up to 300", land.years(n), 300);
            Checks.due("no further", land.years(1), BAD);
            Checks.due("no further by 50", land.years(50), BAD);
            Checks.due("not by 0", land.years(0), BAD);
            Checks.due("300", land.count(1), 300);
        }
    }

    private static void stoneCalls() {
        Checks.sentence("A STONE is SET: its number. BAD; FULL.");
        BoundWalks land = new BoundWalks();
        Checks.due("no point", land.stone(0, 13), BAD);
        for (int number = 0; number < 12; number++) {
            Checks.due("its number", land.stone(12, 0), number);
        }
        Checks.due("FULL", land.stone(12, 0), FULL);
        Checks.due("no point, and FULL", land.stone(13, 0), BAD);
        Checks.due("no point, and FULL", land.stone(0, -1), BAD);
    }

    private static void movedCalls() {
        Checks.sentence("A STONE was MOVED to, or SET ANEW at a POINT in a year: 1. "
            + "BAD: also a year before it was SET, or behind THE YEAR; FULL.");
        Checks.bounds("moved: year", 5, 9, year -> setInFiveToldInNine().moved(0, year, 12, 12));
        Checks.bounds("moved: stone", 0, 0, stone -> setInFiveToldInNine().moved(stone, 7, 12, 12));
        Checks.bounds("moved: stone of twelve", 0, 11, stone -> full().moved(stone, 0, 12, 12));
        BoundWalks land = setInFiveToldInNine();
        for (int i = 0; i < 60; i++) {
            Checks.due("told " + i, land.moved(0, 5 + i % 5, i % 13, 12), 1);
        }
        Checks.due("FULL", land.moved(0, 5, 0, 0), FULL);
        Checks.due("no stone, and FULL", land.moved(1, 5, 0, 0), BAD);
        Checks.due("before it was set, and FULL", land.moved(0, 4, 0, 0), BAD);
        Checks.due("behind THE YEAR, and FULL", land.moved(0, 10, 0, 0), BAD);
        Checks.due("no point, and FULL", land.moved(0, 5, 13, 0), BAD);
        Checks.due("no point, and FULL", land.moved(0, 5, 0, 13), BAD);
        BoundWalks other = setInFiveToldInNine();
        other.stone(0, 0);
        Checks.due("each stone has a year of its own", other.moved(1, 8, 0, 0), BAD);
        Checks.due("each stone has a year of its own", other.moved(1, 9, 0, 0), 1);
        Checks.due("moved to where it is", other.moved(1, 9, 0, 0), 1);
    }

    private static void lostCalls() {
        Checks.sentence("A STONE was LOST in a year: 1. BAD (as moved()); FULL.");
        Checks.bounds("lost: year", 5, 9, year -> setInFiveToldInNine().lost(0, year));
        Checks.bounds("lost: stone", 0, 0, stone -> setInFiveToldInNine().lost(stone, 7));
        Checks.bounds("lost: stone of twelve", 0, 11, stone -> full().lost(stone, 0));
        BoundWalks land = setInFiveToldInNine();
        for (int i = 0; i < 60; i++) {
            Checks.due("told " + i, land.lost(0, 5 + i % 5), 1);
        }
        Checks.due("FULL", land.lost(0, 5), FULL);
        Checks.due("no stone, and FULL", land.lost(1, 5), BAD);
        Checks.due("before it was set, and FULL", land.lost(0, 4), BAD);
        Checks.due("behind THE YEAR, and FULL", land.lost(0, 10), BAD);
    }

    private static void whereCalls() {
        Checks.sentence("WHERE was a STONE: 100 x and y; NONE: nowhere. BAD.");
        for (int x = 0; x <= 12; x++) {
            for (int y = 0; y <= 12; y++) {
                BoundWalks land = new BoundWalks();
                land.stone(x, y);
                land.stone(12 - x, 12 - y);
                land.moved(1, 0, x, y);
                Checks.due("set", land.where(0, 0, 0), 100 * x + y);
                Checks.due("moved", land.where(1, 0, 0), 100 * x + y);
            }
        }
        Checks.bounds("where: stone", 0, 0, stone -> setInFiveToldInNine().where(stone, 7, 7));
        Checks.bounds("where: stone of twelve", 0, 11, stone -> full().where(stone, 0, 0));
        Checks.bounds("where: year", 0, 300, year -> setInFiveToldInNine().where(0, year, 9));
        Checks.bounds("where: known", 0, 300, known -> setInFiveToldInNine().where(0, 9, known));
        Checks.due("nowhere", setInFiveToldInNine().where(0, 4, 4), NONE);
        Checks.due("no year, and nowhere", setInFiveToldInNine().where(0, 301, 4), BAD);
        Checks.due("no year known, and nowhere", setInFiveToldInNine().where(0, 4, 301), BAD);
        Checks.due("a year behind THE YEAR is no refusal", setInFiveToldInNine().where(0, 10, 10), 304);
    }

    private static void witnessCalls() {
        Checks.sentence("A WITNESS: its number. BAD; FULL.");
        BoundWalks land = new BoundWalks();
        Checks.due("born before all years", land.witness(-1), BAD);
        Checks.due("born behind all years", land.witness(301), BAD);
        for (int number = 0; number < 20; number++) {
            Checks.due("its number", land.witness(number == 0 ? 0 : 300), number);
        }
        Checks.due("FULL", land.witness(0), FULL);
        Checks.due("no year, and FULL", land.witness(-1), BAD);
        Checks.due("no year, and FULL", land.witness(301), BAD);
    }

    private static void rememberCalls() {
        Checks.sentence("How many WITNESSES REMEMBER a year in another one. BAD.");
        Checks.bounds("remember: year", 0, 300, year -> bornIn(0).remember(year, 0));
        Checks.bounds("remember: when", 0, 300, when -> bornIn(0).remember(300, when));
        Checks.due("no witness", new BoundWalks().remember(0, 0), 0);
        BoundWalks land = new BoundWalks();
        for (int i = 0; i < 20; i++) {
            land.witness(i);
        }
        for (int year = 0; year <= 40; year++) {
            Checks.due("of births 0 to 19, year " + year, land.remember(year, year), Math.max(0, Math.min(20, year - 6)));
        }
        for (int when = 60; when <= 110; when++) {
            Checks.due("of births 0 to 19, in " + when, land.remember(26, when), Math.max(0, Math.min(20, 99 - when)));
        }
    }

    // ---- lands to ask

    private static BoundWalks bornIn(int year) {
        BoundWalks land = new BoundWalks();
        land.witness(year);
        return land;
    }

    /** Two parishes, a stone and a house. */
    private static BoundWalks rich() {
        BoundWalks land = new BoundWalks();
        land.parish(0, 0);
        land.parish(0, 0);
        land.stone(0, 0);
        land.house(0, 0, 1, 1, 0, 0, 0, 0);
        return land;
    }

    /** A stone of year 0, in year 300. */
    private static BoundWalks old() {
        BoundWalks land = new BoundWalks();
        land.stone(0, 0);
        Checks.goTo(land, 300);
        return land;
    }

    private static BoundWalks setInFiveToldInNine() {
        BoundWalks land = new BoundWalks();
        land.years(5);
        land.stone(3, 4);
        land.years(4);
        return land;
    }

    private static BoundWalks full() {
        BoundWalks land = new BoundWalks();
        for (int i = 0; i < 12; i++) {
            land.stone(0, 0);
        }
        return land;
    }
}
