/** Promises 11 to 17: years, stones and what is told of them, witnesses. */
public final class StonesTest {
    private static final int NONE = BoundWalks.NONE, BAD = BoundWalks.BAD, NOT = BoundWalks.NOT, FULL = BoundWalks.FULL;
    private static final int[] WILD = {Integer.MIN_VALUE, -1000, -1, 1000, Integer.MAX_VALUE};

    public static void main(String[] args) {
        years();
        stones();
        moved();
        lost();
        whereByYear();
        whereAsKnown();
        whereBounds();
        tellingsFill();
        witnesses();
        remembers();
        Checks.end("StonesTest");
    }

    private static void years() {
        BoundWalks land = new BoundWalks();
        Checks.due("P11 0", land.years(0), BAD);
        Checks.due("P11 51", land.years(51), BAD);
        for (int wild : WILD) {
            Checks.due("P11 wild", land.years(wild), BAD);
        }
        Checks.due("P11 nothing changed", land.count(1), 0);
        Checks.due("P11 1", land.years(1), 1);
        for (int year = 51; year < 300; year += 50) {
            Checks.due("P11 50 more", land.years(50), year);
        }
        Checks.due("P11 beyond 300", land.years(50), BAD);
        Checks.due("P11 nothing changed", land.count(1), 251);
        Checks.due("P11 up to 300", land.years(49), 300);
        Checks.due("P11 one beyond 300", land.years(1), BAD);
        Checks.due("P11 the year", land.count(1), 300);
    }

    private static void stones() {
        BoundWalks land = new BoundWalks();
        Checks.due("P12 x 13", land.stone(13, 0), BAD);
        Checks.due("P12 y 13", land.stone(0, 13), BAD);
        for (int wild : WILD) {
            Checks.due("P12 wild x", land.stone(wild, 0), BAD);
            Checks.due("P12 wild y", land.stone(0, wild), BAD);
        }
        Checks.due("P12 none is set", land.count(2), 0);
        for (int i = 0; i < 12; i++) {
            Checks.due("P12 its number", land.stone(12 - i, 12), i);
            land.years(1);
        }
        Checks.due("P12 a thirteenth", land.stone(0, 0), FULL);
        Checks.due("P12 a thirteenth at no point", land.stone(13, 0), BAD);
        Checks.due("P12 count(2)", land.count(2), 12);
        for (int i = 0; i < 12; i++) {
            Checks.due("P12 where it was set", land.where(i, 300, 300), 100 * (12 - i) + 12);
            Checks.due("P12 set in the year", land.where(i, i, i), 100 * (12 - i) + 12);
            Checks.due("P12 not before", i == 0 ? NONE : land.where(i, i - 1, 300), NONE);
            Checks.due("P12 seen when it was set", land.see(i), 12 - i);
        }
    }

    private static void moved() {
        BoundWalks land = new BoundWalks();
        Checks.due("P13 no stone", land.moved(0, 0, 0, 0), BAD);
        land.years(5);
        land.stone(1, 2);
        land.years(5);
        Checks.due("P13 before it was set", land.moved(0, 4, 0, 0), BAD);
        Checks.due("P13 behind the year", land.moved(0, 11, 0, 0), BAD);
        Checks.due("P13 x 13", land.moved(0, 5, 13, 0), BAD);
        Checks.due("P13 y 13", land.moved(0, 5, 0, 13), BAD);
        Checks.due("P13 stone 1", land.moved(1, 5, 0, 0), BAD);
        for (int wild : WILD) {
            Checks.due("P13 wild stone", land.moved(wild, 5, 0, 0), BAD);
            Checks.due("P13 wild year", land.moved(0, wild, 0, 0), BAD);
            Checks.due("P13 wild x", land.moved(0, 5, wild, 0), BAD);
            Checks.due("P13 wild y", land.moved(0, 5, 0, wild), BAD);
        }
        Checks.due("P13 nothing told", land.count(3), 0);
        Checks.due("P13 in the year it was set", land.moved(0, 5, 12, 0), 1);
        Checks.due("P13 in the year", land.moved(0, 10, 0, 12), 1);
        Checks.due("P13 told", land.count(3), 2);
        Checks.due("P13 first", land.where(0, 9, 10), 1200);
        Checks.due("P13 then", land.where(0, 10, 10), 12);
        land.lost(0, 10);
        Checks.due("P13 lost", land.where(0, 10, 10), NONE);
        Checks.due("P13 set anew", land.moved(0, 10, 3, 4), 1);
        Checks.due("P13 where", land.where(0, 10, 10), 304);
        Checks.due("P13 being moved or set anew is no seeing", land.see(0), 5);
    }

    private static void lost() {
        BoundWalks land = new BoundWalks();
        Checks.due("P14 no stone", land.lost(0, 0), BAD);
        land.years(5);
        land.stone(1, 2);
        land.stone(7, 7);
        land.years(5);
        Checks.due("P14 before it was set", land.lost(0, 4), BAD);
        Checks.due("P14 behind the year", land.lost(0, 11), BAD);
        Checks.due("P14 stone 2", land.lost(2, 5), BAD);
        for (int wild : WILD) {
            Checks.due("P14 wild stone", land.lost(wild, 5), BAD);
            Checks.due("P14 wild year", land.lost(0, wild), BAD);
        }
        Checks.due("P14 nothing told", land.count(3), 0);
        Checks.due("P14 in the year it was set", land.lost(0, 5), 1);
        Checks.due("P14 lost again", land.lost(0, 10), 1);
        Checks.due("P14 told", land.count(3), 2);
        Checks.due("P14 nowhere", land.where(0, 5, 10), NONE);
        Checks.due("P14 as known before", land.where(0, 10, 9), 102);
        Checks.due("P14 another stone", land.where(1, 10, 10), 707);
        Checks.due("P14 not to be seen", land.see(0), NOT);
    }

    private static void whereByYear() {
        BoundWalks land = new BoundWalks();
        land.stone(0, 0);
        land.years(40);
        land.moved(0, 30, 3, 0);
        land.moved(0, 10, 1, 0);
        land.lost(0, 20);
        Checks.due("P15 before all", land.where(0, 9, 300), 0);
        Checks.due("P15 the first", land.where(0, 10, 300), 100);
        Checks.due("P15 the first still", land.where(0, 19, 300), 100);
        Checks.due("P15 lost", land.where(0, 20, 300), NONE);
        Checks.due("P15 lost still", land.where(0, 29, 300), NONE);
        Checks.due("P15 told first, happened last", land.where(0, 30, 300), 300);
        Checks.due("P15 ever since", land.where(0, 300, 300), 300);
        land.moved(0, 30, 12, 12);
        Checks.due("P15 of one year, told last", land.where(0, 30, 300), 1212);
        land.moved(0, 29, 5, 5);
        Checks.due("P15 told last, but of an earlier year", land.where(0, 30, 300), 1212);
        Checks.due("P15 in that year", land.where(0, 29, 300), 505);
    }

    private static void whereAsKnown() {
        BoundWalks land = new BoundWalks();
        land.years(1);
        land.stone(0, 7);
        land.years(19);
        land.moved(0, 5, 1, 1);
        land.years(10);
        land.moved(0, 5, 2, 2);
        land.lost(0, 3);
        Checks.due("P15 set behind what is known", land.where(0, 300, 0), NONE);
        Checks.due("P15 set behind the year", land.where(0, 0, 300), NONE);
        Checks.due("P15 known when it was set", land.where(0, 300, 1), 7);
        Checks.due("P15 known before the first telling", land.where(0, 5, 19), 7);
        Checks.due("P15 known in its year", land.where(0, 5, 20), 101);
        Checks.due("P15 known before the next telling", land.where(0, 5, 29), 101);
        Checks.due("P15 known in the next one's year", land.where(0, 5, 30), 202);
        Checks.due("P15 between, known early", land.where(0, 4, 29), 7);
        Checks.due("P15 between, known late", land.where(0, 4, 30), NONE);
        Checks.due("P15 a year behind the one it is known in", land.where(0, 300, 20), 101);
    }

    private static void whereBounds() {
        BoundWalks land = new BoundWalks();
        Checks.due("P15 no stone", land.where(0, 0, 0), BAD);
        land.stone(4, 12);
        Checks.due("P15 stone", land.where(0, 0, 0), 412);
        Checks.due("P15 stone 1", land.where(1, 0, 0), BAD);
        Checks.due("P15 year 301", land.where(0, 301, 0), BAD);
        Checks.due("P15 known 301", land.where(0, 0, 301), BAD);
        for (int wild : WILD) {
            Checks.due("P15 wild stone", land.where(wild, 0, 0), BAD);
            Checks.due("P15 wild year", land.where(0, wild, 0), BAD);
            Checks.due("P15 wild known", land.where(0, 0, wild), BAD);
        }
    }

    private static void tellingsFill() {
        BoundWalks land = new BoundWalks();
        land.stone(0, 0);
        land.stone(0, 0);
        for (int i = 0; i < 60; i++) {
            int stone = i % 2;
            Checks.due("P13, P14 told", i % 3 == 0 ? land.lost(stone, 0) : land.moved(stone, 0, 1, i % 13), 1);
        }
        Checks.due("P13 FULL", land.moved(0, 0, 0, 0), FULL);
        Checks.due("P14 FULL", land.lost(1, 0), FULL);
        Checks.due("P13 BAD ahead of FULL", land.moved(0, 1, 0, 0), BAD);
        Checks.due("P14 BAD ahead of FULL", land.lost(0, 1), BAD);
        Checks.due("P13, P14 count(3)", land.count(3), 60);
        Checks.due("P15 the last but one", land.where(0, 0, 0), 100 + 58 % 13);
        Checks.due("P15 the last", land.where(1, 0, 0), 100 + 59 % 13);
    }

    private static void witnesses() {
        BoundWalks land = new BoundWalks();
        Checks.due("P16 born -1", land.witness(-1), BAD);
        Checks.due("P16 born 301", land.witness(301), BAD);
        for (int wild : WILD) {
            Checks.due("P16 wild", land.witness(wild), BAD);
        }
        Checks.due("P16 none", land.count(4), 0);
        for (int i = 0; i < 20; i++) {
            Checks.due("P16 its number", land.witness(i == 0 ? 0 : 300), i);
        }
        Checks.due("P16 FULL", land.witness(0), FULL);
        Checks.due("P16 BAD ahead of FULL", land.witness(301), BAD);
        Checks.due("P16 count(4)", land.count(4), 20);
    }

    private static void remembers() {
        BoundWalks land = new BoundWalks();
        Checks.due("P17 no witness", land.remember(7, 7), 0);
        Checks.due("P17 no witness", land.remember(100, 100), 0);
        land.witness(100);
        land.witness(103);
        land.witness(100);
        Checks.due("P17 six years old", land.remember(106, 110), 0);
        Checks.due("P17 seven years old", land.remember(107, 110), 2);
        Checks.due("P17 all", land.remember(110, 110), 3);
        Checks.due("P17 when is before the year", land.remember(110, 109), 0);
        Checks.due("P17 at 79", land.remember(110, 179), 3);
        Checks.due("P17 at 80", land.remember(110, 180), 1);
        Checks.due("P17 the youngest at 79", land.remember(110, 182), 1);
        Checks.due("P17 the youngest at 80", land.remember(110, 183), 0);
        Checks.due("P17 before all were born", land.remember(0, 150), 0);
        Checks.due("P17 the years' ends", land.remember(0, 300), 0);
        Checks.due("P17 year -1", land.remember(-1, 0), BAD);
        Checks.due("P17 year 301", land.remember(301, 300), BAD);
        Checks.due("P17 when 301", land.remember(300, 301), BAD);
        for (int wild : WILD) {
            Checks.due("P17 wild year", land.remember(wild, 0), BAD);
            Checks.due("P17 wild when", land.remember(0, wild), BAD);
        }
    }
}
