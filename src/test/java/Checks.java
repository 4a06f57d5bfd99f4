/** Counts the answers that are not as due, and ends a test with exit code 1 if there was one. */
final class Checks {
    private static int asked = 0;
    private static int wrong = 0;

    private Checks() {
    }

    static void due(String call, long got, long want) {
        asked++;
        if (got != want) {
            wrong++;
            System.out.println(call + " answered " + got + ", due is " + want);
        }
    }

    static void holds(String what, boolean condition) {
        due(what, condition ? 1 : 0, 1);
    }

    static void end(String test) {
        System.out.println(test + ": " + asked + " answers, " + wrong + " of them not as due");
        if (wrong != 0) {
            System.exit(1);
        }
    }

    /** Legs as triples direction, low, high. */
    static void legs(BoundWalks land, int parish, int... triples) {
        int before = legCount(land, parish);
        for (int i = 0; i + 2 < triples.length; i += 3) {
            due("leg " + i / 3, land.leg(parish, triples[i], triples[i + 1], triples[i + 2]), before + i / 3 + 1);
        }
    }

    /** A box of fields from the point (x, y), as a new parish. */
    static int box(BoundWalks land, int x, int y, int w, int h) {
        int parish = land.parish(x, y);
        legs(land, parish, 0, w, w, 1, h, h, 2, w, w, 3, h, h);
        return parish;
    }

    static void lengths(BoundWalks land, int parish, int... want) {
        for (int i = 0; i < want.length; i++) {
            due("length(" + parish + ", " + i + ")", land.length(parish, i), want[i]);
        }
        due("length behind the last leg", land.length(parish, want.length), BoundWalks.BAD);
    }

    private static int legCount(BoundWalks land, int parish) {
        int legs = 0;
        while (legs < 12 && land.length(parish, legs) != BoundWalks.BAD) {
            legs++;
        }
        return legs;
    }
}
