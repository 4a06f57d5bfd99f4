import java.util.function.IntUnaryOperator;

/** Counts the answers that are not as due, and ends a test with exit code 1 if there was one. */
final class Checks {
    private static int asked = 0;
    private static int wrong = 0;
    private static String sentence = "";
    private static int askedBefore = 0;

    private Checks() {
    }

    static void due(String call, long got, long want) {
        asked++;
        if (got != want) {
            wrong++;
            System.out.println(sentence + call + " answered " + got + ", due is " + want);
        }
    }

    static void holds(String what, boolean condition) {
        due(what, condition ? 1 : 0, 1);
    }

    /** Names the document's words that the answers to come are about; words without an answer count as wrong. */
    static void sentence(String words) {
        closeSentence();
        sentence = "\"" + words + "\": ";
        askedBefore = asked;
    }

    private static void closeSentence() {
        if (!sentence.isEmpty() && asked == askedBefore) {
            wrong++;
            System.out.println(sentence + "nothing was asked");
        }
        sentence = "";
    }

    static void end(String test) {
        closeSentence();
        System.out.println(test + ": " + asked + " answers, " + wrong + " of them not as due");
        if (wrong != 0) {
            System.exit(1);
        }
    }

    /** A number that a call takes from least to most and refuses beyond; the call is to make an object of its own. */
    static void bounds(String what, int least, int most, IntUnaryOperator call) {
        for (int v : beyond(least, most)) {
            due(what + " " + v, call.applyAsInt(v), BoundWalks.BAD);
        }
        for (int v = least; v <= most; v++) {
            holds(what + " " + v + " is taken", call.applyAsInt(v) >= BoundWalks.NONE);
        }
    }

    /** The numbers next to the bounds, the ends of int, and numbers that would fit if they were cut to a byte or a short. */
    static int[] beyond(int least, int most) {
        return new int[] {Integer.MIN_VALUE, Integer.MIN_VALUE + least, least - 65536, least - 1,
            most + 1, least + 65536, most + 65536, Integer.MAX_VALUE - most, Integer.MAX_VALUE};
    }

    /** THE YEAR goes on to the one given, by few calls. */
    static void goTo(BoundWalks land, int year) {
        for (int left = year - land.count(1); left > 0; left -= 50) {
            land.years(Math.min(50, left));
        }
    }

    /** Legs as triples direction, low, high. */
    static void legs(BoundWalks land, int parish, int... triples) {
        int before = legCount(land, parish);
        for (int i = 0; i + 2 < triples.length; i += 3) {
            due("leg " + i / 3, land.leg(parish, triples[i], triples[i + 1], triples[i + 2]), before + i / 3 + 1);
        }
    }

    /** A box of fields from the point (x, y), as a new parish. */
    static int box(BoundWalks land, int x, int y, int w, int h) {
        int parish = land.parish(x, y);
        legs(land, parish, 0, w, w, 1, h, h, 2, w, w, 3, h, h);
        return parish;
    }

    static void lengths(BoundWalks land, int parish, int... want) {
        for (int i = 0; i < want.length; i++) {
            due("length(" + parish + ", " + i + ")", land.length(parish, i), want[i]);
        }
        due("length behind the last leg", land.length(parish, want.length), BoundWalks.BAD);
    }

    private static int legCount(BoundWalks land, int parish) {
        int legs = 0;
        while (legs < 12 && land.length(parish, legs) != BoundWalks.BAD) {
            legs++;
        }
        return legs;
    }
}
