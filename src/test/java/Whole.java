import java.util.ArrayList;
import java.util.Arrays;
import java.util.List;
import java.util.function.Consumer;
import java.util.function.ToIntFunction;

/**
 * All that an object can be asked, so that two states can be held against each
 * other. An object is good for 512 calls alone, so the story that leads to the
 * state is told to a new object for each handful of questions.
 */
final class Whole {
    private static final int QUESTIONS_AT_ONCE = 150;
    private static final int[] YEARS = {0, 4, 5, 6, 9, 10, 11, 40, 299, 300};
    private static final List<ToIntFunction<BoundWalks>> QUESTIONS = questions();
    private static final List<ToIntFunction<BoundWalks>> PROBES = probes();

    private Whole() {
    }

    static int[] of(Consumer<BoundWalks> story) {
        int[] answers = new int[QUESTIONS.size() + PROBES.size()];
        BoundWalks land = null;
        for (int i = 0; i < QUESTIONS.size(); i++) {
            land = i % QUESTIONS_AT_ONCE == 0 ? told(story) : land;
            answers[i] = QUESTIONS.get(i).applyAsInt(land);
        }
        for (int i = 0; i < PROBES.size(); i++) {
            answers[QUESTIONS.size() + i] = PROBES.get(i).applyAsInt(told(story));
        }
        return answers;
    }

    /** Asks an object whatever changes nothing, from the question given on; as many as fit beside a story. */
    static int askFrom(BoundWalks land, int first) {
        int next = first;
        for (; next < QUESTIONS.size() && next < first + QUESTIONS_AT_ONCE; next++) {
            QUESTIONS.get(next).applyAsInt(land);
        }
        return next;
    }

    static int questionCount() {
        return QUESTIONS.size();
    }

    static boolean same(int[] one, int[] other) {
        return Arrays.equals(one, other);
    }

    private static BoundWalks told(Consumer<BoundWalks> story) {
        BoundWalks land = new BoundWalks();
        story.accept(land);
        return land;
    }

    private static List<ToIntFunction<BoundWalks>> questions() {
        List<ToIntFunction<BoundWalks>> all = new ArrayList<>();
        for (int i = 0; i < 8; i++) {
            int what = i;
            all.add(land -> land.count(what));
        }
        all.add(BoundWalks::due);
        for (int i = 1; i <= 12; i++) {
            int m = i;
            all.add(land -> land.round(30, m));
            all.add(land -> land.round(1, m));
        }
        for (int i = 0; i < 4 * 12; i++) {
            int parish = i / 12;
            int leg = i % 12;
            all.add(land -> land.length(parish, leg));
            all.add(land -> land.area(parish));
        }
        for (int i = 0; i < 144; i++) {
            int x = i % 12;
            int y = i / 12;
            all.add(land -> land.claims(x, y));
        }
        for (int year : YEARS) {
            askOfYear(all, year);
        }
        return all;
    }

    private static void askOfYear(List<ToIntFunction<BoundWalks>> all, int year) {
        all.add(land -> land.quarrel(year));
        for (int i = 0; i < 144; i++) {
            int x = i % 12;
            int y = i / 12;
            all.add(land -> land.owner(x, y, year));
        }
        for (int i = 0; i < 6 * 4; i++) {
            int house = i / 4;
            int use = i % 4;
            all.add(land -> land.whose(house, use, year));
        }
        for (int other : YEARS) {
            all.add(land -> land.remember(year, other));
            for (int i = 0; i < 12; i++) {
                int stone = i;
                all.add(land -> land.where(stone, year, other));
            }
        }
    }

    /** What only a change can tell: last seeings, the gap, and legs beyond those that have lengths. */
    private static List<ToIntFunction<BoundWalks>> probes() {
        List<ToIntFunction<BoundWalks>> all = new ArrayList<>();
        for (int i = 0; i < 12; i++) {
            int stone = i;
            all.add(land -> land.see(stone));
            all.add(land -> seeAnew(land, stone));
        }
        all.add(land -> land.gap(1));
        for (int i = 0; i < 4 * 13; i++) {
            int parish = i / 13;
            int gone = i % 13;
            all.add(land -> afterUnlegs(land, parish, gone));
        }
        return all;
    }

    /** A lost stone keeps its last seeing, which shows when it is set anew. */
    private static int seeAnew(BoundWalks land, int stone) {
        land.moved(stone, land.count(1), 0, 0);
        return land.see(stone);
    }

    private static int afterUnlegs(BoundWalks land, int parish, int gone) {
        int answer = 0;
        for (int i = 0; i < gone; i++) {
            answer = land.unleg(parish);
        }
        return answer * 1000 + land.area(parish);
    }
}
