import java.util.Arrays;
import java.util.Random;

/** Runs of 512 calls on new objects, each answer against PlainModel's; the seeds are fixed. */
public final class PlainModelTest {
    private static final int RUNS = 600, CALLS = 512;
    private static final int[] WILD = {Integer.MIN_VALUE, Integer.MIN_VALUE + 1, -300, -1, 13, 301, Integer.MAX_VALUE};

    // How often a call is drawn, and the bounds of its arguments, a letter each: see draw().
    private static final String[][] CALL_KINDS = {
        {"parish", "1", "oo"}, {"leg", "12", "pdll"}, {"unleg", "2", "p"}, {"length", "8", "pi"}, {"area", "4", "p"},
        {"claims", "6", "ff"}, {"agree", "3", "ppyffp"}, {"owner", "6", "ffy"}, {"quarrel", "1", "y"},
        {"years", "3", "n"}, {"stone", "2", "oo"}, {"moved", "4", "stoo"}, {"lost", "2", "st"},
        {"where", "8", "stt"}, {"witness", "1", "y"}, {"remember", "3", "yy"}, {"house", "2", "ffwwffff"},
        {"law", "1", "uyb"}, {"whose", "5", "huy"}, {"see", "4", "s"}, {"gap", "1", "g"}, {"due", "3", ""},
        {"round", "4", "rm"}, {"count", "2", "c"},
    };

    public static void main(String[] args) {
        for (int run = 0; run < RUNS; run++) {
            play(run);
        }
        Checks.end("PlainModelTest");
    }

    private static void play(int run) {
        Random random = new Random(run);
        BoundWalks land = new BoundWalks();
        PlainModel model = new PlainModel();
        int wildness = run % 4 == 0 ? 10 : 200;
        boolean slowYears = run % 3 != 0;
        for (int i = 0; i < CALLS; i++) {
            String[] kind = pick(random);
            int[] a = arguments(random, kind, wildness);
            if (kind[0].equals("years") && slowYears) {
                a[0] = Math.min(a[0], 3);
            }
            ask(run, i, land, model, kind[0], a);
            if (kind[0].equals("leg") && random.nextInt(3) == 0) {
                i = goBack(run, i, land, model, random);
            }
        }
    }

    private static void ask(int run, int i, BoundWalks land, PlainModel model, String name, int[] a) {
        Checks.due("run " + run + ", call " + i + ": " + name + Arrays.toString(a), call(land, name, a),
            model.call(name, a));
    }

    /** Legs that lead around, since legs drawn at random seldom close a walk. */
    private static int goBack(int run, int i, BoundWalks land, PlainModel model, Random random) {
        int parish = random.nextInt(4);
        int first = random.nextInt(4);
        int turn = random.nextBoolean() ? 1 : 3;
        int next = i;
        for (int leg = 0; leg < 4 && next + 1 < CALLS; leg++) {
            int low = 1 + random.nextInt(6);
            int high = Math.min(12, low + random.nextInt(6));
            next++;
            ask(run, next, land, model, "leg", new int[] {parish, (first + leg * turn) % 4, low, high});
        }
        return next;
    }

    private static String[] pick(Random random) {
        int all = 0;
        for (String[] kind : CALL_KINDS) {
            all += Integer.parseInt(kind[1]);
        }
        int at = random.nextInt(all);
        for (String[] kind : CALL_KINDS) {
            at -= Integer.parseInt(kind[1]);
            if (at < 0) {
                return kind;
            }
        }
        return CALL_KINDS[0];
    }

    private static int[] arguments(Random random, String[] kind, int wildness) {
        int[] a = new int[kind[2].length()];
        for (int i = 0; i < a.length; i++) {
            boolean wild = random.nextInt(wildness) == 0;
            a[i] = wild ? WILD[random.nextInt(WILD.length)] : draw(random, kind[2].charAt(i));
        }
        if (kind[0].equals("leg") && random.nextInt(10) != 0) {
            int low = Math.min(a[2], a[3]);
            a[3] = Math.max(a[2], a[3]);
            a[2] = low;
        }
        if (kind[0].equals("house") && random.nextInt(10) != 0) {
            placeWithin(random, a);
        }
        if (kind[0].equals("agree") && random.nextInt(10) != 0) {
            a[5] = random.nextBoolean() ? a[0] : a[1];
        }
        return a;
    }

    private static void placeWithin(Random random, int[] a) {
        for (int i = 4; i < 8; i++) {
            int size = Math.max(1, Math.min(4, a[2 + i % 2]));
            a[i] = a[i % 2] + random.nextInt(size);
        }
    }

    private static int draw(Random random, char bounds) {
        switch (bounds) {
            case 'o': return random.nextInt(13);
            case 'p': return random.nextInt(4);
            case 'd': return random.nextInt(4);
            case 'l': return 1 + random.nextInt(random.nextBoolean() ? 4 : 12);
            case 'i': return random.nextInt(12);
            case 'f': return random.nextBoolean() ? random.nextInt(12) : 4 + random.nextInt(4);
            case 'y': return random.nextBoolean() ? random.nextInt(301) : random.nextInt(20);
            case 't': return random.nextInt(4) == 0 ? random.nextInt(301) : random.nextInt(40);
            case 'n': return 1 + random.nextInt(random.nextInt(10) == 0 ? 50 : 6);
            case 's': return random.nextInt(random.nextBoolean() ? 12 : 4);
            case 'w': return 1 + random.nextInt(4);
            case 'u': return random.nextInt(4);
            case 'b': return random.nextInt(3);
            case 'h': return random.nextInt(6);
            case 'g': return 1 + random.nextInt(20);
            case 'r': return 1 + random.nextInt(30);
            case 'm': return 1 + random.nextInt(random.nextBoolean() ? 3 : 12);
            case 'c': return random.nextInt(8);
            default: throw new IllegalArgumentException();
        }
    }

    private static int call(BoundWalks x, String name, int[] a) {
        switch (name) {
            case "parish": return x.parish(a[0], a[1]);
            case "leg": return x.leg(a[0], a[1], a[2], a[3]);
            case "unleg": return x.unleg(a[0]);
            case "length": return x.length(a[0], a[1]);
            case "area": return x.area(a[0]);
            case "claims": return x.claims(a[0], a[1]);
            case "agree": return x.agree(a[0], a[1], a[2], a[3], a[4], a[5]);
            case "owner": return x.owner(a[0], a[1], a[2]);
            case "quarrel": return x.quarrel(a[0]);
            case "years": return x.years(a[0]);
            case "stone": return x.stone(a[0], a[1]);
            case "moved": return x.moved(a[0], a[1], a[2], a[3]);
            case "lost": return x.lost(a[0], a[1]);
            case "where": return x.where(a[0], a[1], a[2]);
            case "witness": return x.witness(a[0]);
            case "remember": return x.remember(a[0], a[1]);
            case "house": return x.house(a[0], a[1], a[2], a[3], a[4], a[5], a[6], a[7]);
            case "law": return x.law(a[0], a[1], a[2]);
            case "whose": return x.whose(a[0], a[1], a[2]);
            case "see": return x.see(a[0]);
            case "gap": return x.gap(a[0]);
            case "due": return x.due();
            case "round": return x.round(a[0], a[1]);
            case "count": return x.count(a[0]);
            default: throw new IllegalArgumentException(name);
        }
    }
}
