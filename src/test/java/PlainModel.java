import java.util.ArrayList;
import java.util.HashSet;
import java.util.List;
import java.util.Set;

/**
 * The document told a second time, as plainly and slowly as it reads: nothing is
 * kept that can be worked out, and lengths are found by trying them all.
 */
final class PlainModel {
    private static final int NONE = -1, BAD = -2, NOT = -3, FULL = -4;
    private static final int[] DX = {1, 0, -1, 0};
    private static final int[] DY = {0, 1, 0, -1};

    private final List<int[]> starts = new ArrayList<>();
    private final List<List<int[]>> walks = new ArrayList<>();
    private final List<int[]> agreements = new ArrayList<>();
    private final List<int[]> stones = new ArrayList<>();
    private final List<int[]> tellings = new ArrayList<>();
    private final List<Integer> witnesses = new ArrayList<>();
    private final List<int[]> houses = new ArrayList<>();
    private final List<int[]> laws = new ArrayList<>();
    private int year = 0;
    private int gap = 7;

    int call(String name, int[] a) {
        switch (name) {
            case "parish": return parish(a[0], a[1]);
            case "leg": return leg(a[0], a[1], a[2], a[3]);
            case "unleg": return unleg(a[0]);
            case "length": return length(a[0], a[1]);
            case "area": return area(a[0]);
            case "claims": return field(a[0], a[1]) ? claims(a[0], a[1]) : BAD;
            case "agree": return agree(a);
            case "owner": return field(a[0], a[1]) && in(a[2], 0, 300) ? owner(a[0], a[1], a[2]) : BAD;
            case "quarrel": return quarrel(a[0]);
            case "years": return years(a[0]);
            case "stone": return stone(a[0], a[1]);
            case "moved": return point(a[2], a[3]) ? told(a[0], a[1], 100 * a[2] + a[3]) : BAD;
            case "lost": return told(a[0], a[1], NONE);
            case "where": return where(a[0], a[1], a[2]);
            case "witness": return witness(a[0]);
            case "remember": return remember(a[0], a[1]);
            case "house": return house(a);
            case "law": return law(a);
            case "whose": return whose(a[0], a[1], a[2]);
            case "see": return see(a[0]);
            case "gap": return gap(a[0]);
            case "due": return due();
            case "round": return round(a[0], a[1]);
            case "count": return count(a[0]);
            default: throw new IllegalArgumentException(name);
        }
    }

    private static boolean in(int v, int least, int most) {
        return v >= least && v <= most;
    }

    private static boolean point(int x, int y) {
        return in(x, 0, 12) && in(y, 0, 12);
    }

    private static boolean field(int x, int y) {
        return in(x, 0, 11) && in(y, 0, 11);
    }

    private static <T> boolean has(List<T> list, int i) {
        return in(i, 0, list.size() - 1);
    }

    private static <T> int put(List<T> list, T item, int most) {
        if (list.size() == most) {
            return FULL;
        }
        list.add(item);
        return list.size() - 1;
    }

    private int parish(int x, int y) {
        if (!point(x, y)) {
            return BAD;
        }
        int number = put(starts, new int[] {x, y}, 4);
        if (number != FULL) {
            walks.add(new ArrayList<>());
        }
        return number;
    }

    private int leg(int parish, int direction, int low, int high) {
        if (!has(walks, parish) || !in(direction, 0, 3) || !in(low, 1, 12) || !in(high, 1, 12) || low > high) {
            return BAD;
        }
        int number = put(walks.get(parish), new int[] {direction, low, high}, 12);
        return number == FULL ? FULL : number + 1;
    }

    private int unleg(int parish) {
        if (!has(walks, parish)) {
            return BAD;
        }
        List<int[]> walk = walks.get(parish);
        if (walk.isEmpty()) {
            return NOT;
        }
        walk.remove(walk.size() - 1);
        return walk.size();
    }

    /** Tries every length in its order; what failed from a place once fails there again. */
    private boolean search(List<int[]> walk, int i, int x, int y, int[] lengths, Set<Long> failed) {
        if (i == walk.size()) {
            return x == 0 && y == 0;
        }
        long place = (i * 1000L + x + 500) * 1000L + y + 500;
        if (failed.contains(place)) {
            return false;
        }
        int[] leg = walk.get(i);
        for (int length = leg[1]; length <= leg[2]; length++) {
            lengths[i] = length;
            if (search(walk, i + 1, x + DX[leg[0]] * length, y + DY[leg[0]] * length, lengths, failed)) {
                return true;
            }
        }
        failed.add(place);
        return false;
    }

    private int[] lengths(int parish) {
        List<int[]> walk = walks.get(parish);
        int[] lengths = new int[walk.size()];
        return search(walk, 0, 0, 0, lengths, new HashSet<>()) ? lengths : null;
    }

    private int length(int parish, int i) {
        if (!has(walks, parish) || !has(walks.get(parish), i)) {
            return BAD;
        }
        int[] lengths = lengths(parish);
        return lengths == null ? NONE : lengths[i];
    }

    /** The points of the way, one step after the other; null if there is no ring. */
    private List<int[]> ring(int parish) {
        int[] lengths = lengths(parish);
        if (lengths == null) {
            return null;
        }
        List<int[]> ring = new ArrayList<>();
        int x = starts.get(parish)[0];
        int y = starts.get(parish)[1];
        ring.add(new int[] {x, y});
        for (int i = 0; i < lengths.length; i++) {
            int direction = walks.get(parish).get(i)[0];
            for (int step = 0; step < lengths[i]; step++) {
                x += DX[direction];
                y += DY[direction];
                if (!point(x, y)) {
                    return null;
                }
                ring.add(new int[] {x, y});
            }
        }
        return ring;
    }

    private static boolean inside(List<int[]> ring, int x, int y) {
        int met = 0;
        for (int i = 1; i < ring.size(); i++) {
            int[] from = ring.get(i - 1);
            int[] to = ring.get(i);
            boolean upright = from[0] == to[0];
            boolean sameRow = Math.min(from[1], to[1]) == y;
            if (upright && sameRow && from[0] <= x) {
                met++;
            }
        }
        return met % 2 == 1;
    }

    private int area(int parish) {
        if (!has(walks, parish)) {
            return BAD;
        }
        List<int[]> ring = ring(parish);
        if (ring == null) {
            return NONE;
        }
        int area = 0;
        for (int f = 0; f < 144; f++) {
            area += inside(ring, f % 12, f / 12) ? 1 : 0;
        }
        return area;
    }

    private int claims(int x, int y) {
        int bits = 0;
        for (int p = 0; p < walks.size(); p++) {
            List<int[]> ring = ring(p);
            if (ring != null && inside(ring, x, y)) {
                bits += 1 << p;
            }
        }
        return bits;
    }

    private int agree(int[] a) {
        if (!has(walks, a[0]) || !has(walks, a[1]) || a[0] == a[1] || !in(a[2], 0, 300) || !field(a[3], a[4])) {
            return BAD;
        }
        if (a[5] != a[0] && a[5] != a[1]) {
            return BAD;
        }
        return put(agreements, new int[] {a[2], a[3], a[4], a[5]}, 12);
    }

    private int owner(int x, int y, int when) {
        for (int from = when; from >= 0; from--) {
            for (int i = agreements.size() - 1; i >= 0; i--) {
                int[] agreement = agreements.get(i);
                if (agreement[0] == from && agreement[1] == x && agreement[2] == y) {
                    return agreement[3];
                }
            }
        }
        int claims = claims(x, y);
        return Integer.bitCount(claims) == 1 ? Integer.numberOfTrailingZeros(claims) : NONE;
    }

    private int quarrel(int when) {
        if (!in(when, 0, 300)) {
            return BAD;
        }
        int fields = 0;
        for (int f = 0; f < 144; f++) {
            boolean several = Integer.bitCount(claims(f % 12, f / 12)) > 1;
            fields += several && owner(f % 12, f / 12, when) == NONE ? 1 : 0;
        }
        return fields;
    }

    private int years(int n) {
        if (!in(n, 1, 50) || year + n > 300) {
            return BAD;
        }
        year += n;
        return year;
    }

    private int stone(int x, int y) {
        return point(x, y) ? put(stones, new int[] {year, 100 * x + y, year}, 12) : BAD;
    }

    private int told(int stone, int when, int point) {
        if (!has(stones, stone) || when < stones.get(stone)[0] || when > year) {
            return BAD;
        }
        return put(tellings, new int[] {stone, when, year, point}, 60) == FULL ? FULL : 1;
    }

    private int where(int stone, int when, int known) {
        if (!has(stones, stone) || !in(when, 0, 300) || !in(known, 0, 300)) {
            return BAD;
        }
        int set = stones.get(stone)[0];
        if (set > when || set > known) {
            return NONE;
        }
        for (int happened = when; happened >= set; happened--) {
            for (int i = tellings.size() - 1; i >= 0; i--) {
                int[] telling = tellings.get(i);
                if (telling[0] == stone && telling[1] == happened && telling[2] <= known) {
                    return telling[3];
                }
            }
        }
        return stones.get(stone)[1];
    }

    private int witness(int born) {
        return in(born, 0, 300) ? put(witnesses, born, 20) : BAD;
    }

    private int remember(int y, int k) {
        if (!in(y, 0, 300) || !in(k, 0, 300)) {
            return BAD;
        }
        int many = 0;
        for (int born : witnesses) {
            many += y >= born + 7 && k >= y && !(k >= born + 80) ? 1 : 0;
        }
        return many;
    }

    private int house(int[] a) {
        boolean good = field(a[0], a[1]) && in(a[2], 1, 4) && in(a[3], 1, 4);
        good = good && a[0] + a[2] <= 12 && a[1] + a[3] <= 12;
        good = good && in(a[4], a[0], a[0] + a[2] - 1) && in(a[5], a[1], a[1] + a[3] - 1);
        good = good && in(a[6], a[0], a[0] + a[2] - 1) && in(a[7], a[1], a[1] + a[3] - 1);
        return good ? put(houses, a.clone(), 6) : BAD;
    }

    private int law(int[] a) {
        return in(a[0], 0, 3) && in(a[1], 0, 300) && in(a[2], 0, 2) ? put(laws, a.clone(), 10) : BAD;
    }

    private int lawFor(int use, int when) {
        for (int from = when; from >= 0; from--) {
            for (int i = laws.size() - 1; i >= 0; i--) {
                if (laws.get(i)[0] == use && laws.get(i)[1] == from) {
                    return laws.get(i)[2];
                }
            }
        }
        return 0;
    }

    private int whose(int house, int use, int when) {
        if (!has(houses, house) || !in(use, 0, 3) || !in(when, 0, 300)) {
            return BAD;
        }
        int[] h = houses.get(house);
        int by = lawFor(use, when);
        int door = owner(h[4], h[5], when);
        if (by != 2) {
            return by == 0 ? door : owner(h[6], h[7], when);
        }
        int[] owned = new int[4];
        for (int f = 0; f < h[2] * h[3]; f++) {
            int owner = owner(h[0] + f % h[2], h[1] + f / h[2], when);
            if (owner != NONE) {
                owned[owner]++;
            }
        }
        for (int p = 0; p < 4; p++) {
            boolean mostOfAll = true;
            for (int q = 0; q < 4; q++) {
                mostOfAll &= q == p || owned[p] > owned[q];
            }
            if (mostOfAll) {
                return p;
            }
        }
        return door;
    }

    private boolean isLost(int stone) {
        return where(stone, year, year) == NONE;
    }

    private int see(int stone) {
        if (!has(stones, stone)) {
            return BAD;
        }
        if (isLost(stone)) {
            return NOT;
        }
        int ago = year - stones.get(stone)[2];
        stones.get(stone)[2] = year;
        return ago;
    }

    private int gap(int v) {
        if (!in(v, 1, 20)) {
            return BAD;
        }
        int was = gap;
        gap = v;
        return was;
    }

    private int due() {
        int bits = 0;
        for (int i = 0; i < stones.size(); i++) {
            bits += !isLost(i) && stones.get(i)[2] <= year - gap ? 1 << i : 0;
        }
        return bits;
    }

    private int round(int n, int m) {
        if (!in(n, 1, 30) || !in(m, 1, 12)) {
            return BAD;
        }
        List<int[]> order = new ArrayList<>();
        for (int i = 0; i < stones.size(); i++) {
            if (!isLost(i)) {
                order.add(new int[] {stones.get(i)[2], i});
            }
        }
        for (int when = year; when <= year + n - 1; when++) {
            order.sort((a, b) -> a[0] != b[0] ? Integer.compare(a[0], b[0]) : Integer.compare(a[1], b[1]));
            for (int i = 0; i < m && i < order.size(); i++) {
                order.get(i)[0] = when;
            }
            for (int[] stone : order) {
                if (when - stone[0] >= gap) {
                    return when;
                }
            }
        }
        return NONE;
    }

    private int count(int what) {
        int[] counts = {walks.size(), year, stones.size(), tellings.size(), witnesses.size(), houses.size(),
            agreements.size(), laws.size()};
        return in(what, 0, 7) ? counts[what] : BAD;
    }
}
