/**
 * Parishes whose bounds are told as walks, the stones on those bounds, the
 * houses astride them and the witnesses who remember. The document's numbered
 * promises say what each call answers.
 */
public final class BoundWalks {
    public static final int NONE = -1, BAD = -2, NOT = -3, FULL = -4;

    private static final int SIDE = 12;
    private static final int WHOLE_ROW = (1 << SIDE) - 1;
    private static final int LAST_YEAR = 300;
    private static final int MOST_YEARS_ON = 50;
    private static final int MOST_PARISHES = 4;
    private static final int MOST_LEGS = 12;
    private static final int LONGEST_LEG = 12;
    private static final int LAST_DIRECTION = 3;
    private static final int MOST_AGREEMENTS = 12;
    private static final int MOST_STONES = 12;
    private static final int MOST_TELLINGS = 60;
    private static final int MOST_WITNESSES = 20;
    private static final int AGE_OF_MEMORY = 7;
    private static final int AGE_OF_DEATH = 80;
    private static final int MOST_HOUSES = 6;
    private static final int WIDEST_HOUSE = 4;
    private static final int MOST_LAWS = 10;
    private static final int LAST_USE = 3;
    private static final int BY_DOOR = 0;
    private static final int BY_HEARTH = 1;
    private static final int BY_GREATER_PART = 2;
    private static final int FIRST_GAP = 7;
    private static final int LONGEST_GAP = 20;
    private static final int LONGEST_ROUND = 30;

    private final Walk[] walks = new Walk[MOST_PARISHES];
    private int parishCount;
    private final Ledger agreements = new Ledger(MOST_AGREEMENTS);

    private int thisYear;
    private final int[] stonePoint = new int[MOST_STONES];
    private final int[] stoneSet = new int[MOST_STONES];
    private final int[] stoneSeen = new int[MOST_STONES];
    private int stoneCount;
    private final Ledger tellings = new Ledger(MOST_TELLINGS);
    private final int[] births = new int[MOST_WITNESSES];
    private int witnessCount;

    private final House[] houses = new House[MOST_HOUSES];
    private int houseCount;
    private final Ledger laws = new Ledger(MOST_LAWS);
    private int gapYears = FIRST_GAP;

    // Kept between calls only so that no call has to make a row of its own.
    private final int[] ownedFields = new int[MOST_PARISHES];
    private final int[] roundSeen = new int[MOST_STONES];

    public BoundWalks() {
    }

    // ---- walks

    public int parish(int x, int y) {
        if (!isPoint(x, y)) {
            return BAD;
        }
        if (parishCount >= MOST_PARISHES) {
            return FULL;
        }
        walks[parishCount] = new Walk(x, y);
        return parishCount++;
    }

    public int leg(int parish, int direction, int low, int high) {
        Walk walk = walkOf(parish);
        if (walk == null || !between(direction, 0, LAST_DIRECTION)
                || !between(low, 1, LONGEST_LEG) || !between(high, low, LONGEST_LEG)) {
            return BAD;
        }
        if (walk.legCount() >= MOST_LEGS) {
            return FULL;
        }
        walk.addLeg(direction, low, high);
        return walk.legCount();
    }

    public int unleg(int parish) {
        Walk walk = walkOf(parish);
        if (walk == null) {
            return BAD;
        }
        if (walk.legCount() == 0) {
            return NOT;
        }
        walk.dropLeg();
        return walk.legCount();
    }

    public int length(int parish, int i) {
        Walk walk = walkOf(parish);
        if (walk == null || !between(i, 0, walk.legCount() - 1)) {
            return BAD;
        }
        return walk.lengthOf(i);
    }

    public int area(int parish) {
        Walk walk = walkOf(parish);
        if (walk == null) {
            return BAD;
        }
        return walk.fieldsInside();
    }

    public int claims(int x, int y) {
        if (!isField(x, y)) {
            return BAD;
        }
        return claimsOf(fieldNumber(x, y));
    }

    public int agree(int one, int two, int year, int x, int y, int to) {
        if (!isParish(one) || !isParish(two) || one == two || (to != one && to != two)
                || !isYear(year) || !isField(x, y)) {
            return BAD;
        }
        if (agreements.isFull()) {
            return FULL;
        }
        return agreements.write(fieldNumber(x, y), year, thisYear, to);
    }

    public int owner(int x, int y, int year) {
        if (!isField(x, y) || !isYear(year)) {
            return BAD;
        }
        return ownerOf(fieldNumber(x, y), year);
    }

    public int quarrel(int year) {
        if (!isYear(year)) {
            return BAD;
        }
        int fields = 0;
        for (int field = 0; field < SIDE * SIDE; field++) {
            if (Integer.bitCount(claimsOf(field)) >= 2 && ownerOf(field, year) == NONE) {
                fields++;
            }
        }
        return fields;
    }

    // ---- years, stones

    public int years(int n) {
        if (!between(n, 1, MOST_YEARS_ON) || thisYear + n > LAST_YEAR) {
            return BAD;
        }
        thisYear += n;
        return thisYear;
    }

    public int stone(int x, int y) {
        if (!isPoint(x, y)) {
            return BAD;
        }
        if (stoneCount >= MOST_STONES) {
            return FULL;
        }
        stonePoint[stoneCount] = pointNumber(x, y);
        stoneSet[stoneCount] = thisYear;
        stoneSeen[stoneCount] = thisYear;
        return stoneCount++;
    }

    public int moved(int stone, int year, int x, int y) {
        if (!canHappen(stone, year) || !isPoint(x, y)) {
            return BAD;
        }
        return tell(stone, year, pointNumber(x, y));
    }

    public int lost(int stone, int year) {
        if (!canHappen(stone, year)) {
            return BAD;
        }
        return tell(stone, year, NONE);
    }

    public int where(int stone, int year, int known) {
        if (!isStone(stone) || !isYear(year) || !isYear(known)) {
            return BAD;
        }
        if (stoneSet[stone] > year || stoneSet[stone] > known) {
            return NONE;
        }
        return tellings.latest(stone, year, known, stonePoint[stone]);
    }

    public int witness(int born) {
        if (!isYear(born)) {
            return BAD;
        }
        if (witnessCount >= MOST_WITNESSES) {
            return FULL;
        }
        births[witnessCount] = born;
        return witnessCount++;
    }

    public int remember(int year, int when) {
        if (!isYear(year) || !isYear(when)) {
            return BAD;
        }
        int witnesses = 0;
        for (int i = 0; i < witnessCount; i++) {
            boolean oldEnough = year - births[i] >= AGE_OF_MEMORY;
            boolean notTooOld = when - births[i] < AGE_OF_DEATH;
            if (oldEnough && notTooOld && when >= year) {
                witnesses++;
            }
        }
        return witnesses;
    }

    // ---- houses, laws

    public int house(int x, int y, int w, int h, int doorX, int doorY, int hearthX, int hearthY) {
        if (!isField(x, y) || !between(w, 1, WIDEST_HOUSE) || !between(h, 1, WIDEST_HOUSE)
                || !isField(x + w - 1, y + h - 1)) {
            return BAD;
        }
        boolean doorWithin = between(doorX, x, x + w - 1) && between(doorY, y, y + h - 1);
        boolean hearthWithin = between(hearthX, x, x + w - 1) && between(hearthY, y, y + h - 1);
        if (!doorWithin || !hearthWithin) {
            return BAD;
        }
        if (houseCount >= MOST_HOUSES) {
            return FULL;
        }
        houses[houseCount] = new House(x, y, w, h, fieldNumber(doorX, doorY), fieldNumber(hearthX, hearthY));
        return houseCount++;
    }

    public int law(int use, int year, int by) {
        if (!between(use, 0, LAST_USE) || !isYear(year) || !between(by, BY_DOOR, BY_GREATER_PART)) {
            return BAD;
        }
        if (laws.isFull()) {
            return FULL;
        }
        return laws.write(use, year, thisYear, by);
    }

    public int whose(int house, int use, int year) {
        House asked = houseOf(house);
        if (asked == null || !between(use, 0, LAST_USE) || !isYear(year)) {
            return BAD;
        }
        int by = laws.latest(use, year, LAST_YEAR, BY_DOOR);
        if (by == BY_HEARTH) {
            return ownerOf(asked.hearth, year);
        }
        int most = by == BY_GREATER_PART ? ownerOfMost(asked, year) : NONE;
        return most == NONE ? ownerOf(asked.door, year) : most;
    }

    // ---- seeing

    public int see(int stone) {
        if (!isStone(stone)) {
            return BAD;
        }
        if (isLostNow(stone)) {
            return NOT;
        }
        int ago = thisYear - stoneSeen[stone];
        stoneSeen[stone] = thisYear;
        return ago;
    }

    public int gap(int v) {
        if (!between(v, 1, LONGEST_GAP)) {
            return BAD;
        }
        int before = gapYears;
        gapYears = v;
        return before;
    }

    public int due() {
        int stones = 0;
        for (int i = 0; i < stoneCount; i++) {
            if (thisYear - stoneSeen[i] >= gapYears && !isLostNow(i)) {
                stones |= 1 << i;
            }
        }
        return stones;
    }

    public int round(int n, int m) {
        if (!between(n, 1, LONGEST_ROUND) || !between(m, 1, MOST_STONES)) {
            return BAD;
        }
        int stones = gatherForRound();
        for (int year = thisYear; year < thisYear + n; year++) {
            seeOldest(stones, m, year);
            if (someUnseen(stones, year)) {
                return year;
            }
        }
        return NONE;
    }

    public int count(int what) {
        switch (what) {
            case 0: return parishCount;
            case 1: return thisYear;
            case 2: return stoneCount;
            case 3: return tellings.size();
            case 4: return witnessCount;
            case 5: return houseCount;
            case 6: return agreements.size();
            case 7: return laws.size();
            default: return BAD;
        }
    }

    // ---- bounds

    private static boolean between(int v, int least, int most) {
        return least <= v && v <= most;
    }

    private static boolean isPoint(int x, int y) {
        return between(x, 0, SIDE) && between(y, 0, SIDE);
    }

    private static boolean isField(int x, int y) {
        return between(x, 0, SIDE - 1) && between(y, 0, SIDE - 1);
    }

    private static boolean isYear(int year) {
        return between(year, 0, LAST_YEAR);
    }

    private boolean isParish(int number) {
        return between(number, 0, parishCount - 1);
    }

    private boolean isStone(int number) {
        return between(number, 0, stoneCount - 1);
    }

    // A point's number is what where() answers for it.
    private static int pointNumber(int x, int y) {
        return 100 * x + y;
    }

    private static int fieldNumber(int x, int y) {
        return SIDE * y + x;
    }

    // ---- what the calls share

    private Walk walkOf(int parish) {
        return between(parish, 0, MOST_PARISHES - 1) ? walks[parish] : null;
    }

    private House houseOf(int house) {
        return between(house, 0, MOST_HOUSES - 1) ? houses[house] : null;
    }

    private int claimsOf(int field) {
        int bits = 0;
        for (int p = 0; p < MOST_PARISHES; p++) {
            Walk walk = walks[p];
            if (walk != null && walk.surrounds(field % SIDE, field / SIDE)) {
                bits |= 1 << p;
            }
        }
        return bits;
    }

    private int ownerOf(int field, int year) {
        return agreements.latest(field, year, LAST_YEAR, onlyParish(claimsOf(field)));
    }

    private static int onlyParish(int bits) {
        for (int p = 0; p < MOST_PARISHES; p++) {
            if (bits == 1 << p) {
                return p;
            }
        }
        return NONE;
    }

    private int ownerOfMost(House house, int year) {
        for (int p = 0; p < MOST_PARISHES; p++) {
            ownedFields[p] = 0;
        }
        for (int y = house.y; y < house.y + house.h; y++) {
            for (int x = house.x; x < house.x + house.w; x++) {
                int owner = ownerOf(fieldNumber(x, y), year);
                if (between(owner, 0, MOST_PARISHES - 1)) {
                    ownedFields[owner]++;
                }
            }
        }
        int most = 0;
        int holder = NONE;
        for (int p = 0; p < MOST_PARISHES; p++) {
            if (ownedFields[p] > most) {
                most = ownedFields[p];
                holder = p;
            } else if (ownedFields[p] == most) {
                holder = NONE;
            }
        }
        return holder;
    }

    private boolean canHappen(int stone, int year) {
        return isStone(stone) && between(year, stoneSet[stone], thisYear);
    }

    private int tell(int stone, int year, int point) {
        if (tellings.isFull()) {
            return FULL;
        }
        tellings.write(stone, year, thisYear, point);
        return 1;
    }

    private boolean isLostNow(int stone) {
        return tellings.latest(stone, thisYear, thisYear, stonePoint[stone]) == NONE;
    }

    // Lost stones are left out, so a place in the row is no stone's number; but
    // the order is the stones', which is all that ties need.
    private int gatherForRound() {
        int stones = 0;
        for (int i = 0; i < stoneCount; i++) {
            if (!isLostNow(i)) {
                roundSeen[stones] = stoneSeen[i];
                stones++;
            }
        }
        return stones;
    }

    private void seeOldest(int stones, int m, int year) {
        for (int seen = 0; seen < m && seen < stones; seen++) {
            int oldest = 0;
            for (int i = 1; i < stones; i++) {
                if (roundSeen[i] < roundSeen[oldest]) {
                    oldest = i;
                }
            }
            roundSeen[oldest] = year;
        }
    }

    private boolean someUnseen(int stones, int year) {
        for (int i = 0; i < stones; i++) {
            if (year - roundSeen[i] >= gapYears) {
                return true;
            }
        }
        return false;
    }

    /** A parish's start and legs, and what follows from them: its lengths and what it surrounds. */
    private static final class Walk {
        private final int startX;
        private final int startY;
        private final int[] direction = new int[MOST_LEGS];
        private final int[] low = new int[MOST_LEGS];
        private final int[] high = new int[MOST_LEGS];
        private final int[] chosen = new int[MOST_LEGS];
        // Bit x of insideRow[y] stands for the field (x, y).
        private final int[] insideRow = new int[SIDE];
        private int legs;
        private boolean hasLengths = true;
        private boolean hasRing = true;

        Walk(int startX, int startY) {
            this.startX = startX;
            this.startY = startY;
        }

        int legCount() {
            return legs;
        }

        void addLeg(int newDirection, int newLow, int newHigh) {
            if (legs < MOST_LEGS) {
                direction[legs] = newDirection;
                low[legs] = newLow;
                high[legs] = newHigh;
                legs++;
                settle();
            }
        }

        void dropLeg() {
            if (legs > 0) {
                legs--;
                settle();
            }
        }

        int lengthOf(int i) {
            return hasLengths && between(i, 0, legs - 1) ? chosen[i] : NONE;
        }

        boolean surrounds(int x, int y) {
            return isField(x, y) && (insideRow[y] >> x & 1) == 1;
        }

        int fieldsInside() {
            if (!hasRing) {
                return NONE;
            }
            int fields = 0;
            for (int y = 0; y < SIDE; y++) {
                fields += Integer.bitCount(insideRow[y]);
            }
            return fields;
        }

        private void settle() {
            for (int y = 0; y < SIDE; y++) {
                insideRow[y] = 0;
            }
            hasLengths = chooseLengths();
            hasRing = hasLengths && staysOnLand();
            if (hasRing) {
                markInside();
            }
        }

        private boolean chooseLengths() {
            int x = 0;
            int y = 0;
            for (int i = 0; i < legs; i++) {
                int least = leastLength(i, isAlongX(i) ? x : y);
                if (least == NONE) {
                    return false;
                }
                chosen[i] = least;
                x += stepX(i);
                y += stepY(i);
            }
            return true;
        }

        // Spans have no holes, so the legs still to come can undo each offset
        // between their extremes, and no choice ever has to be taken back.
        private int leastLength(int i, int offset) {
            int least = 0;
            int most = 0;
            for (int j = i + 1; j < legs; j++) {
                if (isAlongX(j) == isAlongX(i)) {
                    least += sign(j) > 0 ? low[j] : -high[j];
                    most += sign(j) > 0 ? high[j] : -low[j];
                }
            }
            for (int length = low[i]; length <= high[i]; length++) {
                if (between(-(offset + sign(i) * length), least, most)) {
                    return length;
                }
            }
            return NONE;
        }

        // A leg is straight, so its ends tell whether all of it is on the land.
        private boolean staysOnLand() {
            int x = startX;
            int y = startY;
            for (int i = 0; i < legs; i++) {
                x += stepX(i);
                y += stepY(i);
                if (!isPoint(x, y)) {
                    return false;
                }
            }
            return true;
        }

        // A side along y at x is met by the lines from all fields of its row at
        // x or beyond it: each of them changes between inside and outside.
        private void markInside() {
            int x = startX;
            int y = startY;
            for (int i = 0; i < legs; i++) {
                int nextY = y + stepY(i);
                int end = Math.min(Math.max(y, nextY), SIDE);
                for (int row = Math.max(Math.min(y, nextY), 0); row < end; row++) {
                    insideRow[row] ^= WHOLE_ROW << x & WHOLE_ROW;
                }
                x += stepX(i);
                y = nextY;
            }
        }

        private boolean isAlongX(int i) {
            return direction[i] % 2 == 0;
        }

        private int sign(int i) {
            return direction[i] < 2 ? 1 : -1;
        }

        private int stepX(int i) {
            return isAlongX(i) ? sign(i) * chosen[i] : 0;
        }

        private int stepY(int i) {
            return isAlongX(i) ? 0 : sign(i) * chosen[i];
        }
    }

    /** Where a house stands; its door and hearth by their fields' numbers. */
    private static final class House {
        private final int x;
        private final int y;
        private final int w;
        private final int h;
        private final int door;
        private final int hearth;

        House(int x, int y, int w, int h, int door, int hearth) {
            this.x = x;
            this.y = y;
            this.w = w;
            this.h = h;
            this.door = door;
            this.hearth = hearth;
        }
    }

    /** Entries in the order of their telling, each of one thing and from a year on. */
    private static final class Ledger {
        private final int[] thing;
        private final int[] from;
        private final int[] told;
        private final int[] value;
        private int entries;

        Ledger(int most) {
            int room = Math.max(most, 0);
            thing = new int[room];
            from = new int[room];
            told = new int[room];
            value = new int[room];
        }

        int size() {
            return entries;
        }

        boolean isFull() {
            return entries >= thing.length;
        }

        int write(int newThing, int newFrom, int newTold, int newValue) {
            if (isFull()) {
                return FULL;
            }
            thing[entries] = newThing;
            from[entries] = newFrom;
            told[entries] = newTold;
            value[entries] = newValue;
            return entries++;
        }

        /** The value from the latest year up to the one asked, of several the one told last. */
        int latest(int askedThing, int year, int known, int otherwise) {
            int latestYear = NONE;
            int answer = otherwise;
            for (int i = 0; i < entries; i++) {
                boolean counts = thing[i] == askedThing && from[i] <= year && told[i] <= known;
                if (counts && from[i] >= latestYear) {
                    latestYear = from[i];
                    answer = value[i];
                }
            }
            return answer;
        }
    }
}
