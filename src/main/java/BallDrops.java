/**
 * A time ball, the clock and the stars behind it, and the ships' clocks that are set by it.
 * Times are whole tenths of a second; spans count both of their ends.
 */
public final class BallDrops {
    public static final int NONE = -6, UNKNOWN = -1, OUTSIDE = -2, STATE = -3, FULL = -4, NO = -5;
    public static final int GONE = -100000000;
    public static final long LOST = -1000000000000000000L;

    private static final int DAYS = 20;
    private static final int CLOCKS = 3;
    private static final int SHIPS = 4;
    private static final int PORTS = 4;
    private static final int SETS = 8;
    private static final int MOST_STARS = 20;
    private static final int MOST_NOTES = 12;
    private static final int MOST_OFF = 600;
    private static final int MOST_RATE = 20;
    private static final int MOST_CARE = 9;
    private static final int FIRST_CARE = 2;
    private static final int MOST_SLOW = 50;
    private static final int MOST_SLIP = 60;
    private static final int MOST_CABLES = 30;
    private static final int MOST_SHOWN = 9999;
    private static final int MOST_READ = 99999;
    private static final int MOST_MILES = 9999;
    private static final int MOST_GAIN = 99;
    private static final int MOST_HEAT = 5;
    private static final int MOST_FAULT = 9;
    private static final int MOST_WARMTH = 9;
    private static final int MILD = 5;
    private static final int SIGHT = 0;
    private static final int GLASS = 1;
    private static final int GUN = 2;
    private static final int SIGHT_CARE = 2;
    private static final int GLASS_CARE = 1;
    private static final int GUN_CARE = 3;
    private static final int MEETING_CARE = 4;
    private static final int TENTHS_A_MILE = 4;
    private static final int NO_DAY = -1;
    /** Farther than any place by any clock. */
    private static final int FAR = 1000000;

    private final Line offs = new Line();
    private final Line trial = new Line();
    private final Line known = new Line();
    private final int[] slowLeast = new int[2];
    private final int[] slowGreatest = new int[2];
    private final int[] slips = new int[DAYS];
    private final int[] warmths = new int[DAYS];
    private final Ship[] ships = new Ship[SHIPS];
    private final int[] portLeast = new int[PORTS];
    private final int[] portGreatest = new int[PORTS];
    private final int[] placeLeast = new int[CLOCKS];
    private final int[] placeGreatest = new int[CLOCKS];
    private int stars;
    private int starCare = FIRST_CARE;
    private int takenBack;
    private int shipCount;

    public BallDrops() {
        offs.open(MOST_OFF, MOST_RATE);
        for (int d = 0; d < DAYS; d++) {
            warmths[d] = MILD;
        }
        for (int s = 0; s < SHIPS; s++) {
            ships[s] = new Ship();
        }
        for (int p = 0; p < PORTS; p++) {
            portLeast[p] = -MOST_READ;
            portGreatest[p] = MOST_READ;
        }
    }

    // ---- 1 the observatory

    public int star(int day, int off) {
        if (noDay(day)) {
            return UNKNOWN;
        }
        if (beyond(off, MOST_OFF)) {
            return OUTSIDE;
        }
        if (stars >= MOST_STARS) {
            return FULL;
        }
        trial.copyFrom(offs);
        trial.cut(day, off - starCare, off + starCare);
        if (!trial.narrow()) {
            return NO;
        }
        offs.copyFrom(trial);
        stars++;
        return stars;
    }

    public int care(int v) {
        if (outside(v, 0, MOST_CARE)) {
            return OUTSIDE;
        }
        int was = starCare;
        starCare = v;
        return was;
    }

    public int off(int day, int end) {
        if (noDay(day)) {
            return GONE + UNKNOWN;
        }
        if (noEnd(end)) {
            return GONE + OUTSIDE;
        }
        return end == 0 ? offs.least[day] : offs.greatest[day];
    }

    public int rate(int end) {
        if (noEnd(end)) {
            return GONE + OUTSIDE;
        }
        return end == 0 ? offs.leastGain : offs.greatestGain;
    }

    public int slow(int which, int least, int greatest) {
        if (outside(which, 0, 1) || outside(least, 0, MOST_SLOW) || outside(greatest, least, MOST_SLOW)) {
            return OUTSIDE;
        }
        int was = 100 * slowLeast[which] + slowGreatest[which];
        slowLeast[which] = least;
        slowGreatest[which] = greatest;
        return was;
    }

    public int slip(int day, int v) {
        if (noDay(day)) {
            return GONE + UNKNOWN;
        }
        if (beyond(v, MOST_SLIP)) {
            return GONE + OUTSIDE;
        }
        int was = slips[day];
        slips[day] = v;
        return was;
    }

    public int back(int day, boolean is) {
        if (noDay(day)) {
            return UNKNOWN;
        }
        int was = bitOf(takenBack, day);
        takenBack = withBit(takenBack, day, is);
        return was;
    }

    public int late(int day, int end) {
        if (noDay(day)) {
            return GONE + UNKNOWN;
        }
        if (noEnd(end)) {
            return GONE + OUTSIDE;
        }
        return end == 0 ? leastLate(day) : greatestLate(day);
    }

    // ---- 2 ships, clocks

    public int ship() {
        if (shipCount >= SHIPS) {
            return FULL;
        }
        shipCount++;
        return shipCount - 1;
    }

    public int set(int ship, int clock, int day, int how, int cables, int shows) {
        if (noClock(ship, clock) || noDay(day)) {
            return UNKNOWN;
        }
        if (outside(how, SIGHT, GUN) || outside(cables, 0, how == GUN ? MOST_CABLES : 0)
                || beyond(shows, MOST_SHOWN)) {
            return OUTSIDE;
        }
        return ships[ship].note(clock, day, true, shows - latestNoted(how, cables), shows - soonestNoted(how, cables));
    }

    public int meet(int ship, int clock, int day, int read, int miles) {
        if (noClock(ship, clock) || noDay(day)) {
            return UNKNOWN;
        }
        if (beyond(read, MOST_READ) || beyond(miles, MOST_MILES)) {
            return OUTSIDE;
        }
        int told = read - TENTHS_A_MILE * miles;
        return ships[ship].note(clock, day, false, told - MEETING_CARE, told + MEETING_CARE);
    }

    public int strike(int ship) {
        if (noShip(ship)) {
            return UNKNOWN;
        }
        Ship s = ships[ship];
        if (s.notes <= 0) {
            return NO;
        }
        s.notes--;
        return s.notes;
    }

    public int saw(int ship, int day, boolean is) {
        if (noShip(ship) || noDay(day)) {
            return UNKNOWN;
        }
        Ship s = ships[ship];
        int was = bitOf(s.flagsSeen, day);
        s.flagsSeen = withBit(s.flagsSeen, day, is);
        return was;
    }

    public int clock(int ship, int clock, int what, int v) {
        if (noClock(ship, clock)) {
            return UNKNOWN;
        }
        if (outside(what, 0, 1) || (what == 0 ? outside(v, 0, MOST_HEAT) : outside(v, 1, MOST_FAULT))) {
            return OUTSIDE;
        }
        int[] row = what == 0 ? ships[ship].heat : ships[ship].fault;
        int was = row[clock];
        row[clock] = v;
        return was;
    }

    public int warm(int day, int v) {
        if (noDay(day)) {
            return UNKNOWN;
        }
        if (outside(v, 0, MOST_WARMTH)) {
            return OUTSIDE;
        }
        int was = warmths[day];
        warmths[day] = v;
        return was;
    }

    public int jumped(int ship, int clock) {
        if (noClock(ship, clock)) {
            return UNKNOWN;
        }
        return learn(ships[ship], clock) ? 0 : 1;
    }

    public int ahead(int ship, int clock, int day, int end) {
        if (noClock(ship, clock) || noDay(day)) {
            return GONE + UNKNOWN;
        }
        if (noEnd(end)) {
            return GONE + OUTSIDE;
        }
        if (!learn(ships[ship], clock)) {
            return GONE + STATE;
        }
        return end == 0 ? known.least[day] : known.greatest[day];
    }

    public int gains(int ship, int clock, int end) {
        if (noClock(ship, clock)) {
            return GONE + UNKNOWN;
        }
        if (noEnd(end)) {
            return GONE + OUTSIDE;
        }
        if (!learn(ships[ship], clock)) {
            return GONE + STATE;
        }
        return end == 0 ? known.leastGain : known.greatestGain;
    }

    // ---- 3 at sea

    public int place(int ship, int clock, int day, int read, int end) {
        if (noClock(ship, clock) || noDay(day)) {
            return GONE + UNKNOWN;
        }
        if (noEnd(end) || beyond(read, MOST_READ)) {
            return GONE + OUTSIDE;
        }
        if (!learn(ships[ship], clock)) {
            return GONE + STATE;
        }
        return end == 0 ? leastMiles(read, day) : greatestMiles(read, day);
    }

    public int reads(int ship, int day, int a, int b, int c) {
        if (noShip(ship) || noDay(day)) {
            return UNKNOWN;
        }
        if (beyond(a, MOST_READ) || beyond(b, MOST_READ) || beyond(c, MOST_READ)) {
            return OUTSIDE;
        }
        Ship s = ships[ship];
        s.readDay = day;
        s.read[0] = a;
        s.read[1] = b;
        s.read[2] = c;
        return 1;
    }

    public int weight(int ship, int set) {
        if (noShip(ship)) {
            return UNKNOWN;
        }
        if (outside(set, 0, SETS - 1)) {
            return OUTSIDE;
        }
        findPlaces(ships[ship]);
        return weigh(ships[ship], set);
    }

    public long odds(int ship, int set, int part) {
        if (noShip(ship)) {
            return LOST + UNKNOWN;
        }
        if (outside(set, 0, SETS - 1) || outside(part, 0, 1)) {
            return LOST + OUTSIDE;
        }
        findPlaces(ships[ship]);
        int one = weigh(ships[ship], set);
        int all = 0;
        for (int s = 0; s < SETS; s++) {
            all += weigh(ships[ship], s);
        }
        int shared = greatestDivisor(one, all);
        return part == 0 ? one / shared : all / shared;
    }

    public int best(int ship) {
        if (noShip(ship)) {
            return UNKNOWN;
        }
        findPlaces(ships[ship]);
        return heaviest(ships[ship]);
    }

    public int landfall(int ship, int end) {
        if (noShip(ship)) {
            return GONE + UNKNOWN;
        }
        if (noEnd(end)) {
            return GONE + OUTSIDE;
        }
        findPlaces(ships[ship]);
        int trusted = heaviest(ships[ship]);
        if (trusted == 0) {
            return GONE + STATE;
        }
        return end == 0 ? leastShared(trusted) : greatestShared(trusted);
    }

    // ---- 4 bad falls, ports

    public int suspect(int day) {
        if (noDay(day)) {
            return UNKNOWN;
        }
        return countSuspects(day);
    }

    public int worst(int what) {
        if (outside(what, 0, 1)) {
            return OUTSIDE;
        }
        int day = 0;
        int most = 0;
        for (int d = 0; d < DAYS; d++) {
            int count = countSuspects(d);
            if (count > most) {
                most = count;
                day = d;
            }
        }
        return what == 0 ? day : most;
    }

    public int slipped(int day, int end) {
        if (noDay(day)) {
            return GONE + UNKNOWN;
        }
        if (noEnd(end)) {
            return GONE + OUTSIDE;
        }
        int slip = end == 0 ? firstFittingSlip(day, -MOST_SLIP, 1) : firstFittingSlip(day, MOST_SLIP, -1);
        return beyond(slip, MOST_SLIP) ? GONE + NO : slip;
    }

    public int ask(int day) {
        if (noDay(day)) {
            return UNKNOWN;
        }
        int answer = NONE;
        int narrowest = 0;
        for (int s = 0; s < shipCount; s++) {
            for (int c = 0; c < CLOCKS; c++) {
                if (isTold(ships[s], c) && learn(ships[s], c)) {
                    int width = known.greatest[day] - known.least[day];
                    if (answer == NONE || width < narrowest) {
                        answer = 10 * s + c;
                        narrowest = width;
                    }
                }
            }
        }
        return answer;
    }

    public int carry(int port, int ship, int clock, int day, int shows) {
        if (outside(port, 0, PORTS - 1) || noClock(ship, clock) || noDay(day)) {
            return UNKNOWN;
        }
        if (beyond(shows, MOST_SHOWN)) {
            return OUTSIDE;
        }
        if (!learn(ships[ship], clock)) {
            return STATE;
        }
        int least = Math.max(portLeast[port], shows - known.greatest[day] - SIGHT_CARE);
        int greatest = Math.min(portGreatest[port], shows - known.least[day] + SIGHT_CARE);
        if (least > greatest) {
            return NO;
        }
        portLeast[port] = least;
        portGreatest[port] = greatest;
        return 1;
    }

    public int port(int port, int end) {
        if (outside(port, 0, PORTS - 1)) {
            return GONE + UNKNOWN;
        }
        if (noEnd(end)) {
            return GONE + OUTSIDE;
        }
        return end == 0 ? portLeast[port] : portGreatest[port];
    }

    public int told(int what) {
        switch (what) {
            case 0:
                return stars;
            case 1:
                return shipCount;
            case 2:
                return starCare;
            case 3:
                return takenBack;
            case 4:
            case 5:
            case 6:
            case 7:
                return noShip(what - 4) ? NONE : ships[what - 4].notes;
            default:
                return OUTSIDE;
        }
    }

    // ---- what a call may name

    private static boolean outside(int v, int least, int greatest) {
        return v < least || v > greatest;
    }

    private static boolean beyond(int v, int most) {
        return v < -most || v > most;
    }

    private static boolean noDay(int day) {
        return day < 0 || day >= DAYS;
    }

    private static boolean noEnd(int end) {
        return end != 0 && end != 1;
    }

    private boolean noShip(int ship) {
        return ship < 0 || ship >= shipCount;
    }

    private boolean noClock(int ship, int clock) {
        return noShip(ship) || clock < 0 || clock >= CLOCKS;
    }

    // ---- days as bits, fractions

    private static int bitOf(int bits, int i) {
        return (bits >> i) & 1;
    }

    private static int withBit(int bits, int i, boolean is) {
        return is ? bits | (1 << i) : bits & ~(1 << i);
    }

    private static int cutUp(int v, int by) {
        return -Math.floorDiv(-v, by);
    }

    /** At least 1, so that it may divide whatever comes. */
    private static int greatestDivisor(int a, int b) {
        int whole = a;
        int rest = b;
        // each second step halves the rest at least, so that 100 are more than an int needs
        for (int i = 0; i < 100 && rest != 0; i++) {
            int next = whole % rest;
            whole = rest;
            rest = next;
        }
        return Math.max(1, whole);
    }

    // ---- the ball

    private int middleOff(int day) {
        return Math.floorDiv(offs.least[day] + offs.greatest[day], 2);
    }

    private int leastLate(int day) {
        return middleOff(day) - offs.greatest[day] + slowLeast[0] + slowLeast[1] + slips[day];
    }

    private int greatestLate(int day) {
        return middleOff(day) - offs.least[day] + slowGreatest[0] + slowGreatest[1] + slips[day];
    }

    private static int soonestNoted(int how, int cables) {
        if (how == GUN) {
            return 5 * cables - GUN_CARE;
        }
        return how == GLASS ? -GLASS_CARE : -SIGHT_CARE;
    }

    private static int latestNoted(int how, int cables) {
        if (how == GUN) {
            return 7 * cables + GUN_CARE;
        }
        return how == GLASS ? GLASS_CARE : SIGHT_CARE;
    }

    // ---- what is known of a clock

    private boolean counts(Ship s, int note) {
        return !s.byBall[note] || (takenBack & s.flagsSeen & (1 << s.dayOf[note])) == 0;
    }

    private boolean isTold(Ship s, int clock) {
        for (int n = 0; n < s.notes; n++) {
            if (s.clockOf[n] == clock && counts(s, n)) {
                return true;
            }
        }
        return false;
    }

    private boolean isSetOn(Ship s, int clock, int day) {
        for (int n = 0; n < s.notes; n++) {
            if (s.clockOf[n] == clock && s.byBall[n] && s.dayOf[n] == day && counts(s, n)) {
                return true;
            }
        }
        return false;
    }

    /** Fills known by all that the clock was told; false if it has jumped. */
    private boolean learn(Ship s, int clock) {
        return learnBut(s, clock, NO_DAY, NO_DAY, 0);
    }

    /** As learn, but with the ball of one day left out, and that of another as if it had slipped more. */
    private boolean learnBut(Ship s, int clock, int without, int slipDay, int more) {
        known.open(MOST_READ, MOST_GAIN);
        for (int n = 0; n < s.notes; n++) {
            if (s.clockOf[n] == clock && counts(s, n)) {
                int day = s.dayOf[n];
                if (!s.byBall[n]) {
                    known.cut(day, s.from[n], s.to[n]);
                } else if (day != without) {
                    int moved = day == slipDay ? more : 0;
                    known.cut(day, s.from[n] - greatestLate(day) - moved, s.to[n] - leastLate(day) - moved);
                }
            }
        }
        // without what warmth makes it gain, the same rate holds between any two days
        addHeat(-s.heat[clock]);
        boolean holds = known.narrow();
        addHeat(s.heat[clock]);
        return holds;
    }

    private void addHeat(int heat) {
        int gained = 0;
        for (int d = 0; d < DAYS; d++) {
            known.least[d] += gained;
            known.greatest[d] += gained;
            gained += heat * (warmths[d] - MILD);
        }
    }

    // ---- places and trust

    private int leastMiles(int read, int day) {
        return Math.floorDiv(read - known.greatest[day], TENTHS_A_MILE);
    }

    private int greatestMiles(int read, int day) {
        return cutUp(read - known.least[day], TENTHS_A_MILE);
    }

    private void findPlaces(Ship s) {
        for (int c = 0; c < CLOCKS; c++) {
            if (learn(s, c)) {
                placeLeast[c] = leastMiles(s.read[c], s.readDay);
                placeGreatest[c] = greatestMiles(s.read[c], s.readDay);
            } else {
                // no miles at all, so that no set with this clock agrees
                placeLeast[c] = FAR;
                placeGreatest[c] = -FAR;
            }
        }
    }

    private int leastShared(int set) {
        int least = -FAR;
        for (int c = 0; c < CLOCKS; c++) {
            if (bitOf(set, c) == 1) {
                least = Math.max(least, placeLeast[c]);
            }
        }
        return least;
    }

    private int greatestShared(int set) {
        int greatest = FAR;
        for (int c = 0; c < CLOCKS; c++) {
            if (bitOf(set, c) == 1) {
                greatest = Math.min(greatest, placeGreatest[c]);
            }
        }
        return greatest;
    }

    private int weigh(Ship s, int set) {
        if (leastShared(set) > greatestShared(set)) {
            return 0;
        }
        int product = 1;
        for (int c = 0; c < CLOCKS; c++) {
            product *= bitOf(set, c) == 1 ? 10 - s.fault[c] : s.fault[c];
        }
        return product;
    }

    private int heaviest(Ship s) {
        int chosen = 0;
        int most = weigh(s, 0);
        for (int set = 1; set < SETS; set++) {
            int w = weigh(s, set);
            if (w > most || (w == most && Integer.bitCount(set) > Integer.bitCount(chosen))) {
                chosen = set;
                most = w;
            }
        }
        return chosen;
    }

    // ---- bad falls

    private int countSuspects(int day) {
        int count = 0;
        for (int s = 0; s < shipCount; s++) {
            for (int c = 0; c < CLOCKS; c++) {
                if (isSetOn(ships[s], c, day) && !learn(ships[s], c)
                        && learnBut(ships[s], c, day, NO_DAY, 0)) {
                    count++;
                }
            }
        }
        return count;
    }

    /** The first slip from one on, step by step, by which no clock would have jumped; beyond the most if none. */
    private int firstFittingSlip(int day, int from, int step) {
        int all = shipCount * CLOCKS;
        int slip = from;
        int at = 0;
        int content = 0;
        // all clocks in a row must be content with the same slip; the one that is not is asked again first
        for (int i = 0; i < 1000000 && content < all && !beyond(slip, MOST_SLIP); i++) {
            if (bearsSlip(ships[at / CLOCKS], at % CLOCKS, day, slip)) {
                content++;
                at = (at + 1) % all;
            } else {
                content = 0;
                slip += step;
            }
        }
        return slip;
    }

    private boolean bearsSlip(Ship s, int clock, int day, int slip) {
        return !isSetOn(s, clock, day) || learnBut(s, clock, NO_DAY, day, slip - slips[day]);
    }

    /** A ship: what its clocks were told, the flags that it saw, and what it last read. */
    private static final class Ship {
        private final int[] clockOf = new int[MOST_NOTES];
        private final int[] dayOf = new int[MOST_NOTES];
        private final boolean[] byBall = new boolean[MOST_NOTES];
        /** The ends of what a note tells of ahead; by a ball, before it is known how late that was. */
        private final int[] from = new int[MOST_NOTES];
        private final int[] to = new int[MOST_NOTES];
        private final int[] heat = new int[CLOCKS];
        private final int[] fault = new int[CLOCKS];
        private final int[] read = new int[CLOCKS];
        private int notes;
        private int flagsSeen;
        private int readDay;

        private Ship() {
            for (int c = 0; c < CLOCKS; c++) {
                fault[c] = 1;
            }
        }

        private int note(int clock, int day, boolean ball, int least, int greatest) {
            if (notes >= MOST_NOTES) {
                return FULL;
            }
            clockOf[notes] = clock;
            dayOf[notes] = day;
            byBall[notes] = ball;
            from[notes] = least;
            to[notes] = greatest;
            notes++;
            return notes;
        }
    }

    /** Spans of how far a clock is ahead on each day, and of what it gains from each day to the next. */
    private static final class Line {
        private final int[] least = new int[DAYS];
        private final int[] greatest = new int[DAYS];
        private int leastGain;
        private int greatestGain;

        private void open(int most, int mostGain) {
            for (int d = 0; d < DAYS; d++) {
                least[d] = -most;
                greatest[d] = most;
            }
            leastGain = -mostGain;
            greatestGain = mostGain;
        }

        private void copyFrom(Line other) {
            System.arraycopy(other.least, 0, least, 0, DAYS);
            System.arraycopy(other.greatest, 0, greatest, 0, DAYS);
            leastGain = other.leastGain;
            greatestGain = other.greatestGain;
        }

        private void cut(int day, int from, int to) {
            least[day] = Math.max(least[day], from);
            greatest[day] = Math.min(greatest[day], to);
        }

        /**
         * Makes all spans as narrow as they want of one another; false if some has nothing left.
         * Through any whole gain that all pairs of days leave there is a line within all spans, so that
         * the narrower days ask nothing more of the gain: one round is all.
         */
        private boolean narrow() {
            for (int d = 0; d < DAYS; d++) {
                if (least[d] > greatest[d]) {
                    return false;
                }
            }
            narrowGain();
            if (leastGain > greatestGain) {
                return false;
            }
            narrowDays();
            return true;
        }

        private void narrowGain() {
            for (int i = 0; i < DAYS; i++) {
                for (int j = i + 1; j < DAYS; j++) {
                    int between = j - i;
                    int low = least[j] - greatest[i];
                    int high = greatest[j] - least[i];
                    // most pairs ask nothing new, and a product is cheaper than two divisions
                    if (low > leastGain * between) {
                        leastGain = cutUp(low, between);
                    }
                    if (high < greatestGain * between) {
                        greatestGain = Math.floorDiv(high, between);
                    }
                }
            }
        }

        /** Once there and once back from day to neighbour day brings each day what every other one wants. */
        private void narrowDays() {
            for (int d = 1; d < DAYS; d++) {
                cut(d, least[d - 1] + leastGain, greatest[d - 1] + greatestGain);
            }
            for (int d = DAYS - 2; d >= 0; d--) {
                cut(d, least[d + 1] - greatestGain, greatest[d + 1] - leastGain);
            }
        }
    }
}
