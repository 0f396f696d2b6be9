import java.math.BigInteger;
import java.util.ArrayList;
import java.util.Arrays;
import java.util.List;

/**
 * The document once more, as slowly and plainly as its words go: everything is worked out anew
 * from lists of what was told, with each rule of the spans by itself, again and again.
 */
final class Model {
    private record Told(int clock, int day, int how, int cables, int number, int miles) { }

    private static final int MEETING = 9;

    private static final class Spans {
        final long[] lo = new long[20];
        final long[] hi = new long[20];
        final long[] warmth = new long[20];
        long rateLo;
        long rateHi;
        long heat;

        Spans(long most, long rate) {
            Arrays.fill(lo, -most);
            Arrays.fill(hi, most);
            rateLo = -rate;
            rateHi = rate;
            Arrays.fill(warmth, 5);
        }

        void tell(int day, long from, long to) {
            lo[day] = Math.max(lo[day], from);
            hi[day] = Math.min(hi[day], to);
        }

        boolean nothingLeft() {
            for (int d = 0; d < 20; d++) {
                if (lo[d] > hi[d]) {
                    return true;
                }
            }
            return rateLo > rateHi;
        }

        boolean narrow() {
            long before;
            do {
                before = width();
                for (int i = 0; i < 20; i++) {
                    for (int j = i + 1; j < 20; j++) {
                        pair(i, j);
                    }
                }
                if (nothingLeft()) {
                    return false;
                }
            } while (width() < before);
            return true;
        }

        private void pair(int i, int j) {
            long days = j - i;
            long warm = 0;
            for (int d = i; d < j; d++) {
                warm += heat * (warmth[d] - 5);
            }
            lo[j] = Math.max(lo[j], lo[i] + rateLo * days + warm);
            hi[j] = Math.min(hi[j], hi[i] + rateHi * days + warm);
            lo[i] = Math.max(lo[i], lo[j] - rateHi * days - warm);
            hi[i] = Math.min(hi[i], hi[j] - rateLo * days - warm);
            rateLo = Math.max(rateLo, (long) Math.ceil((lo[j] - hi[i] - warm) / (double) days));
            rateHi = Math.min(rateHi, (long) Math.floor((hi[j] - lo[i] - warm) / (double) days));
        }

        /** Nothing ever grows wider, so that an equal sum tells that nothing has changed. */
        private long width() {
            long sum = rateHi - rateLo;
            for (int d = 0; d < 20; d++) {
                sum += hi[d] - lo[d];
            }
            return sum;
        }
    }

    private final List<int[]> stars = new ArrayList<>();
    private Spans observed;
    private int observedBy = -1;
    private int care = 2;
    private final int[][] slow = new int[2][2];
    private final int[] slip = new int[20];
    private final boolean[] back = new boolean[20];
    private final List<List<Told>> ships = new ArrayList<>();
    private final boolean[][] saw = new boolean[4][20];
    private final int[][] heat = new int[4][3];
    private final int[][] fault = {{1, 1, 1}, {1, 1, 1}, {1, 1, 1}, {1, 1, 1}};
    private final int[] warmth = new int[20];
    private final int[][] read = new int[4][4];
    private final List<List<long[]>> carried = new ArrayList<>();

    Model() {
        Arrays.fill(warmth, 5);
        for (int p = 0; p < 4; p++) {
            carried.add(new ArrayList<>());
        }
    }

    private static boolean in(long v, long least, long greatest) {
        return least <= v && v <= greatest;
    }

    private static boolean isDay(int day) {
        return in(day, 0, 19);
    }

    private boolean isShip(int ship) {
        return in(ship, 0, ships.size() - 1);
    }

    private boolean isClock(int ship, int clock) {
        return isShip(ship) && in(clock, 0, 2);
    }

    private Spans observatory() {
        Spans s = new Spans(600, 20);
        for (int[] star : stars) {
            s.tell(star[0], star[1] - star[2], star[1] + star[2]);
        }
        return s;
    }

    /** Worked out once for each number of stars, for speed alone. */
    private Spans observed() {
        if (observedBy != stars.size()) {
            observed = observatory();
            observed.narrow();
            observedBy = stars.size();
        }
        return observed;
    }

    int star(int day, int off) {
        if (!isDay(day)) {
            return -1;
        }
        if (!in(off, -600, 600)) {
            return -2;
        }
        if (stars.size() == 20) {
            return -4;
        }
        stars.add(new int[] {day, off, care});
        if (!observatory().narrow()) {
            stars.remove(stars.size() - 1);
            return -5;
        }
        return stars.size();
    }

    int care(int v) {
        if (!in(v, 0, 9)) {
            return -2;
        }
        int was = care;
        care = v;
        return was;
    }

    int off(int day, int end) {
        if (!isDay(day)) {
            return -100000001;
        }
        if (!in(end, 0, 1)) {
            return -100000002;
        }
        Spans s = observed();
        return (int) (end == 0 ? s.lo[day] : s.hi[day]);
    }

    int rate(int end) {
        if (!in(end, 0, 1)) {
            return -100000002;
        }
        Spans s = observed();
        return (int) (end == 0 ? s.rateLo : s.rateHi);
    }

    int slow(int which, int least, int greatest) {
        if (!in(which, 0, 1) || !in(least, 0, 50) || !in(greatest, 0, 50) || least > greatest) {
            return -2;
        }
        int was = slow[which][0] * 100 + slow[which][1];
        slow[which] = new int[] {least, greatest};
        return was;
    }

    int slip(int day, int v) {
        if (!isDay(day)) {
            return -100000001;
        }
        if (!in(v, -60, 60)) {
            return -100000002;
        }
        int was = slip[day];
        slip[day] = v;
        return was;
    }

    int back(int day, boolean is) {
        if (!isDay(day)) {
            return -1;
        }
        int was = back[day] ? 1 : 0;
        back[day] = is;
        return was;
    }

    private long[] lateness(int day, int slipThere) {
        Spans s = observed();
        long middle = (long) Math.floor((s.lo[day] + s.hi[day]) / 2.0);
        return new long[] {
            middle - s.hi[day] + slow[0][0] + slow[1][0] + slipThere,
            middle - s.lo[day] + slow[0][1] + slow[1][1] + slipThere};
    }

    int late(int day, int end) {
        if (!isDay(day)) {
            return -100000001;
        }
        if (!in(end, 0, 1)) {
            return -100000002;
        }
        return (int) lateness(day, slip[day])[end];
    }

    int ship() {
        if (ships.size() == 4) {
            return -4;
        }
        ships.add(new ArrayList<>());
        return ships.size() - 1;
    }

    int set(int ship, int clock, int day, int how, int cables, int shows) {
        if (!isClock(ship, clock) || !isDay(day)) {
            return -1;
        }
        if (!in(how, 0, 2) || !in(cables, 0, 30) || (how != 2 && cables != 0) || !in(shows, -9999, 9999)) {
            return -2;
        }
        if (ships.get(ship).size() == 12) {
            return -4;
        }
        ships.get(ship).add(new Told(clock, day, how, cables, shows, 0));
        return ships.get(ship).size();
    }

    int meet(int ship, int clock, int day, int read, int miles) {
        if (!isClock(ship, clock) || !isDay(day)) {
            return -1;
        }
        if (!in(read, -99999, 99999) || !in(miles, -9999, 9999)) {
            return -2;
        }
        if (ships.get(ship).size() == 12) {
            return -4;
        }
        ships.get(ship).add(new Told(clock, day, MEETING, 0, read, miles));
        return ships.get(ship).size();
    }

    int strike(int ship) {
        if (!isShip(ship)) {
            return -1;
        }
        List<Told> log = ships.get(ship);
        if (log.isEmpty()) {
            return -5;
        }
        log.remove(log.size() - 1);
        return log.size();
    }

    int saw(int ship, int day, boolean is) {
        if (!isShip(ship) || !isDay(day)) {
            return -1;
        }
        int was = saw[ship][day] ? 1 : 0;
        saw[ship][day] = is;
        return was;
    }

    int clock(int ship, int clock, int what, int v) {
        if (!isClock(ship, clock)) {
            return -1;
        }
        if (what == 0 && in(v, 0, 5)) {
            int was = heat[ship][clock];
            heat[ship][clock] = v;
            return was;
        }
        if (what == 1 && in(v, 1, 9)) {
            int was = fault[ship][clock];
            fault[ship][clock] = v;
            return was;
        }
        return -2;
    }

    int warm(int day, int v) {
        if (!isDay(day)) {
            return -1;
        }
        if (!in(v, 0, 9)) {
            return -2;
        }
        int was = warmth[day];
        warmth[day] = v;
        return was;
    }

    private boolean counts(int ship, Told t) {
        return t.how == MEETING || !(back[t.day] && saw[ship][t.day]);
    }

    /** What is known of a clock; null if it has jumped. */
    private Spans known(int ship, int clock, int without, int otherDay, int otherSlip) {
        Spans s = new Spans(99999, 99);
        s.heat = heat[ship][clock];
        for (int d = 0; d < 20; d++) {
            s.warmth[d] = warmth[d];
        }
        for (Told t : ships.get(ship)) {
            if (t.clock != clock || !counts(ship, t)) {
                continue;
            }
            if (t.how == MEETING) {
                s.tell(t.day, t.number - 4L * t.miles - 4, t.number - 4L * t.miles + 4);
                continue;
            }
            if (t.day == without) {
                continue;
            }
            long[] late = lateness(t.day, t.day == otherDay ? otherSlip : slip[t.day]);
            long soonest = t.how == 0 ? -2 : t.how == 1 ? -1 : 5L * t.cables - 3;
            long latest = t.how == 0 ? 2 : t.how == 1 ? 1 : 7L * t.cables + 3;
            s.tell(t.day, t.number - late[1] - latest, t.number - late[0] - soonest);
        }
        return s.narrow() ? s : null;
    }

    private Spans known(int ship, int clock) {
        return known(ship, clock, -1, -1, 0);
    }

    int jumped(int ship, int clock) {
        if (!isClock(ship, clock)) {
            return -1;
        }
        return known(ship, clock) == null ? 1 : 0;
    }

    int ahead(int ship, int clock, int day, int end) {
        if (!isClock(ship, clock) || !isDay(day)) {
            return -100000001;
        }
        if (!in(end, 0, 1)) {
            return -100000002;
        }
        Spans s = known(ship, clock);
        return s == null ? -100000003 : (int) (end == 0 ? s.lo[day] : s.hi[day]);
    }

    int gains(int ship, int clock, int end) {
        if (!isClock(ship, clock)) {
            return -100000001;
        }
        if (!in(end, 0, 1)) {
            return -100000002;
        }
        Spans s = known(ship, clock);
        return s == null ? -100000003 : (int) (end == 0 ? s.rateLo : s.rateHi);
    }

    private long[] places(int ship, int clock, int day, int read) {
        Spans s = known(ship, clock);
        if (s == null) {
            return null;
        }
        return new long[] {
            (long) Math.floor((read - s.hi[day]) / 4.0),
            (long) Math.ceil((read - s.lo[day]) / 4.0)};
    }

    int place(int ship, int clock, int day, int read, int end) {
        if (!isClock(ship, clock) || !isDay(day)) {
            return -100000001;
        }
        if (!in(end, 0, 1) || !in(read, -99999, 99999)) {
            return -100000002;
        }
        long[] p = places(ship, clock, day, read);
        return p == null ? -100000003 : (int) p[end];
    }

    int reads(int ship, int day, int a, int b, int c) {
        if (!isShip(ship) || !isDay(day)) {
            return -1;
        }
        if (!in(a, -99999, 99999) || !in(b, -99999, 99999) || !in(c, -99999, 99999)) {
            return -2;
        }
        read[ship] = new int[] {day, a, b, c};
        return 1;
    }

    /** The miles that all clocks of a set leave; null if there are none, or one has jumped. */
    private long[] shared(int ship, int set) {
        long[] miles = {-1000000, 1000000};
        for (int c = 0; c < 3; c++) {
            if ((set >> c & 1) == 0) {
                continue;
            }
            long[] p = places(ship, c, read[ship][0], read[ship][c + 1]);
            if (p == null) {
                return null;
            }
            miles[0] = Math.max(miles[0], p[0]);
            miles[1] = Math.min(miles[1], p[1]);
        }
        return miles[0] <= miles[1] ? miles : null;
    }

    int weight(int ship, int set) {
        if (!isShip(ship)) {
            return -1;
        }
        if (!in(set, 0, 7)) {
            return -2;
        }
        if (shared(ship, set) == null) {
            return 0;
        }
        int w = 1;
        for (int c = 0; c < 3; c++) {
            w = w * ((set >> c & 1) == 1 ? 10 - fault[ship][c] : fault[ship][c]);
        }
        return w;
    }

    long odds(int ship, int set, int part) {
        if (!isShip(ship)) {
            return -1000000000000000001L;
        }
        if (!in(set, 0, 7) || !in(part, 0, 1)) {
            return -1000000000000000002L;
        }
        long all = 0;
        for (int s = 0; s < 8; s++) {
            all += weight(ship, s);
        }
        BigInteger upper = BigInteger.valueOf(weight(ship, set));
        BigInteger lower = BigInteger.valueOf(all);
        BigInteger by = upper.gcd(lower);
        return (part == 0 ? upper : lower).divide(by).longValue();
    }

    int best(int ship) {
        if (!isShip(ship)) {
            return -1;
        }
        List<Integer> sets = new ArrayList<>(List.of(0, 1, 2, 3, 4, 5, 6, 7));
        sets.sort((a, b) -> {
            int byWeight = Integer.compare(weight(ship, b), weight(ship, a));
            int byCount = Integer.compare(Integer.bitCount(b), Integer.bitCount(a));
            return byWeight != 0 ? byWeight : byCount != 0 ? byCount : Integer.compare(a, b);
        });
        return sets.get(0);
    }

    int landfall(int ship, int end) {
        if (!isShip(ship)) {
            return -100000001;
        }
        if (!in(end, 0, 1)) {
            return -100000002;
        }
        int best = best(ship);
        return best == 0 ? -100000003 : (int) shared(ship, best)[end];
    }

    int suspect(int day) {
        if (!isDay(day)) {
            return -1;
        }
        int count = 0;
        for (int s = 0; s < ships.size(); s++) {
            for (int c = 0; c < 3; c++) {
                if (known(s, c) == null && known(s, c, day, -1, 0) != null) {
                    count++;
                }
            }
        }
        return count;
    }

    int worst(int what) {
        if (!in(what, 0, 1)) {
            return -2;
        }
        int most = 0;
        for (int d = 0; d < 20; d++) {
            most = Math.max(most, suspect(d));
        }
        int first = 0;
        while (suspect(first) != most) {
            first++;
        }
        return what == 0 ? first : most;
    }

    private boolean mayHaveSlipped(int day, int by) {
        for (int s = 0; s < ships.size(); s++) {
            for (int c = 0; c < 3; c++) {
                boolean has = false;
                for (Told t : ships.get(s)) {
                    has |= t.clock == c && t.day == day && t.how != MEETING && counts(s, t);
                }
                if (has && known(s, c, -1, day, by) == null) {
                    return false;
                }
            }
        }
        return true;
    }

    int slipped(int day, int end) {
        if (!isDay(day)) {
            return -100000001;
        }
        if (!in(end, 0, 1)) {
            return -100000002;
        }
        List<Integer> may = new ArrayList<>();
        for (int by = -60; by <= 60; by++) {
            if (mayHaveSlipped(day, by)) {
                may.add(by);
            }
        }
        return may.isEmpty() ? -100000005 : may.get(end == 0 ? 0 : may.size() - 1);
    }

    int ask(int day) {
        if (!isDay(day)) {
            return -1;
        }
        long narrowest = Long.MAX_VALUE;
        int answer = -6;
        for (int s = 0; s < ships.size(); s++) {
            for (int c = 0; c < 3; c++) {
                boolean has = false;
                for (Told t : ships.get(s)) {
                    has |= t.clock == c && counts(s, t);
                }
                Spans k = known(s, c);
                if (has && k != null && k.hi[day] - k.lo[day] < narrowest) {
                    narrowest = k.hi[day] - k.lo[day];
                    answer = 10 * s + c;
                }
            }
        }
        return answer;
    }

    private long[] lateness(int port) {
        long[] span = {-99999, 99999};
        for (long[] told : carried.get(port)) {
            span[0] = Math.max(span[0], told[0]);
            span[1] = Math.min(span[1], told[1]);
        }
        return span;
    }

    int carry(int port, int ship, int clock, int day, int shows) {
        if (!in(port, 0, 3) || !isClock(ship, clock) || !isDay(day)) {
            return -1;
        }
        if (!in(shows, -9999, 9999)) {
            return -2;
        }
        Spans s = known(ship, clock);
        if (s == null) {
            return -3;
        }
        carried.get(port).add(new long[] {shows - s.hi[day] - 2, shows - s.lo[day] + 2});
        long[] left = lateness(port);
        if (left[0] > left[1]) {
            carried.get(port).remove(carried.get(port).size() - 1);
            return -5;
        }
        return 1;
    }

    int port(int port, int end) {
        if (!in(port, 0, 3)) {
            return -100000001;
        }
        if (!in(end, 0, 1)) {
            return -100000002;
        }
        return (int) lateness(port)[end];
    }

    int told(int what) {
        if (!in(what, 0, 7)) {
            return -2;
        }
        if (what >= 4) {
            return isShip(what - 4) ? ships.get(what - 4).size() : -6;
        }
        if (what == 3) {
            int bits = 0;
            for (int d = 0; d < 20; d++) {
                bits |= back[d] ? 1 << d : 0;
            }
            return bits;
        }
        return what == 0 ? stars.size() : what == 1 ? ships.size() : care;
    }
}
