import java.util.function.Consumer;
import java.util.function.ToLongFunction;

/** The words in which the tests say what is due; a test extends it, for nothing can be imported without a package. */
abstract class Checks {
    static final int MIN = Integer.MIN_VALUE;
    static final int MAX = Integer.MAX_VALUE;
    static final int[] NO_DAYS = {-1, 20, MIN, MAX};
    static final int[] NO_ENDS = {-1, 2, MIN, MAX};

    static void due(String call, long got, long want) {
        Due.due(call, got, want);
    }

    static void refused(String call, Consumer<BallDrops> before, ToLongFunction<BallDrops> refusal, long want) {
        Due.refused(call, before, refusal, want);
    }

    static void offIs(BallDrops x, int day, int least, int greatest) {
        due("off(" + day + ", 0)", x.off(day, 0), least);
        due("off(" + day + ", 1)", x.off(day, 1), greatest);
    }

    static void rateIs(BallDrops x, int least, int greatest) {
        due("rate(0)", x.rate(0), least);
        due("rate(1)", x.rate(1), greatest);
    }

    static void lateIs(BallDrops x, int day, int least, int greatest) {
        due("late(" + day + ", 0)", x.late(day, 0), least);
        due("late(" + day + ", 1)", x.late(day, 1), greatest);
    }

    static void aheadIs(BallDrops x, int ship, int clock, int day, int least, int greatest) {
        String call = "ahead(" + ship + ", " + clock + ", " + day + ", ";
        due(call + "0)", x.ahead(ship, clock, day, 0), least);
        due(call + "1)", x.ahead(ship, clock, day, 1), greatest);
    }

    static void gainsIs(BallDrops x, int ship, int clock, int least, int greatest) {
        String call = "gains(" + ship + ", " + clock + ", ";
        due(call + "0)", x.gains(ship, clock, 0), least);
        due(call + "1)", x.gains(ship, clock, 1), greatest);
    }

    /** Of a clock of ship 0. */
    static void placeIs(BallDrops x, int clock, int day, int read, int least, int greatest) {
        String call = "place(0, " + clock + ", " + day + ", " + read + ", ";
        due(call + "0)", x.place(0, clock, day, read, 0), least);
        due(call + "1)", x.place(0, clock, day, read, 1), greatest);
    }

    /** Of ship 0, one for each set. */
    static void weightsAre(BallDrops x, int... want) {
        for (int set = 0; set < 8; set++) {
            due("weight(0, " + set + ")", x.weight(0, set), want[set]);
        }
    }

    static void oddsAre(BallDrops x, int set, int upper, int lower) {
        due("odds(0, " + set + ", 0)", x.odds(0, set, 0), upper);
        due("odds(0, " + set + ", 1)", x.odds(0, set, 1), lower);
    }

    static void landfallIs(BallDrops x, int ship, int least, int greatest) {
        due("landfall(" + ship + ", 0)", x.landfall(ship, 0), least);
        due("landfall(" + ship + ", 1)", x.landfall(ship, 1), greatest);
    }

    static void slippedIs(BallDrops x, int day, int least, int greatest) {
        due("slipped(" + day + ", 0)", x.slipped(day, 0), least);
        due("slipped(" + day + ", 1)", x.slipped(day, 1), greatest);
    }

    static void portIs(BallDrops x, int port, int least, int greatest) {
        due("port(" + port + ", 0)", x.port(port, 0), least);
        due("port(" + port + ", 1)", x.port(port, 1), greatest);
    }

    /** The faults of the clocks of ship 0. */
    static void faults(BallDrops x, int a, int b, int c) {
        x.clock(0, 0, 1, a);
        x.clock(0, 1, 1, b);
        x.clock(0, 2, 1, c);
    }
}
