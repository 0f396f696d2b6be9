import java.util.function.Consumer;

/**
 * Too small and too large: for each number of each call, a method a promise, what its least and its greatest
 * answer, and that the numbers next beyond them and the least and the greatest int are refused and change nothing.
 */
public final class BoundsTest extends Checks {
    private static final long UNKNOWN = -1;
    private static final long OUTSIDE = -2;
    private static final long GONE_UNKNOWN = -100000001;
    private static final long GONE_OUTSIDE = -100000002;
    private static final long LOST_UNKNOWN = -1000000000000000001L;
    private static final long LOST_OUTSIDE = -1000000000000000002L;

    /** A call of which one number is left open. */
    private interface Of {
        long ask(BallDrops x, int v);
    }

    public static void main(String[] args) {
        promise2Star();
        promise3Care();
        promise4Off();
        promise5Rate();
        promise6Slow();
        promise6LeastAboveGreatest();
        promise7Slip();
        promise8Back();
        promise9Late();
        promise11SetWhere();
        promise11SetNumbers();
        promise11CablesButOfTheGun();
        promise12Meet();
        promise13Strike();
        promise14Saw();
        promise15ClockWhere();
        promise15HeatAndFault();
        promise16Warm();
        promise17Jumped();
        promise18Ahead();
        promise19Gains();
        promise20Place();
        promise21Reads();
        promise22Weight();
        promise23Odds();
        promise24Best();
        promise25Landfall();
        promise26Suspect();
        promise27Worst();
        promise28Slipped();
        promise29Ask();
        promise30Carry();
        promise31Port();
        promise32Told();
        Due.finish();
    }

    private static void fresh(BallDrops x) {
        due("a new object's stars", x.told(0), 0);
    }

    /** Days without a fall that is off, and two ships: the clocks of the first are 10, 20, 30 ahead, give or take 1. */
    private static void two(BallDrops x) {
        Scenes.makeRight(x);
        Scenes.rate(x, 10, 20, 30);
        x.ship();
    }

    /** The least and what it answers, the greatest and what it answers; each on an object of its own. */
    private static void takes(String call, Consumer<BallDrops> before, int least, long atLeast,
            int greatest, long atGreatest, Of of) {
        BallDrops x = new BallDrops();
        before.accept(x);
        due(call + " " + least, of.ask(x, least), atLeast);
        BallDrops y = new BallDrops();
        before.accept(y);
        due(call + " " + greatest, of.ask(y, greatest), atGreatest);
    }

    private static void refuses(String call, int least, int greatest, long refusal, Of of) {
        for (int v : new int[] {least - 1, greatest + 1, MIN, MAX}) {
            refused(call + " " + v, Scenes::full, x -> of.ask(x, v), refusal);
        }
    }

    /** Of no ship, of two and of four: the numbers from the next one on are none, and none is below 0. */
    private static void shipOf(String call, long refusal, Of of) {
        refused(call + " 0 of none", BoundsTest::fresh, x -> of.ask(x, 0), refusal);
        refuses(call, 0, 1, refusal, of);
        for (int v : new int[] {-1, 4, MIN, MAX}) {
            refused(call + " " + v + " of four", Scenes::noRoomForShips, x -> of.ask(x, v), refusal);
        }
    }

    private static void promise2Star() {
        takes("star's day", BoundsTest::fresh, 0, 1, 19, 1, (x, v) -> x.star(v, 0));
        refuses("star's day", 0, 19, UNKNOWN, (x, v) -> x.star(v, 0));
        takes("star's off", BoundsTest::fresh, -600, 1, 600, 1, (x, v) -> x.star(8, v));
        refuses("star's off", -600, 600, OUTSIDE, (x, v) -> x.star(8, v));
    }

    private static void promise3Care() {
        takes("care", BoundsTest::fresh, 0, 2, 9, 2, (x, v) -> x.care(v));
        refuses("care", 0, 9, OUTSIDE, (x, v) -> x.care(v));
        BallDrops x = new BallDrops();
        x.care(9);
        x.star(4, 0);
        offIs(x, 4, -9, 9);
        x.care(0);
        x.star(4, -9);
        offIs(x, 4, -9, -9);
    }

    private static void promise4Off() {
        Consumer<BallDrops> before = x -> x.star(0, 50);
        takes("off's day", before, 0, 48, 19, -332, (x, v) -> x.off(v, 0));
        refuses("off's day", 0, 19, GONE_UNKNOWN, (x, v) -> x.off(v, 0));
        takes("off's end", before, 0, 48, 1, 52, (x, v) -> x.off(0, v));
        refuses("off's end", 0, 1, GONE_OUTSIDE, (x, v) -> x.off(0, v));
    }

    private static void promise5Rate() {
        takes("rate's end", BoundsTest::fresh, 0, -20, 1, 20, (x, v) -> x.rate(v));
        refuses("rate's end", 0, 1, GONE_OUTSIDE, (x, v) -> x.rate(v));
    }

    private static void slows(BallDrops x) {
        Scenes.makeRight(x);
        x.slow(0, 3, 7);
        x.slow(1, 2, 9);
    }

    private static void promise6Slow() {
        takes("slow's which", BoundsTest::slows, 0, 307, 1, 209, (x, v) -> x.slow(v, 0, 0));
        refuses("slow's which", 0, 1, OUTSIDE, (x, v) -> x.slow(v, 0, 0));
        for (int w = 0; w < 2; w++) {
            int which = w;
            takes("slow's least", BoundsTest::fresh, 0, 0, 50, 0, (x, v) -> x.slow(which, v, 50));
            refuses("slow's least", 0, 50, OUTSIDE, (x, v) -> x.slow(which, v, 50));
            takes("slow's greatest", BoundsTest::fresh, 0, 0, 50, 0, (x, v) -> x.slow(which, 0, v));
            refuses("slow's greatest", 0, 50, OUTSIDE, (x, v) -> x.slow(which, 0, v));
            takes("slow's only one", BoundsTest::fresh, 0, 0, 50, 0, (x, v) -> x.slow(which, v, v));
            refuses("slow's only one", 0, 50, OUTSIDE, (x, v) -> x.slow(which, v, v));
        }
        BallDrops x = Scenes.right();
        x.slow(0, 50, 50);
        x.slow(1, 0, 50);
        lateIs(x, 0, 50, 100);
        due("slow as it was", x.slow(0, 0, 0), 5050);
        due("slow as it was", x.slow(1, 0, 0), 50);
    }

    private static void promise6LeastAboveGreatest() {
        int[][] spans = {{1, 0}, {50, 49}, {50, 0}, {8, 7}};
        for (int[] s : spans) {
            refused("wire, least above greatest", Scenes::full, x -> x.slow(0, s[0], s[1]), OUTSIDE);
            refused("catch, least above greatest", Scenes::full, x -> x.slow(1, s[0], s[1]), OUTSIDE);
        }
        BallDrops x = new BallDrops();
        due("least as greatest", x.slow(0, 8, 8), 0);
        due("least just below greatest", x.slow(0, 7, 8), 808);
        due("as it was", x.slow(0, 0, 0), 708);
    }

    private static void promise7Slip() {
        takes("slip's day", BoundsTest::fresh, 0, 0, 19, 0, (x, v) -> x.slip(v, 5));
        refuses("slip's day", 0, 19, GONE_UNKNOWN, (x, v) -> x.slip(v, 5));
        takes("slip", x -> x.slip(7, 60), -60, 60, 60, 60, (x, v) -> x.slip(7, v));
        takes("slip", x -> x.slip(7, -60), -60, -60, 60, -60, (x, v) -> x.slip(7, v));
        refuses("slip", -60, 60, GONE_OUTSIDE, (x, v) -> x.slip(7, v));
    }

    private static void promise8Back() {
        takes("back's day", BoundsTest::fresh, 0, 0, 19, 0, (x, v) -> x.back(v, true));
        takes("back's day", x -> {
            x.back(0, true);
            x.back(19, true);
        }, 0, 1, 19, 1, (x, v) -> x.back(v, false));
        refuses("back's day", 0, 19, UNKNOWN, (x, v) -> x.back(v, true));
        refuses("back's day", 0, 19, UNKNOWN, (x, v) -> x.back(v, false));
        // a shift by 32 or by -28 days would be one by 0 or by 4
        for (int day : new int[] {31, 32, 36, -28, -32}) {
            refused("back(" + day + ")", Scenes::full, x -> x.back(day, true), UNKNOWN);
            refused("back(" + day + ")", Scenes::full, x -> x.back(day, false), UNKNOWN);
        }
    }

    private static void promise9Late() {
        Consumer<BallDrops> before = x -> x.star(0, 50);
        takes("late's day", before, 0, -2, 19, -382, (x, v) -> x.late(v, 0));
        refuses("late's day", 0, 19, GONE_UNKNOWN, (x, v) -> x.late(v, 0));
        takes("late's end", before, 0, -2, 1, 2, (x, v) -> x.late(0, v));
        refuses("late's end", 0, 1, GONE_OUTSIDE, (x, v) -> x.late(0, v));
    }

    private static void promise11SetWhere() {
        takes("set's ship", BoundsTest::two, 0, 7, 1, 1, (x, v) -> x.set(v, 0, 5, 1, 0, 10));
        shipOf("set's ship", UNKNOWN, (x, v) -> x.set(v, 0, 5, 1, 0, 10));
        takes("set's clock", BoundsTest::two, 0, 1, 2, 1, (x, v) -> x.set(1, v, 5, 1, 0, 10));
        refuses("set's clock", 0, 2, UNKNOWN, (x, v) -> x.set(1, v, 5, 1, 0, 10));
        takes("set's day", BoundsTest::two, 0, 1, 19, 1, (x, v) -> x.set(1, 0, v, 1, 0, 10));
        refuses("set's day", 0, 19, UNKNOWN, (x, v) -> x.set(1, 0, v, 1, 0, 10));
    }

    private static void promise11SetNumbers() {
        takes("set's how", BoundsTest::two, 0, 7, 2, 7, (x, v) -> x.set(0, 0, 5, v, 0, 10));
        refuses("set's how", 0, 2, OUTSIDE, (x, v) -> x.set(0, 0, 5, v, 0, 10));
        takes("the gun's cables", BoundsTest::two, 0, 7, 30, 7, (x, v) -> x.set(0, 0, 5, 2, v, 10));
        refuses("the gun's cables", 0, 30, OUTSIDE, (x, v) -> x.set(0, 0, 5, 2, v, 10));
        for (int h = 0; h < 3; h++) {
            int how = h;
            takes("what the clock showed", BoundsTest::two, -9999, 7, 9999, 7, (x, v) -> x.set(0, 0, 5, how, 0, v));
            refuses("what the clock showed", -9999, 9999, OUTSIDE, (x, v) -> x.set(0, 0, 5, how, 0, v));
        }
        BallDrops x = Scenes.right();
        x.ship();
        x.set(0, 0, 5, 2, 30, 9999);
        aheadIs(x, 0, 0, 5, 9786, 9852);
        x.set(0, 1, 5, 2, 30, -9999);
        aheadIs(x, 0, 1, 5, -10212, -10146);
    }

    private static void promise11CablesButOfTheGun() {
        for (int h = 0; h < 2; h++) {
            int how = h;
            takes("cables of no gun", BoundsTest::two, 0, 7, 0, 7, (x, v) -> x.set(0, 0, 5, how, v, 10));
            refuses("cables of no gun", 0, 0, OUTSIDE, (x, v) -> x.set(0, 0, 5, how, v, 10));
            refused("30 cables of no gun", Scenes::full, x -> x.set(0, 0, 5, how, 30, 10), OUTSIDE);
        }
    }

    private static void promise12Meet() {
        takes("meet's ship", BoundsTest::two, 0, 7, 1, 1, (x, v) -> x.meet(v, 0, 5, 10, 0));
        shipOf("meet's ship", UNKNOWN, (x, v) -> x.meet(v, 0, 5, 10, 0));
        takes("meet's clock", BoundsTest::two, 0, 1, 2, 1, (x, v) -> x.meet(1, v, 5, 10, 0));
        refuses("meet's clock", 0, 2, UNKNOWN, (x, v) -> x.meet(1, v, 5, 10, 0));
        takes("meet's day", BoundsTest::two, 0, 1, 19, 1, (x, v) -> x.meet(1, 0, v, 10, 0));
        refuses("meet's day", 0, 19, UNKNOWN, (x, v) -> x.meet(1, 0, v, 10, 0));
        takes("meet's read", BoundsTest::two, -99999, 1, 99999, 1, (x, v) -> x.meet(1, 0, 5, v, 0));
        refuses("meet's read", -99999, 99999, OUTSIDE, (x, v) -> x.meet(1, 0, 5, v, 0));
        takes("meet's miles", BoundsTest::two, -9999, 1, 9999, 1, (x, v) -> x.meet(1, 0, 5, 0, v));
        refuses("meet's miles", -9999, 9999, OUTSIDE, (x, v) -> x.meet(1, 0, 5, 0, v));
        BallDrops x = new BallDrops();
        x.ship();
        x.meet(0, 0, 5, 0, 9999);
        aheadIs(x, 0, 0, 5, -40000, -39992);
        x.meet(0, 1, 5, 0, -9999);
        aheadIs(x, 0, 1, 5, 39992, 40000);
    }

    private static void promise13Strike() {
        takes("strike's ship", Scenes::full, 0, 6, 1, 1, (x, v) -> x.strike(v));
        shipOf("strike's ship", UNKNOWN, (x, v) -> x.strike(v));
    }

    private static void promise14Saw() {
        takes("saw's ship", BoundsTest::two, 0, 0, 1, 0, (x, v) -> x.saw(v, 4, true));
        shipOf("saw's ship", UNKNOWN, (x, v) -> x.saw(v, 4, true));
        shipOf("saw's ship", UNKNOWN, (x, v) -> x.saw(v, 4, false));
        takes("saw's day", BoundsTest::two, 0, 0, 19, 0, (x, v) -> x.saw(1, v, true));
        takes("saw's day", y -> {
            two(y);
            y.saw(1, 0, true);
            y.saw(1, 19, true);
        }, 0, 1, 19, 1, (x, v) -> x.saw(1, v, false));
        refuses("saw's day", 0, 19, UNKNOWN, (x, v) -> x.saw(1, v, true));
        refuses("saw's day", 0, 19, UNKNOWN, (x, v) -> x.saw(1, v, false));
        for (int day : new int[] {31, 32, 36, -28, -32}) {
            refused("saw(" + day + ")", Scenes::full, x -> x.saw(1, day, true), UNKNOWN);
            refused("saw(" + day + ")", Scenes::full, x -> x.saw(1, day, false), UNKNOWN);
        }
    }

    private static void promise15ClockWhere() {
        takes("clock's ship", Scenes::full, 0, 3, 1, 0, (x, v) -> x.clock(v, 0, 0, 1));
        shipOf("clock's ship", UNKNOWN, (x, v) -> x.clock(v, 0, 0, 1));
        takes("clock's clock", Scenes::full, 0, 1, 2, 4, (x, v) -> x.clock(0, v, 1, 2));
        refuses("clock's clock", 0, 2, UNKNOWN, (x, v) -> x.clock(0, v, 1, 2));
        takes("clock's what", Scenes::full, 0, 3, 1, 1, (x, v) -> x.clock(0, 0, v, 2));
        refuses("clock's what", 0, 1, OUTSIDE, (x, v) -> x.clock(0, 0, v, 2));
    }

    private static void promise15HeatAndFault() {
        takes("heat", Scenes::full, 0, 3, 5, 3, (x, v) -> x.clock(0, 0, 0, v));
        refuses("heat", 0, 5, OUTSIDE, (x, v) -> x.clock(0, 0, 0, v));
        takes("fault", Scenes::full, 1, 4, 9, 4, (x, v) -> x.clock(0, 2, 1, v));
        refuses("fault", 1, 9, OUTSIDE, (x, v) -> x.clock(0, 2, 1, v));
        for (int v = 6; v < 10; v++) {
            int fault = v;
            refused("a heat as a fault may be", Scenes::full, x -> x.clock(0, 0, 0, fault), OUTSIDE);
        }
        BallDrops x = new BallDrops();
        two(x);
        for (int c = 0; c < 3; c++) {
            due("heat 5", x.clock(0, c, 0, 5), 0);
            due("heat 0", x.clock(0, c, 0, 0), 5);
            due("fault 9", x.clock(0, c, 1, 9), 1);
        }
        // no two of their places share a mile
        weightsAre(x, 729, 81, 81, 0, 81, 0, 0, 0);
    }

    private static void promise16Warm() {
        takes("warm's day", BoundsTest::fresh, 0, 5, 19, 5, (x, v) -> x.warm(v, 7));
        refuses("warm's day", 0, 19, UNKNOWN, (x, v) -> x.warm(v, 7));
        takes("warmth", x -> x.warm(3, 0), 0, 0, 9, 0, (x, v) -> x.warm(3, v));
        takes("warmth", x -> x.warm(3, 9), 0, 9, 9, 9, (x, v) -> x.warm(3, v));
        refuses("warmth", 0, 9, OUTSIDE, (x, v) -> x.warm(3, v));
        BallDrops x = new BallDrops();
        two(x);
        x.clock(0, 0, 0, 5);
        x.warm(10, 9);
        aheadIs(x, 0, 0, 11, 29, 31);
        x.warm(10, 0);
        aheadIs(x, 0, 0, 11, -16, -14);
    }

    private static void promise17Jumped() {
        takes("jumped's ship", Scenes::full, 0, 1, 1, 0, (x, v) -> x.jumped(v, 1));
        shipOf("jumped's ship", UNKNOWN, (x, v) -> x.jumped(v, 1));
        takes("jumped's clock", Scenes::full, 0, 0, 2, 0, (x, v) -> x.jumped(0, v));
        refuses("jumped's clock", 0, 2, UNKNOWN, (x, v) -> x.jumped(0, v));
    }

    private static void promise18Ahead() {
        takes("ahead's ship", BoundsTest::two, 0, 9, 1, -99999, (x, v) -> x.ahead(v, 0, 5, 0));
        shipOf("ahead's ship", GONE_UNKNOWN, (x, v) -> x.ahead(v, 0, 5, 0));
        takes("ahead's clock", BoundsTest::two, 0, 9, 2, 29, (x, v) -> x.ahead(0, v, 5, 0));
        refuses("ahead's clock", 0, 2, GONE_UNKNOWN, (x, v) -> x.ahead(0, v, 5, 0));
        takes("ahead's day", BoundsTest::two, 0, 9, 19, 9, (x, v) -> x.ahead(0, 0, v, 0));
        refuses("ahead's day", 0, 19, GONE_UNKNOWN, (x, v) -> x.ahead(0, 0, v, 0));
        takes("ahead's end", BoundsTest::two, 0, 9, 1, 11, (x, v) -> x.ahead(0, 0, 5, v));
        refuses("ahead's end", 0, 1, GONE_OUTSIDE, (x, v) -> x.ahead(0, 0, 5, v));
    }

    private static void promise19Gains() {
        takes("gains' ship", BoundsTest::two, 0, 0, 1, -99, (x, v) -> x.gains(v, 0, 0));
        shipOf("gains' ship", GONE_UNKNOWN, (x, v) -> x.gains(v, 0, 0));
        takes("gains' clock", BoundsTest::two, 0, 0, 2, 0, (x, v) -> x.gains(0, v, 0));
        refuses("gains' clock", 0, 2, GONE_UNKNOWN, (x, v) -> x.gains(0, v, 0));
        takes("gains' end", BoundsTest::two, 0, -99, 1, 99, (x, v) -> x.gains(1, 0, v));
        refuses("gains' end", 0, 1, GONE_OUTSIDE, (x, v) -> x.gains(0, 0, v));
    }

    private static void promise20Place() {
        takes("place's ship", BoundsTest::two, 0, -3, 1, -25000, (x, v) -> x.place(v, 0, 5, 0, 0));
        shipOf("place's ship", GONE_UNKNOWN, (x, v) -> x.place(v, 0, 5, 0, 0));
        takes("place's clock", BoundsTest::two, 0, -3, 2, -8, (x, v) -> x.place(0, v, 5, 0, 0));
        refuses("place's clock", 0, 2, GONE_UNKNOWN, (x, v) -> x.place(0, v, 5, 0, 0));
        takes("place's day", BoundsTest::two, 0, -3, 19, -3, (x, v) -> x.place(0, 0, v, 0, 0));
        refuses("place's day", 0, 19, GONE_UNKNOWN, (x, v) -> x.place(0, 0, v, 0, 0));
        takes("place's read", BoundsTest::two, -99999, -25003, 99999, 24997, (x, v) -> x.place(0, 0, 5, v, 0));
        refuses("place's read", -99999, 99999, GONE_OUTSIDE, (x, v) -> x.place(0, 0, 5, v, 0));
        takes("place's end", BoundsTest::two, 0, -3, 1, -2, (x, v) -> x.place(0, 0, 5, 0, v));
        refuses("place's end", 0, 1, GONE_OUTSIDE, (x, v) -> x.place(0, 0, 5, 0, v));
    }

    private static void promise21Reads() {
        takes("reads' ship", BoundsTest::two, 0, 1, 1, 1, (x, v) -> x.reads(v, 5, 1, 2, 3));
        shipOf("reads' ship", UNKNOWN, (x, v) -> x.reads(v, 5, 1, 2, 3));
        takes("reads' day", BoundsTest::two, 0, 1, 19, 1, (x, v) -> x.reads(0, v, 1, 2, 3));
        refuses("reads' day", 0, 19, UNKNOWN, (x, v) -> x.reads(0, v, 1, 2, 3));
        takes("what a read", BoundsTest::two, -99999, 1, 99999, 1, (x, v) -> x.reads(0, 5, v, 2, 3));
        refuses("what a read", -99999, 99999, OUTSIDE, (x, v) -> x.reads(0, 5, v, 2, 3));
        takes("what b read", BoundsTest::two, -99999, 1, 99999, 1, (x, v) -> x.reads(0, 5, 1, v, 3));
        refuses("what b read", -99999, 99999, OUTSIDE, (x, v) -> x.reads(0, 5, 1, v, 3));
        takes("what c read", BoundsTest::two, -99999, 1, 99999, 1, (x, v) -> x.reads(0, 5, 1, 2, v));
        refuses("what c read", -99999, 99999, OUTSIDE, (x, v) -> x.reads(0, 5, 1, 2, v));
        for (int read : new int[] {-99999, 99999}) {
            BallDrops x = new BallDrops();
            two(x);
            x.reads(0, 5, read, read, read);
            for (int c = 0; c < 3; c++) {
                faults(x, c == 0 ? 1 : 9, c == 1 ? 1 : 9, c == 2 ? 1 : 9);
                landfallIs(x, 0, x.place(0, c, 5, read, 0), x.place(0, c, 5, read, 1));
            }
        }
    }

    private static void promise22Weight() {
        takes("weight's ship", y -> {
            two(y);
            faults(y, 2, 3, 4);
        }, 0, 24, 1, 1, (x, v) -> x.weight(v, 0));
        shipOf("weight's ship", UNKNOWN, (x, v) -> x.weight(v, 0));
        takes("weight's set", BoundsTest::two, 0, 1, 7, 0, (x, v) -> x.weight(0, v));
        takes("weight's set", BoundsTest::two, 0, 1, 7, 729, (x, v) -> x.weight(1, v));
        refuses("weight's set", 0, 7, OUTSIDE, (x, v) -> x.weight(0, v));
    }

    private static void promise23Odds() {
        takes("odds' ship", BoundsTest::two, 0, 1, 1, 1, (x, v) -> x.odds(v, 0, 0));
        takes("odds' ship", BoundsTest::two, 0, 28, 1, 1000, (x, v) -> x.odds(v, 0, 1));
        shipOf("odds' ship", LOST_UNKNOWN, (x, v) -> x.odds(v, 0, 0));
        takes("odds' set", BoundsTest::two, 0, 1, 7, 729, (x, v) -> x.odds(1, v, 0));
        refuses("odds' set", 0, 7, LOST_OUTSIDE, (x, v) -> x.odds(0, v, 0));
        takes("odds' part", BoundsTest::two, 0, 729, 1, 1000, (x, v) -> x.odds(1, 7, v));
        refuses("odds' part", 0, 1, LOST_OUTSIDE, (x, v) -> x.odds(0, 7, v));
    }

    private static void promise24Best() {
        takes("best's ship", BoundsTest::two, 0, 1, 1, 7, (x, v) -> x.best(v));
        shipOf("best's ship", UNKNOWN, (x, v) -> x.best(v));
    }

    private static void promise25Landfall() {
        takes("landfall's ship", BoundsTest::two, 0, -3, 1, -25000, (x, v) -> x.landfall(v, 0));
        shipOf("landfall's ship", GONE_UNKNOWN, (x, v) -> x.landfall(v, 0));
        takes("landfall's end", BoundsTest::two, 0, -3, 1, -2, (x, v) -> x.landfall(0, v));
        refuses("landfall's end", 0, 1, GONE_OUTSIDE, (x, v) -> x.landfall(0, v));
    }

    /** Clock 0 has jumped for day 0 alone or for day 19 alone. */
    private static void badEnds(BallDrops x) {
        two(x);
        x.set(0, 0, 0, 1, 0, 50);
        x.set(0, 0, 11, 1, 0, 10);
        x.set(0, 1, 19, 1, 0, 50);
        x.set(0, 1, 11, 1, 0, 20);
    }

    private static void promise26Suspect() {
        takes("suspect's day", BoundsTest::badEnds, 0, 1, 19, 1, (x, v) -> x.suspect(v));
        refuses("suspect's day", 0, 19, UNKNOWN, (x, v) -> x.suspect(v));
    }

    private static void promise27Worst() {
        takes("worst's what", BoundsTest::badEnds, 0, 0, 1, 1, (x, v) -> x.worst(v));
        refuses("worst's what", 0, 1, OUTSIDE, (x, v) -> x.worst(v));
    }

    private static void promise28Slipped() {
        Consumer<BallDrops> before = y -> {
            two(y);
            y.set(0, 0, 19, 1, 0, 10);
        };
        takes("slipped's day", before, 0, -2, 19, -2, (x, v) -> x.slipped(v, 0));
        refuses("slipped's day", 0, 19, GONE_UNKNOWN, (x, v) -> x.slipped(v, 0));
        takes("slipped's end", before, 0, -2, 1, 2, (x, v) -> x.slipped(10, v));
        refuses("slipped's end", 0, 1, GONE_OUTSIDE, (x, v) -> x.slipped(10, v));
    }

    private static void promise29Ask() {
        takes("ask's day", y -> {
            two(y);
            y.set(1, 2, 19, 1, 0, 0);
            y.set(1, 2, 19, 1, 0, 1);
        }, 0, 0, 19, 12, (x, v) -> x.ask(v));
        refuses("ask's day", 0, 19, UNKNOWN, (x, v) -> x.ask(v));
    }

    private static void promise30Carry() {
        takes("carry's port", BoundsTest::two, 0, 1, 3, 1, (x, v) -> x.carry(v, 0, 0, 5, 10));
        refuses("carry's port", 0, 3, UNKNOWN, (x, v) -> x.carry(v, 0, 0, 14, 120));
        takes("carry's ship", BoundsTest::two, 0, 1, 1, 1, (x, v) -> x.carry(1, v, 0, 5, 10));
        shipOf("carry's ship", UNKNOWN, (x, v) -> x.carry(1, v, 0, 5, 10));
        takes("carry's clock", BoundsTest::two, 0, 1, 2, 1, (x, v) -> x.carry(1, 0, v, 5, 10));
        refuses("carry's clock", 0, 2, UNKNOWN, (x, v) -> x.carry(1, 0, v, 5, 10));
        takes("carry's day", BoundsTest::two, 0, 1, 19, 1, (x, v) -> x.carry(1, 0, 0, v, 10));
        refuses("carry's day", 0, 19, UNKNOWN, (x, v) -> x.carry(1, 0, 0, v, 10));
        takes("what a carrier showed", BoundsTest::two, -9999, 1, 9999, 1, (x, v) -> x.carry(1, 0, 0, 5, v));
        refuses("what a carrier showed", -9999, 9999, OUTSIDE, (x, v) -> x.carry(1, 0, 0, 5, v));
    }

    private static void promise31Port() {
        takes("port", y -> {
            two(y);
            y.carry(3, 0, 0, 5, 10);
        }, 0, -99999, 3, -3, (x, v) -> x.port(v, 0));
        refuses("port", 0, 3, GONE_UNKNOWN, (x, v) -> x.port(v, 0));
        takes("port's end", BoundsTest::fresh, 0, -99999, 1, 99999, (x, v) -> x.port(0, v));
        refuses("port's end", 0, 1, GONE_OUTSIDE, (x, v) -> x.port(0, v));
    }

    private static void promise32Told() {
        takes("told's what", Scenes::full, 0, 2, 7, BallDrops.NONE, (x, v) -> x.told(v));
        takes("told's what", Scenes::full, 3, (1 << 4) + (1 << 7), 4, 7, (x, v) -> x.told(v));
        refuses("told's what", 0, 7, OUTSIDE, (x, v) -> x.told(v));
    }
}
