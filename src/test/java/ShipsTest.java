/** Promises 10 to 19: ship, set, meet, strike, saw, clock, warm, jumped, ahead, gains. */
public final class ShipsTest extends Checks {
    /** What is no ship and what is no clock, where there are two ships. */
    private static final int[][] NO_CLOCKS = {{-1, 0}, {2, 0}, {4, 0}, {MIN, 0}, {MAX, 0},
        {0, -1}, {0, 3}, {1, MIN}, {1, MAX}};

    public static void main(String[] args) {
        promise10Ship();
        promise11SetTellsAhead();
        promise11SetByALateBall();
        promise11Edges();
        promise11Refusals();
        promise12Meet();
        promise12MeetAtTheEnds();
        promise12Refusals();
        promise13Strike();
        promise14Saw();
        promise15Clock();
        promise16Warm();
        promise17Jumped();
        promise18Ahead();
        promise19Gains();
        promise19AheadAtItsLimits();
        Due.finish();
    }

    private static void promise10Ship() {
        BallDrops x = new BallDrops();
        for (int s = 0; s < 4; s++) {
            due("no ship " + s + " yet", x.jumped(s, 2), BallDrops.UNKNOWN);
            due("ship()", x.ship(), s);
            due("told(1)", x.told(1), s + 1);
            due("ship " + s, x.jumped(s, 2), 0);
        }
        refused("fifth ship()", Scenes::noRoomForShips, BallDrops::ship, BallDrops.FULL);
    }

    private static void promise11SetTellsAhead() {
        BallDrops x = Scenes.right();
        x.ship();
        due("by sight", x.set(0, 0, 0, 0, 0, 100), 1);
        aheadIs(x, 0, 0, 0, 98, 102);
        due("by glass", x.set(0, 1, 0, 1, 0, 100), 2);
        aheadIs(x, 0, 1, 0, 99, 101);
        due("by the gun at hand", x.set(0, 2, 0, 2, 0, 100), 3);
        aheadIs(x, 0, 2, 0, 97, 103);
        x.ship();
        due("by the gun, 1 cable", x.set(1, 0, 0, 2, 1, 100), 1);
        aheadIs(x, 1, 0, 0, 90, 98);
        due("by the gun, 30 cables", x.set(1, 1, 19, 2, 30, 100), 2);
        aheadIs(x, 1, 1, 19, -113, -47);
        aheadIs(x, 1, 1, 18, -212, 52);
        aheadIs(x, 1, 2, 0, -99999, 99999);
        due("a second setting", x.set(1, 1, 19, 0, 0, -50), 3);
        aheadIs(x, 1, 1, 19, -52, -48);
    }

    private static void promise11SetByALateBall() {
        BallDrops x = Scenes.right();
        x.ship();
        x.set(0, 0, 5, 0, 0, 100);
        x.slow(0, 2, 4);
        aheadIs(x, 0, 0, 5, 94, 100);
        x.slow(1, 0, 10);
        aheadIs(x, 0, 0, 5, 84, 100);
        x.slip(5, -20);
        aheadIs(x, 0, 0, 5, 104, 120);
        x.slip(5, 0);
        x.slow(0, 0, 0);
        x.slow(1, 0, 0);
        aheadIs(x, 0, 0, 5, 98, 102);
        BallDrops y = new BallDrops();
        y.ship();
        y.set(0, 0, 0, 1, 0, 7);
        aheadIs(y, 0, 0, 0, -594, 608);
        y.star(0, 599);
        aheadIs(y, 0, 0, 0, 5, 10);
    }

    private static void promise11Edges() {
        BallDrops x = Scenes.right();
        x.ship();
        due("shows -9999", x.set(0, 0, 0, 1, 0, -9999), 1);
        aheadIs(x, 0, 0, 0, -10000, -9998);
        due("shows 9999", x.set(0, 2, 19, 1, 0, 9999), 2);
        aheadIs(x, 0, 2, 19, 9998, 10000);
        for (int n = 3; n <= 12; n++) {
            due("note " + n, n % 2 == 0 ? x.set(0, 0, 0, 1, 0, -9999) : x.meet(0, 1, 3, 0, 0), n);
        }
        due("note 13", x.set(0, 0, 0, 1, 0, -9999), BallDrops.FULL);
        due("note 13, a meeting", x.meet(0, 1, 3, 0, 0), BallDrops.FULL);
        x.ship();
        due("another ship's first", x.set(1, 0, 0, 1, 0, 0), 1);
    }

    private static void promise11Refusals() {
        for (int[] c : NO_CLOCKS) {
            refused("set(" + c[0] + ", " + c[1] + ")", Scenes::noRoomForNotes,
                    x -> x.set(c[0], c[1], 0, 3, 0, 0), BallDrops.UNKNOWN);
        }
        for (int day : NO_DAYS) {
            refused("set on " + day, Scenes::noRoomForNotes, x -> x.set(0, 0, day, 0, 1, 10000), BallDrops.UNKNOWN);
        }
        int[][] outside = {{-1, 0, 0}, {3, 0, 0}, {MIN, 0, 0}, {MAX, 0, 0}, {0, 1, 0}, {0, -1, 0}, {1, 1, 0}, {1, 30, 0},
            {2, -1, 0}, {2, 31, 0}, {2, MIN, 0}, {2, MAX, 0}, {0, 0, 10000}, {1, 0, -10000}, {2, 30, MIN}, {2, 0, MAX}};
        for (int[] o : outside) {
            String call = "set(1, 0, 0, " + o[0] + ", " + o[1] + ", " + o[2] + ")";
            refused(call, Scenes::full, x -> x.set(1, 0, 0, o[0], o[1], o[2]), BallDrops.OUTSIDE);
            refused(call + " without room", Scenes::noRoomForNotes,
                    x -> x.set(0, 0, 0, o[0], o[1], o[2]), BallDrops.OUTSIDE);
        }
        refused("a 13th note", Scenes::noRoomForNotes, x -> x.set(0, 0, 0, 2, 30, 0), BallDrops.FULL);
    }

    private static void promise12Meet() {
        BallDrops x = new BallDrops();
        x.ship();
        due("meet(0, 0, 5, 100, 10)", x.meet(0, 0, 5, 100, 10), 1);
        aheadIs(x, 0, 0, 5, 56, 64);
        aheadIs(x, 0, 0, 6, -43, 163);
        due("meet(0, 0, 5, -100, -42)", x.meet(0, 0, 5, -100, -42), 2);
        aheadIs(x, 0, 0, 5, 64, 64);
        due("meet(0, 1, 5, -100, 10)", x.meet(0, 1, 5, -100, 10), 3);
        aheadIs(x, 0, 1, 5, -144, -136);
        x.back(5, true);
        x.saw(0, 5, true);
        x.slip(5, 30);
        aheadIs(x, 0, 1, 5, -144, -136);
    }

    private static void promise12MeetAtTheEnds() {
        BallDrops x = new BallDrops();
        x.ship();
        due("far east", x.meet(0, 0, 0, 99999, 9999), 1);
        aheadIs(x, 0, 0, 0, 59999, 60007);
        due("far west", x.meet(0, 1, 19, -99999, -9999), 2);
        aheadIs(x, 0, 1, 19, -60007, -59999);
        due("just in", x.meet(0, 2, 0, 99999, -1), 3);
        aheadIs(x, 0, 2, 0, 99999, 99999);
        due("just out", x.meet(0, 2, 0, 99999, -2), 4);
        due("jumped(0, 2)", x.jumped(0, 2), 1);
    }

    private static void promise12Refusals() {
        for (int[] c : NO_CLOCKS) {
            refused("meet(" + c[0] + ", " + c[1] + ")", Scenes::noRoomForNotes,
                    x -> x.meet(c[0], c[1], 0, 100000, 0), BallDrops.UNKNOWN);
        }
        for (int day : NO_DAYS) {
            refused("meet on " + day, Scenes::noRoomForNotes, x -> x.meet(0, 0, day, 0, 10000), BallDrops.UNKNOWN);
        }
        int[][] outside = {{100000, 0}, {-100000, 0}, {MIN, 0}, {MAX, 0}, {0, 10000}, {0, -10000}, {0, MIN}, {0, MAX}};
        for (int[] o : outside) {
            String call = "meet(0, 0, 0, " + o[0] + ", " + o[1] + ")";
            refused(call, Scenes::full, x -> x.meet(0, 0, 0, o[0], o[1]), BallDrops.OUTSIDE);
            refused(call + " without room", Scenes::noRoomForNotes,
                    x -> x.meet(0, 0, 0, o[0], o[1]), BallDrops.OUTSIDE);
        }
        refused("a 13th note", Scenes::noRoomForNotes, x -> x.meet(0, 2, 9, 1000, 240), BallDrops.FULL);
    }

    private static void promise13Strike() {
        BallDrops x = Scenes.right();
        x.ship();
        x.ship();
        x.set(0, 0, 0, 1, 0, 100);
        x.set(1, 0, 0, 1, 0, 7);
        x.meet(0, 0, 0, 101, 0);
        x.set(0, 1, 0, 1, 0, 20);
        due("strike(0)", x.strike(0), 2);
        aheadIs(x, 0, 1, 0, -99999, 99999);
        x.set(0, 0, 0, 1, 0, 102);
        aheadIs(x, 0, 0, 0, 101, 101);
        due("strike(0)", x.strike(0), 2);
        due("strike(0)", x.strike(0), 1);
        aheadIs(x, 0, 0, 0, 99, 101);
        due("strike(0)", x.strike(0), 0);
        due("told(4)", x.told(4), 0);
        due("strike(0), none left", x.strike(0), BallDrops.NO);
        aheadIs(x, 1, 0, 0, 6, 8);
        due("told(5)", x.told(5), 1);
        for (int ship : new int[] {-1, 2, 4, MIN, MAX}) {
            refused("strike(" + ship + ")", Scenes::full, y -> y.strike(ship), BallDrops.UNKNOWN);
        }
        refused("strike of a ship without notes", Scenes::noRoomForShips, y -> y.strike(3), BallDrops.NO);
    }

    private static void promise14Saw() {
        BallDrops x = Scenes.right();
        x.ship();
        x.ship();
        x.set(0, 0, 5, 1, 0, 100);
        x.set(1, 0, 5, 1, 0, 100);
        due("saw(0, 5, true)", x.saw(0, 5, true), 0);
        aheadIs(x, 0, 0, 5, 99, 101);
        x.back(5, true);
        aheadIs(x, 0, 0, 5, -99999, 99999);
        aheadIs(x, 1, 0, 5, 99, 101);
        due("ask(5)", x.ask(5), 10);
        x.back(5, false);
        aheadIs(x, 0, 0, 5, 99, 101);
        x.back(5, true);
        due("saw(0, 5, false)", x.saw(0, 5, false), 1);
        aheadIs(x, 0, 0, 5, 99, 101);
        x.saw(0, 4, true);
        x.back(4, true);
        aheadIs(x, 0, 0, 5, 99, 101);
        due("saw(0, 0, true)", x.saw(0, 0, true), 0);
        due("saw(0, 0, true) again", x.saw(0, 0, true), 1);
        due("saw(1, 19, true)", x.saw(1, 19, true), 0);
        due("saw(1, 19, false)", x.saw(1, 19, false), 1);
        due("saw(1, 19, false) again", x.saw(1, 19, false), 0);
        for (int ship : new int[] {-1, 2, 4, MIN, MAX}) {
            refused("saw(" + ship + ", 0)", Scenes::full, y -> y.saw(ship, 0, true), BallDrops.UNKNOWN);
        }
        for (int day : NO_DAYS) {
            refused("saw(1, " + day + ")", Scenes::full, y -> y.saw(1, day, true), BallDrops.UNKNOWN);
        }
    }

    private static void promise15Clock() {
        BallDrops x = Scenes.right();
        x.ship();
        due("heat 5", x.clock(0, 0, 0, 5), 0);
        due("heat 0", x.clock(0, 0, 0, 0), 5);
        due("fault 9", x.clock(0, 2, 1, 9), 1);
        due("fault 1", x.clock(0, 2, 1, 1), 9);
        due("heat of another clock", x.clock(0, 2, 0, 2), 0);
        due("fault of another clock", x.clock(0, 1, 1, 3), 1);
        x.set(0, 0, 0, 1, 0, 0);
        x.set(0, 0, 2, 1, 0, 12);
        x.warm(1, 7);
        gainsIs(x, 0, 0, 5, 7);
        x.clock(0, 0, 0, 3);
        gainsIs(x, 0, 0, 2, 4);
        aheadIs(x, 0, 0, 1, 1, 5);
        for (int[] c : NO_CLOCKS) {
            refused("clock(" + c[0] + ", " + c[1] + ")", Scenes::full,
                    y -> y.clock(c[0], c[1], 2, 0), BallDrops.UNKNOWN);
        }
        int[][] outside = {{-1, 1}, {2, 1}, {MIN, 1}, {MAX, 1}, {0, -1}, {0, 6}, {0, MIN}, {0, MAX},
            {1, 0}, {1, 10}, {1, MIN}, {1, MAX}};
        for (int[] o : outside) {
            refused("clock(0, 0, " + o[0] + ", " + o[1] + ")", Scenes::full,
                    y -> y.clock(0, 0, o[0], o[1]), BallDrops.OUTSIDE);
        }
    }

    /** By days 0 and 10 the clock gains -7 to -3 in all, which is no whole rate unless a cold day takes 5. */
    private static void promise16Warm() {
        BallDrops x = Scenes.right();
        x.ship();
        x.set(0, 0, 0, 1, 0, 100);
        x.set(0, 0, 10, 1, 0, 95);
        x.clock(0, 0, 0, 1);
        due("jumped, mild", x.jumped(0, 0), 1);
        due("warm(10, 0)", x.warm(10, 0), 5);
        due("jumped, the last day cold", x.jumped(0, 0), 1);
        due("warm(10, 5)", x.warm(10, 5), 0);
        due("warm(0, 0)", x.warm(0, 0), 5);
        due("jumped, the first day cold", x.jumped(0, 0), 0);
        gainsIs(x, 0, 0, 0, 0);
        aheadIs(x, 0, 0, 0, 99, 101);
        aheadIs(x, 0, 0, 1, 94, 96);
        due("warm(0, 9)", x.warm(0, 9), 0);
        due("jumped, the first day hot", x.jumped(0, 0), 0);
        gainsIs(x, 0, 0, -1, -1);
        due("warm(19, 9)", x.warm(19, 9), 5);
        due("warm(19, 1)", x.warm(19, 1), 9);
        for (int day : NO_DAYS) {
            refused("warm(" + day + ", 0)", Scenes::full, y -> y.warm(day, 0), BallDrops.UNKNOWN);
            refused("warm(" + day + ", 10)", Scenes::full, y -> y.warm(day, 10), BallDrops.UNKNOWN);
        }
        for (int v : new int[] {-1, 10, MIN, MAX}) {
            refused("warm(0, " + v + ")", Scenes::full, y -> y.warm(0, v), BallDrops.OUTSIDE);
        }
    }

    private static void promise17Jumped() {
        BallDrops x = Scenes.rated(0, 0, 0);
        due("jumped(0, 0)", x.jumped(0, 0), 0);
        x.meet(0, 0, 5, 5, 0);
        due("5 off at a meeting", x.jumped(0, 0), 0);
        x.meet(0, 0, 5, 6, 0);
        due("6 off at a meeting", x.jumped(0, 0), 1);
        due("another clock", x.jumped(0, 1), 0);
        x.strike(0);
        due("jumped no more", x.jumped(0, 0), 0);
        x.set(0, 2, 11, 1, 0, 3);
        due("a setting after", x.jumped(0, 2), 1);
        x.slip(11, 1);
        due("as the ball slipped", x.jumped(0, 2), 0);
        x.ship();
        x.set(1, 0, 0, 1, 0, 0);
        x.set(1, 0, 1, 1, 0, 101);
        due("gains 99", x.jumped(1, 0), 0);
        x.set(1, 1, 0, 1, 0, 0);
        x.set(1, 1, 1, 1, 0, 102);
        due("gains 100", x.jumped(1, 1), 1);
        for (int[] c : NO_CLOCKS) {
            refused("jumped(" + c[0] + ", " + c[1] + ")", Scenes::full, y -> y.jumped(c[0], c[1]), BallDrops.UNKNOWN);
        }
    }

    private static void promise18Ahead() {
        BallDrops x = Scenes.right();
        x.ship();
        x.set(0, 1, 4, 1, 0, 0);
        x.set(0, 1, 8, 1, 0, 40);
        gainsIs(x, 0, 1, 10, 10);
        for (int d = 0; d < 20; d++) {
            aheadIs(x, 0, 1, d, 10 * (d - 4) - 1, 10 * (d - 4) + 1);
        }
        x.set(0, 1, 9, 1, 0, 0);
        aheadIs(x, 0, 1, 4, -100000003, -100000003);
        due("outside before jumped", x.ahead(0, 1, 4, 2), -100000002);
        for (int[] c : NO_CLOCKS) {
            refused("ahead(" + c[0] + ", " + c[1] + ")", Scenes::full, y -> y.ahead(c[0], c[1], 0, 2), -100000001);
        }
        for (int day : NO_DAYS) {
            refused("ahead on " + day, Scenes::full, y -> y.ahead(0, 1, day, 2), -100000001);
        }
        for (int end : new int[] {-1, 2, MIN, MAX}) {
            refused("ahead, end " + end, Scenes::full, y -> y.ahead(0, 1, 0, end), -100000002);
        }
        refused("ahead of one that jumped", Scenes::full, y -> y.ahead(0, 1, 0, 0), -100000003);
    }

    private static void promise19Gains() {
        BallDrops x = Scenes.right();
        x.ship();
        x.set(0, 0, 0, 0, 0, 0);
        x.set(0, 0, 3, 0, 0, -40);
        gainsIs(x, 0, 0, -14, -12);
        x.set(0, 2, 18, 0, 0, 0);
        x.set(0, 2, 19, 0, 0, 97);
        gainsIs(x, 0, 2, 93, 99);
        x.set(0, 2, 19, 0, 0, 200);
        gainsIs(x, 0, 2, -100000003, -100000003);
        due("outside before jumped", x.gains(0, 2, -1), -100000002);
        for (int[] c : NO_CLOCKS) {
            refused("gains(" + c[0] + ", " + c[1] + ")", Scenes::full, y -> y.gains(c[0], c[1], 2), -100000001);
        }
        for (int end : new int[] {-1, 2, MIN, MAX}) {
            refused("gains, end " + end, Scenes::full, y -> y.gains(0, 1, end), -100000002);
        }
        refused("gains of one that jumped", Scenes::full, y -> y.gains(0, 1, 1), -100000003);
    }

    /** 99995 ahead on day 0 and no more than 99999 on day 19 leave no rate above 0; 20 by a hot day none above -16. */
    private static void promise19AheadAtItsLimits() {
        BallDrops x = new BallDrops();
        x.ship();
        x.meet(0, 0, 0, 99999, 0);
        aheadIs(x, 0, 0, 0, 99995, 99999);
        gainsIs(x, 0, 0, -99, 0);
        aheadIs(x, 0, 0, 19, 98114, 99999);
        x.clock(0, 0, 0, 5);
        x.warm(0, 9);
        gainsIs(x, 0, 0, -99, -16);
        x.meet(0, 1, 19, -99999, 0);
        gainsIs(x, 0, 1, -99, 0);
    }
}
