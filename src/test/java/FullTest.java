/** Full: the last star, ship, setting or meeting that there may be, the one after it, and room again once one has gone. */
public final class FullTest extends Checks {
    public static void main(String[] args) {
        twentyStars();
        starsOfOneDay();
        refusedStarsTakeNoRoom();
        fourShips();
        twelveSettings();
        twelveMeetings();
        settingsAndMeetingsTogether();
        roomAgainAfterStrike();
        lastOneTellsAsTheFirst();
        settingsThatDoNotCountTakeRoom();
        refusedOnesTakeNoRoom();
        eachShipHasRoomOfItsOwn();
        carriersHaveNoBound();
        fullChangesNothing();
        calls512();
        Due.finish();
    }

    private static void twentyStars() {
        BallDrops x = new BallDrops();
        for (int i = 0; i < 20; i++) {
            due("star " + (i + 1), x.star(i, 3 * i), i + 1);
            due("stars", x.told(0), i + 1);
        }
        offIs(x, 0, -2, 2);
        due("a narrower one, the 21st", x.star(0, 3), BallDrops.FULL);
        due("the 21st that nothing would be left by", x.star(0, 600), BallDrops.FULL);
        due("stars", x.told(0), 20);
        offIs(x, 0, -2, 2);
    }

    private static void starsOfOneDay() {
        BallDrops x = new BallDrops();
        for (int i = 1; i < 20; i++) {
            due("star " + i, x.star(19, -600), i);
        }
        x.care(0);
        due("the 20th tells, too", x.star(19, -599), 20);
        offIs(x, 19, -599, -599);
        due("the 21st", x.star(19, -599), BallDrops.FULL);
    }

    private static void refusedStarsTakeNoRoom() {
        BallDrops x = new BallDrops();
        for (int i = 1; i < 20; i++) {
            due("star " + i, x.star(4, 0), i);
            due("nothing left", x.star(4, 5), BallDrops.NO);
            due("outside", x.star(4, 601), BallDrops.OUTSIDE);
            due("no day", x.star(20, 0), BallDrops.UNKNOWN);
        }
        due("stars", x.told(0), 19);
        due("the 20th", x.star(4, 4), 20);
        offIs(x, 4, 2, 2);
        due("the 21st", x.star(4, 2), BallDrops.FULL);
    }

    private static void fourShips() {
        BallDrops x = new BallDrops();
        for (int s = 0; s < 4; s++) {
            due("told before ship " + s, x.told(4 + s), BallDrops.NONE);
            due("ship " + s, x.ship(), s);
            due("told of ship " + s, x.told(4 + s), 0);
        }
        for (int i = 0; i < 3; i++) {
            due("a fifth", x.ship(), BallDrops.FULL);
            due("ships", x.told(1), 4);
        }
        due("the last is one", x.meet(3, 2, 19, 0, 0), 1);
        due("the one after is none", x.meet(4, 0, 0, 0, 0), BallDrops.UNKNOWN);
    }

    private static BallDrops one() {
        BallDrops x = Scenes.right();
        x.ship();
        return x;
    }

    private static void twelveSettings() {
        BallDrops x = one();
        for (int n = 1; n <= 12; n++) {
            due("setting " + n, x.set(0, n % 3, n, n % 2, 0, 0), n);
            due("told", x.told(4), n);
        }
        due("the 13th setting", x.set(0, 0, 0, 0, 0, 0), BallDrops.FULL);
        due("the 13th, of another clock", x.set(0, 2, 19, 2, 30, 9999), BallDrops.FULL);
        due("the 13th, a meeting", x.meet(0, 0, 0, 0, 0), BallDrops.FULL);
        due("told", x.told(4), 12);
    }

    private static void twelveMeetings() {
        BallDrops x = one();
        for (int n = 1; n <= 12; n++) {
            due("meeting " + n, x.meet(0, n % 3, n, 4 * n, n), n);
        }
        due("the 13th meeting", x.meet(0, 0, 0, 0, 0), BallDrops.FULL);
        due("the 13th, a setting", x.set(0, 0, 0, 0, 0, 0), BallDrops.FULL);
        due("told", x.told(4), 12);
    }

    private static void settingsAndMeetingsTogether() {
        BallDrops x = one();
        for (int n = 1; n <= 12; n += 2) {
            due("a setting, " + n, x.set(0, 0, 3, 0, 0, 0), n);
            due("a meeting, " + (n + 1), x.meet(0, 1, 3, 0, 0), n + 1);
        }
        due("the 13th setting", x.set(0, 0, 3, 0, 0, 0), BallDrops.FULL);
        due("the 13th meeting", x.meet(0, 1, 3, 0, 0), BallDrops.FULL);
    }

    private static void roomAgainAfterStrike() {
        BallDrops x = one();
        for (int n = 1; n <= 12; n++) {
            x.set(0, 0, 3, 0, 0, 0);
        }
        due("the 13th", x.meet(0, 0, 3, 0, 0), BallDrops.FULL);
        due("one goes", x.strike(0), 11);
        due("room for one", x.meet(0, 0, 3, 6, 0), 12);
        aheadIs(x, 0, 0, 3, 2, 2);
        due("for one only", x.set(0, 0, 3, 0, 0, 0), BallDrops.FULL);
        for (int left = 11; left >= 0; left--) {
            due("strike", x.strike(0), left);
        }
        due("none is left", x.strike(0), BallDrops.NO);
        for (int n = 1; n <= 12; n++) {
            due("room for all", x.set(0, 1, 3, 1, 0, 70), n);
        }
        due("and no more", x.set(0, 1, 3, 1, 0, 70), BallDrops.FULL);
        aheadIs(x, 0, 0, 3, -99999, 99999);
        aheadIs(x, 0, 1, 3, 69, 71);
    }

    private static void lastOneTellsAsTheFirst() {
        BallDrops x = one();
        x.meet(0, 0, 3, 50, 0);
        for (int n = 2; n <= 11; n++) {
            x.meet(0, 1, 3, 0, 0);
        }
        x.set(0, 2, 3, 1, 0, 7);
        aheadIs(x, 0, 0, 3, 46, 54);
        aheadIs(x, 0, 2, 3, 6, 8);
        due("the refused one", x.set(0, 2, 3, 1, 0, 9), BallDrops.FULL);
        aheadIs(x, 0, 2, 3, 6, 8);
        x.strike(0);
        aheadIs(x, 0, 2, 3, -99999, 99999);
        x.meet(0, 0, 3, 57, 0);
        aheadIs(x, 0, 0, 3, 53, 54);
    }

    private static void settingsThatDoNotCountTakeRoom() {
        BallDrops x = one();
        x.saw(0, 3, true);
        x.back(3, true);
        for (int n = 1; n <= 12; n++) {
            due("setting " + n, x.set(0, 0, 3, 1, 0, 0), n);
        }
        due("the 13th", x.set(0, 0, 3, 1, 0, 0), BallDrops.FULL);
        due("ask", x.ask(3), BallDrops.NONE);
        due("strike", x.strike(0), 11);
    }

    private static void refusedOnesTakeNoRoom() {
        BallDrops x = one();
        for (int n = 1; n <= 12; n++) {
            due("no clock", x.set(0, 3, 3, 1, 0, 0), BallDrops.UNKNOWN);
            due("no way", x.set(0, 0, 3, 3, 0, 0), BallDrops.OUTSIDE);
            due("too far", x.meet(0, 0, 3, 0, 10000), BallDrops.OUTSIDE);
            due("setting " + n, x.set(0, 0, 3, 1, 0, 0), n);
        }
        due("the 13th", x.set(0, 0, 3, 1, 0, 0), BallDrops.FULL);
    }

    private static void eachShipHasRoomOfItsOwn() {
        BallDrops x = Scenes.right();
        for (int s = 0; s < 4; s++) {
            x.ship();
        }
        for (int n = 1; n <= 12; n++) {
            for (int s = 0; s < 4; s++) {
                due("ship " + s, x.set(s, n % 3, n, 1, 0, 100 * s), n);
            }
        }
        for (int s = 0; s < 4; s++) {
            due("ship " + s + ", the 13th", x.set(s, 0, 0, 1, 0, 100 * s), BallDrops.FULL);
            due("told", x.told(4 + s), 12);
            for (int c = 0; c < 3; c++) {
                aheadIs(x, s, c, c == 0 ? 3 : c, 100 * s - 1, 100 * s + 1);
            }
        }
        due("strike", x.strike(2), 11);
        due("room in ship 2", x.meet(2, 0, 3, 200, 0), 12);
        due("none in ship 1", x.meet(1, 0, 3, 100, 0), BallDrops.FULL);
        due("none in ship 3", x.meet(3, 0, 3, 300, 0), BallDrops.FULL);
    }

    private static void carriersHaveNoBound() {
        BallDrops x = Scenes.rated(0, 0, 0);
        for (int i = 0; i < 400; i++) {
            due("carrier " + i, x.carry(i % 4, 0, i % 3, i % 20, i % 4 == 1 ? 1 : 0), 1);
        }
        portIs(x, 0, -3, 3);
        portIs(x, 1, -2, 4);
    }

    private static void fullChangesNothing() {
        refused("a 21st star", Scenes::noRoomForStars, x -> x.star(14, 7), BallDrops.FULL);
        refused("a fifth ship", Scenes::noRoomForShips, x -> x.ship(), BallDrops.FULL);
        refused("a 13th setting", Scenes::noRoomForNotes, x -> x.set(0, 2, 9, 1, 0, 40), BallDrops.FULL);
        refused("a 13th meeting", Scenes::noRoomForNotes, x -> x.meet(0, 0, 9, 1000, 230), BallDrops.FULL);
    }

    /** The 512th call still answers as the first; four are made before. */
    private static void calls512() {
        BallDrops x = one();
        int calls = 4;
        while (calls + 5 <= 512) {
            due("set", x.set(0, 0, 3, 1, 0, 5), 1);
            due("meet", x.meet(0, 1, 3, 0, 0), 2);
            due("ahead", x.ahead(0, 0, 3, 0), 4);
            due("strike", x.strike(0), 1);
            due("strike", x.strike(0), 0);
            calls += 5;
        }
        while (calls < 512) {
            due("call " + (calls + 1), x.told(4), 0);
            calls++;
        }
    }
}
