/**
 * Spans with nothing left: a star and a carrier that are refused, a clock that has jumped, miles that no place shares,
 * slips that none may have had; and the last number with which one thing is still left.
 */
public final class NothingLeftTest extends Checks {
    private static final int STATE = -100000003;
    private static final int NO = -100000005;

    public static void main(String[] args) {
        starOfTheSameDay();
        starBeyondTheRate();
        starBeyondTheRateOverAllDays();
        starThatLeavesNoWholeRate();
        starThatLeavesNoWholeRateOfWideSpans();
        starBetweenTwo();
        starAtTheLimitsOfOff();
        starRefusedChangesNothing();
        carrierAboveAndBelow();
        carrierAtTheLimitsOfLateness();
        carrierRefusedChangesNothing();
        jumpedByGlass();
        jumpedBySight();
        jumpedByTheGun();
        jumpedByMeetings();
        jumpedByTheRate();
        jumpedByTheRateOverAllDays();
        jumpedByTheRateInHeatAndCold();
        jumpedForWantOfAWholeRate();
        jumpedAtTheLimitsOfAhead();
        jumpedAtTheLimitsOfAheadByTheRate();
        jumpedByALateBall();
        nothingKnownOfOneThatJumped();
        onlyThatClockHasJumped();
        noMileShared();
        noMileSharedByThree();
        noSlipLeft();
        noSlipLeftForTwoClocks();
        slipsWithNoneBetween();
        Due.finish();
    }

    private static BallDrops exact() {
        BallDrops x = new BallDrops();
        x.care(0);
        return x;
    }

    private static void starOfTheSameDay() {
        for (int sign : new int[] {-1, 1}) {
            BallDrops x = new BallDrops();
            x.star(6, 0);
            due("one more than the last", x.star(6, 5 * sign), BallDrops.NO);
            due("the last", x.star(6, 4 * sign), 2);
            offIs(x, 6, 2 * sign, 2 * sign);
            x.care(0);
            due("none but this one", x.star(6, sign), BallDrops.NO);
            due("this one", x.star(6, 2 * sign), 3);
        }
    }

    private static void starBeyondTheRate() {
        for (int sign : new int[] {-1, 1}) {
            BallDrops x = new BallDrops();
            x.star(6, 0);
            due("one more than the last", x.star(7, 25 * sign), BallDrops.NO);
            due("the last", x.star(7, 24 * sign), 2);
            rateIs(x, 20 * sign, 20 * sign);
            offIs(x, 6, 2 * sign, 2 * sign);
            offIs(x, 7, 22 * sign, 22 * sign);
            x = new BallDrops();
            x.star(7, 0);
            due("one more than the last, the day before", x.star(6, 25 * sign), BallDrops.NO);
            due("the last, the day before", x.star(6, 24 * sign), 2);
            rateIs(x, -20 * sign, -20 * sign);
        }
    }

    private static void starBeyondTheRateOverAllDays() {
        for (int sign : new int[] {-1, 1}) {
            BallDrops x = exact();
            x.star(0, 0);
            due("one more than the last", x.star(19, 381 * sign), BallDrops.NO);
            due("the last", x.star(19, 380 * sign), 2);
            rateIs(x, 20 * sign, 20 * sign);
            offIs(x, 10, 200 * sign, 200 * sign);
        }
    }

    private static void starThatLeavesNoWholeRate() {
        for (int off = -6; off <= 6; off++) {
            BallDrops x = exact();
            x.star(4, 0);
            due("star(7, " + off + ")", x.star(7, off), off % 3 == 0 ? 2 : BallDrops.NO);
            if (off % 3 == 0) {
                rateIs(x, off / 3, off / 3);
            } else {
                rateIs(x, -20, 20);
            }
        }
    }

    /** OFF is -2 to 2 ten days before: 4 leaves rate 0 alone, 6 rate 1 alone, and 5 none. */
    private static void starThatLeavesNoWholeRateOfWideSpans() {
        for (int sign : new int[] {-1, 1}) {
            BallDrops x = new BallDrops();
            x.star(2, 0);
            due("none", x.star(12, 5 * sign), BallDrops.NO);
            due("0 alone", x.star(12, 4 * sign), 2);
            rateIs(x, 0, 0);
            offIs(x, 2, 2 * sign, 2 * sign);
            x = new BallDrops();
            x.star(2, 0);
            due("1 alone", x.star(12, 6 * sign), 2);
            rateIs(x, sign, sign);
            offIs(x, 2, -2 * sign, -2 * sign);
            offIs(x, 12, 8 * sign, 8 * sign);
        }
    }

    private static void starBetweenTwo() {
        BallDrops x = exact();
        x.star(0, 0);
        x.star(10, 10);
        due("above", x.star(5, 6), BallDrops.NO);
        due("below", x.star(5, 4), BallDrops.NO);
        due("between", x.star(5, 5), 3);
        x = new BallDrops();
        x.star(0, 0);
        x.star(10, 10);
        rateIs(x, 1, 1);
        due("one above the last", x.star(5, 10), BallDrops.NO);
        due("one below the last", x.star(5, 0), BallDrops.NO);
        due("the last", x.star(5, 9), 3);
        offIs(x, 0, 2, 2);
        offIs(x, 5, 7, 7);
        offIs(x, 10, 12, 12);
    }

    private static void starAtTheLimitsOfOff() {
        for (int sign : new int[] {-1, 1}) {
            BallDrops x = exact();
            x.star(0, 600 * sign);
            due("one more than the rate may lose", x.star(19, 219 * sign), BallDrops.NO);
            due("as much as it may", x.star(19, 220 * sign), 2);
            rateIs(x, -20 * sign, -20 * sign);
            x = new BallDrops();
            x.care(9);
            x.star(3, 600 * sign);
            offIs(x, 3, sign > 0 ? 591 : -600, sign > 0 ? 600 : -591);
            x.care(0);
            due("out", x.star(3, 590 * sign), BallDrops.NO);
            due("just in", x.star(3, 591 * sign), 2);
            offIs(x, 3, 591 * sign, 591 * sign);
        }
    }

    private static void starRefusedChangesNothing() {
        refused("star of the same day", Scenes::full, x -> x.star(2, -24), BallDrops.NO);
        refused("star beyond the rate", x -> x.star(2, 0), x -> x.star(3, 25), BallDrops.NO);
        refused("star of the next day", Scenes::full, x -> x.star(3, -60), BallDrops.NO);
        refused("star of the last day", Scenes::full, x -> x.star(19, 600), BallDrops.NO);
        refused("star by which the rate is not whole", x -> {
            x.care(0);
            x.star(0, 0);
            x.ship();
            x.set(0, 0, 1, 1, 0, 5);
        }, x -> x.star(2, 1), BallDrops.NO);
    }

    private static void carrierAboveAndBelow() {
        BallDrops x = Scenes.rated(10, 10, 10);
        x.carry(2, 0, 0, 5, 20);
        portIs(x, 2, 7, 13);
        due("one above the last", x.carry(2, 0, 0, 5, 27), BallDrops.NO);
        due("one below the last", x.carry(2, 0, 0, 5, 13), BallDrops.NO);
        portIs(x, 2, 7, 13);
        due("the last above", x.carry(2, 0, 0, 5, 26), 1);
        portIs(x, 2, 13, 13);
        due("above the one left", x.carry(2, 0, 0, 5, 27), BallDrops.NO);
        due("below the one left", x.carry(2, 0, 0, 5, 19), BallDrops.NO);
        due("the one left", x.carry(2, 0, 0, 5, 20), 1);
        portIs(x, 2, 13, 13);
        x.carry(3, 0, 0, 5, 20);
        due("the last below", x.carry(3, 0, 0, 5, 14), 1);
        portIs(x, 3, 7, 7);
    }

    /** A clock that is 99995 to 99999 behind or ahead. */
    private static void carrierAtTheLimitsOfLateness() {
        for (int sign : new int[] {-1, 1}) {
            BallDrops x = new BallDrops();
            x.ship();
            x.meet(0, 1, 4, -99999 * sign, 0);
            due("one more than a port may be", x.carry(0, 0, 1, 4, 7 * sign), BallDrops.NO);
            portIs(x, 0, -99999, 99999);
            due("as much as it may", x.carry(0, 0, 1, 4, 6 * sign), 1);
            portIs(x, 0, 99999 * sign, 99999 * sign);
        }
    }

    private static void carrierRefusedChangesNothing() {
        refused("carrier above", Scenes::full, x -> x.carry(0, 0, 0, 14, 900), BallDrops.NO);
        refused("carrier below", Scenes::full, x -> x.carry(0, 0, 0, 14, -900), BallDrops.NO);
        refused("carrier to another port", Scenes::full, x -> x.carry(3, 0, 0, 14, 2500), BallDrops.NO);
        refused("carrier that has jumped", Scenes::full, x -> x.carry(1, 0, 1, 14, 20), BallDrops.STATE);
    }

    private static BallDrops one() {
        BallDrops x = Scenes.right();
        x.ship();
        return x;
    }

    private static void jumpedByGlass() {
        for (int sign : new int[] {-1, 1}) {
            BallDrops x = one();
            x.set(0, 0, 3, 1, 0, 0);
            x.set(0, 0, 3, 1, 0, 2 * sign);
            due("the last", x.jumped(0, 0), 0);
            aheadIs(x, 0, 0, 3, sign, sign);
            x.strike(0);
            x.set(0, 0, 3, 1, 0, 3 * sign);
            due("one more", x.jumped(0, 0), 1);
        }
    }

    private static void jumpedBySight() {
        for (int sign : new int[] {-1, 1}) {
            BallDrops x = one();
            x.set(0, 1, 3, 0, 0, 0);
            x.set(0, 1, 3, 0, 0, 4 * sign);
            due("the last", x.jumped(0, 1), 0);
            aheadIs(x, 0, 1, 3, 2 * sign, 2 * sign);
            x.strike(0);
            x.set(0, 1, 3, 0, 0, 5 * sign);
            due("one more", x.jumped(0, 1), 1);
        }
    }

    /** Heard 2 to 10 late at one cable; by glass the clock is -1 to 1 ahead. At 30 cables 147 to 213 late. */
    private static void jumpedByTheGun() {
        int[][] cases = {{1, 11, 1, 0}, {1, 12, 0, 1}, {1, 1, -1, 0}, {1, 0, 0, 1},
            {0, 4, 1, 0}, {0, 5, 0, 1}, {0, -4, -1, 0}, {0, -5, 0, 1},
            {30, 214, 1, 0}, {30, 215, 0, 1}, {30, 146, -1, 0}, {30, 145, 0, 1}};
        for (int[] c : cases) {
            BallDrops x = one();
            x.set(0, 2, 3, 1, 0, 0);
            x.set(0, 2, 3, 2, c[0], c[1]);
            due(c[0] + " cables, " + c[1], x.jumped(0, 2), c[3]);
            aheadIs(x, 0, 2, 3, c[3] == 1 ? STATE : c[2], c[3] == 1 ? STATE : c[2]);
        }
    }

    private static void jumpedByMeetings() {
        for (int sign : new int[] {-1, 1}) {
            BallDrops x = one();
            x.meet(0, 0, 3, 400, 100);
            x.meet(0, 0, 3, 8 * sign - 40, -10);
            due("the last", x.jumped(0, 0), 0);
            aheadIs(x, 0, 0, 3, 4 * sign, 4 * sign);
            x.strike(0);
            x.meet(0, 0, 3, 9 * sign - 40, -10);
            due("one more", x.jumped(0, 0), 1);
        }
    }

    private static void jumpedByTheRate() {
        for (int sign : new int[] {-1, 1}) {
            BallDrops x = one();
            x.set(0, 0, 18, 1, 0, 0);
            x.set(0, 0, 19, 1, 0, 101 * sign);
            due("the last", x.jumped(0, 0), 0);
            gainsIs(x, 0, 0, 99 * sign, 99 * sign);
            aheadIs(x, 0, 0, 18, sign, sign);
            aheadIs(x, 0, 0, 19, 100 * sign, 100 * sign);
            x.strike(0);
            x.set(0, 0, 19, 1, 0, 102 * sign);
            due("one more", x.jumped(0, 0), 1);
        }
    }

    private static void jumpedByTheRateOverAllDays() {
        for (int sign : new int[] {-1, 1}) {
            BallDrops x = one();
            x.set(0, 0, 19, 1, 0, 0);
            x.set(0, 0, 0, 1, 0, 1883 * sign);
            due("the last", x.jumped(0, 0), 0);
            gainsIs(x, 0, 0, -99 * sign, -99 * sign);
            aheadIs(x, 0, 0, 10, 892 * sign, 892 * sign);
            x.strike(0);
            x.set(0, 0, 0, 1, 0, 1884 * sign);
            due("one more", x.jumped(0, 0), 1);
        }
    }

    private static void jumpedByTheRateInHeatAndCold() {
        int[][] cases = {{9, 121, 0}, {9, 122, 1}, {9, -81, 0}, {9, -82, 1},
            {0, 76, 0}, {0, 77, 1}, {0, -126, 0}, {0, -127, 1}, {5, 101, 0}, {5, 102, 1}};
        for (int[] c : cases) {
            BallDrops x = one();
            x.clock(0, 0, 0, 5);
            x.warm(7, c[0]);
            x.set(0, 0, 7, 1, 0, 0);
            x.set(0, 0, 8, 1, 0, c[1]);
            due("warmth " + c[0] + ", " + c[1], x.jumped(0, 0), c[2]);
        }
    }

    /** In ten days -2 to 2 more than was showed: no whole rate does 3 to 7. */
    private static void jumpedForWantOfAWholeRate() {
        for (int shows = -20; shows <= 20; shows++) {
            BallDrops x = one();
            x.set(0, 0, 5, 1, 0, 0);
            x.set(0, 0, 15, 1, 0, shows);
            int over = Math.abs(shows) % 10;
            due("ten days and " + shows, x.jumped(0, 0), over > 2 && over < 8 ? 1 : 0);
        }
    }

    private static void jumpedAtTheLimitsOfAhead() {
        for (int sign : new int[] {-1, 1}) {
            BallDrops x = one();
            x.meet(0, 0, 3, 99999 * sign, -1 * sign);
            due("the last", x.jumped(0, 0), 0);
            aheadIs(x, 0, 0, 3, 99999 * sign, 99999 * sign);
            x.meet(0, 1, 3, 99996 * sign, -2 * sign);
            due("one more", x.jumped(0, 1), 1);
            x.meet(0, 2, 3, 99999 * sign, -9999 * sign);
            due("as much as may be told", x.jumped(0, 2), 1);
        }
    }

    /** 99999 on day 0, so that it is 98118 at least on day 19. */
    private static void jumpedAtTheLimitsOfAheadByTheRate() {
        for (int sign : new int[] {-1, 1}) {
            BallDrops x = one();
            x.meet(0, 0, 0, 99999 * sign, -1 * sign);
            x.meet(0, 0, 19, 98114 * sign, 0);
            due("the last", x.jumped(0, 0), 0);
            gainsIs(x, 0, 0, -99 * sign, -99 * sign);
            x.strike(0);
            x.meet(0, 0, 19, 98113 * sign, 0);
            due("one less", x.jumped(0, 0), 1);
        }
    }

    private static void jumpedByALateBall() {
        BallDrops x = Scenes.rated(0, 0, 0);
        x.set(0, 0, 15, 1, 0, 0);
        for (int slip : new int[] {2, -2}) {
            x.slip(10, slip);
            due("the last", x.jumped(0, 0), 0);
        }
        for (int slip : new int[] {3, -3}) {
            x.slip(10, slip);
            due("one more", x.jumped(0, 0), 1);
        }
        x.slow(0, 3, 3);
        due("all as late", x.jumped(0, 0), 1);
        x.slow(0, 0, 1);
        due("any of them may be late by 1", x.jumped(0, 0), 0);
    }

    private static void nothingKnownOfOneThatJumped() {
        BallDrops x = one();
        x.set(0, 1, 3, 1, 0, 0);
        x.set(0, 1, 3, 1, 0, 3);
        gainsIs(x, 0, 1, STATE, STATE);
        for (int d = 0; d < 20; d++) {
            aheadIs(x, 0, 1, d, STATE, STATE);
            placeIs(x, 1, d, 0, STATE, STATE);
            due("carry", x.carry(0, 0, 1, d, 0), BallDrops.STATE);
            due("ask", x.ask(d), BallDrops.NONE);
        }
        due("no set with it agrees", x.weight(0, 2) + x.weight(0, 3) + x.weight(0, 6) + x.weight(0, 7), 0);
        portIs(x, 0, -99999, 99999);
    }

    private static void onlyThatClockHasJumped() {
        BallDrops x = Scenes.rated(0, 0, 0);
        Scenes.rate(x, 0, 0, 0);
        x.set(0, 1, 3, 1, 0, 40);
        for (int s = 0; s < 2; s++) {
            for (int c = 0; c < 3; c++) {
                due("jumped(" + s + ", " + c + ")", x.jumped(s, c), s == 0 && c == 1 ? 1 : 0);
            }
        }
        aheadIs(x, 0, 0, 3, -1, 1);
        aheadIs(x, 1, 1, 3, -1, 1);
    }

    private static void noMileShared() {
        for (int sign : new int[] {-1, 1}) {
            BallDrops x = Scenes.rated(0, 0, 0);
            x.reads(0, 5, 0, 8 * sign, 400);
            due("the last", x.weight(0, 3), 81);
            landfallIs(x, 0, sign, sign);
            x.reads(0, 5, 0, 9 * sign, 400);
            due("one more", x.weight(0, 3), 0);
        }
    }

    /** Places -1 to 1, 1 to 3, 3 to 5: each shares a mile with the next, none all three. */
    private static void noMileSharedByThree() {
        BallDrops x = Scenes.rated(0, 0, 0);
        x.reads(0, 5, 0, 8, 16);
        weightsAre(x, 1, 9, 9, 81, 9, 0, 81, 0);
        x.reads(0, 5, 0, 8, 8);
        weightsAre(x, 1, 9, 9, 81, 9, 81, 81, 729);
        landfallIs(x, 0, 1, 1);
    }

    private static BallDrops badFive(int shows) {
        BallDrops x = Scenes.rated(0, 0, 0);
        x.set(0, 0, 15, 1, 0, 0);
        x.set(0, 0, 5, 1, 0, shows);
        return x;
    }

    private static void noSlipLeft() {
        for (int sign : new int[] {-1, 1}) {
            slippedIs(badFive(62 * sign), 5, 60 * sign, 60 * sign);
            slippedIs(badFive(63 * sign), 5, NO, NO);
            int least = sign > 0 ? 59 : -60;
            slippedIs(badFive(61 * sign), 5, least, least + 1);
        }
        refused("slipped, no slip is left", Scenes::full, x -> x.slipped(14, 1), NO);
    }

    private static void noSlipLeftForTwoClocks() {
        BallDrops x = badFive(10);
        x.set(0, 1, 5, 1, 0, 14);
        x.set(0, 1, 15, 1, 0, 0);
        slippedIs(x, 5, 12, 12);
        x.set(0, 2, 5, 1, 0, 15);
        x.set(0, 2, 15, 1, 0, 0);
        slippedIs(x, 5, NO, NO);
    }

    /** Any whole rate over ten days: slips of 53 to 57, 43 to 47 and so on, none between; only the ends are told. */
    private static void slipsWithNoneBetween() {
        BallDrops x = one();
        x.set(0, 0, 0, 1, 0, 0);
        x.set(0, 0, 10, 1, 0, 5);
        due("jumped", x.jumped(0, 0), 1);
        slippedIs(x, 10, -57, 57);
        x.slip(10, -57);
        due("jumped no more", x.jumped(0, 0), 0);
        x.slip(10, -58);
        due("jumped again", x.jumped(0, 0), 1);
        x.slip(10, 57);
        due("jumped no more", x.jumped(0, 0), 0);
        x.slip(10, 58);
        due("jumped again", x.jumped(0, 0), 1);
        x.slip(10, 60);
        slippedIs(x, 10, -57, 57);
    }
}
