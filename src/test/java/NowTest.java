/** What is read as it is now, and what as it was when it was told. */
public final class NowTest extends Checks {
    public static void main(String[] args) {
        starsKeepTheCareOfTheirTime();
        settingsBySlowAsItIsNow();
        settingsBySlipAsItIsNow();
        settingsByStarsAsTheyAreNow();
        settingsByTheMiddleAsItIsNow();
        settingsDoNotRememberTheLateOfTheirTime();
        meetingsByNothingOfTheBall();
        takenBackAndSeenAsTheyAreNow();
        takenBackAndSeenBeforeTheSetting();
        takenBackStillTellsWhenItFell();
        takenBackOfAnotherDayOrSeenByAnotherShip();
        heatAndWarmthAsTheyAreNow();
        warmthOfTheFirstOfBothDays();
        jumpedAsItIsNow();
        readsAsTheyWereToldPlacesAsTheyAreNow();
        readsOnTheDayTheyWereTold();
        readsOfEachShip();
        faultsAsTheyAreNow();
        suspectsAsTheyAreNow();
        slippedInPlaceOfItsOwn();
        slippedByTheOtherDaysSlipsAsTheyAreNow();
        askAsItIsNow();
        carriersAsTheyWereWhenTold();
        carriersAsTheyWereEvenIfTheClockHasJumped();
        carriersByLateAsItWas();
        carriersByHeatAsItWas();
        carriersAddUp();
        takenBackDaysAsTheyAreNow();
        Due.finish();
    }

    private static BallDrops one() {
        BallDrops x = Scenes.right();
        x.ship();
        return x;
    }

    private static void starsKeepTheCareOfTheirTime() {
        BallDrops x = new BallDrops();
        due("care at first", x.care(9), 2);
        x.star(5, 0);
        offIs(x, 5, -9, 9);
        x.care(0);
        offIs(x, 5, -9, 9);
        due("a star with the care of now", x.star(5, 7), 2);
        offIs(x, 5, 7, 7);
        x.care(9);
        offIs(x, 5, 7, 7);
        due("and one that may be 9 off", x.star(5, 16), 3);
        due("but no 10", x.star(5, 17), BallDrops.NO);
        offIs(x, 5, 7, 7);
    }

    private static void settingsBySlowAsItIsNow() {
        BallDrops x = one();
        x.set(0, 0, 5, 1, 0, 100);
        aheadIs(x, 0, 0, 5, 99, 101);
        x.slow(0, 2, 4);
        aheadIs(x, 0, 0, 5, 95, 99);
        x.slow(1, 1, 1);
        aheadIs(x, 0, 0, 5, 94, 98);
        x.slow(0, 0, 50);
        aheadIs(x, 0, 0, 5, 48, 100);
        x.slow(0, 0, 0);
        x.slow(1, 0, 0);
        aheadIs(x, 0, 0, 5, 99, 101);
    }

    private static void settingsBySlipAsItIsNow() {
        BallDrops x = one();
        x.slip(5, 20);
        x.set(0, 0, 5, 1, 0, 100);
        aheadIs(x, 0, 0, 5, 79, 81);
        x.slip(5, -10);
        aheadIs(x, 0, 0, 5, 109, 111);
        x.slip(4, 30);
        x.slip(6, 30);
        aheadIs(x, 0, 0, 5, 109, 111);
        x.slip(5, 0);
        aheadIs(x, 0, 0, 5, 99, 101);
    }

    private static void settingsByStarsAsTheyAreNow() {
        BallDrops x = new BallDrops();
        x.ship();
        x.set(0, 0, 5, 1, 0, 0);
        aheadIs(x, 0, 0, 5, -601, 601);
        x.star(5, 100);
        aheadIs(x, 0, 0, 5, -3, 3);
        x.set(0, 0, 6, 1, 0, 0);
        aheadIs(x, 0, 0, 6, -23, 23);
        x.star(6, 100);
        aheadIs(x, 0, 0, 6, -3, 3);
        x.care(0);
        x.star(6, 100);
        aheadIs(x, 0, 0, 6, -1, 1);
    }

    /** A star moves the middle of a day and with it the ball of that day, noted long before. */
    private static void settingsByTheMiddleAsItIsNow() {
        BallDrops x = new BallDrops();
        x.star(0, 0);
        x.ship();
        x.set(0, 0, 0, 1, 0, 0);
        aheadIs(x, 0, 0, 0, -3, 3);
        x.star(0, 3);
        offIs(x, 0, 1, 2);
        lateIs(x, 0, -1, 0);
        aheadIs(x, 0, 0, 0, -1, 2);
        x.star(0, 4);
        offIs(x, 0, 2, 2);
        aheadIs(x, 0, 0, 0, -1, 1);
    }

    private static void settingsDoNotRememberTheLateOfTheirTime() {
        BallDrops x = one();
        x.slow(0, 7, 9);
        x.slip(5, 60);
        x.set(0, 0, 5, 0, 0, 0);
        aheadIs(x, 0, 0, 5, -71, -65);
        x.slow(0, 0, 0);
        x.slip(5, 0);
        aheadIs(x, 0, 0, 5, -2, 2);
        BallDrops y = one();
        y.set(0, 0, 5, 0, 0, 0);
        y.slow(0, 7, 9);
        y.slip(5, 60);
        aheadIs(y, 0, 0, 5, -71, -65);
    }

    private static void meetingsByNothingOfTheBall() {
        BallDrops x = new BallDrops();
        x.ship();
        x.meet(0, 0, 5, 0, 0);
        x.slow(0, 3, 40);
        x.slip(5, 60);
        x.star(5, 500);
        x.saw(0, 5, true);
        x.back(5, true);
        aheadIs(x, 0, 0, 5, -4, 4);
        due("it stays a meeting", x.ask(5), 0);
    }

    private static void countsOnDay5(BallDrops x, boolean counts) {
        aheadIs(x, 0, 0, 5, counts ? 99 : -99999, counts ? 101 : 99999);
        due("ask", x.ask(5), counts ? 0 : BallDrops.NONE);
    }

    private static void takenBackAndSeenAsTheyAreNow() {
        BallDrops x = one();
        x.set(0, 0, 5, 1, 0, 100);
        countsOnDay5(x, true);
        due("taken back, not seen", x.back(5, true), 0);
        countsOnDay5(x, true);
        due("taken back and seen", x.saw(0, 5, true), 0);
        countsOnDay5(x, false);
        due("seen, not taken back", x.back(5, false), 1);
        countsOnDay5(x, true);
        due("taken back again", x.back(5, true), 0);
        countsOnDay5(x, false);
        due("not seen any more", x.saw(0, 5, false), 1);
        countsOnDay5(x, true);
        x.back(5, false);
        countsOnDay5(x, true);
    }

    private static void takenBackAndSeenBeforeTheSetting() {
        BallDrops x = one();
        x.saw(0, 5, true);
        x.back(5, true);
        due("it is taken down all the same", x.set(0, 0, 5, 1, 0, 100), 1);
        countsOnDay5(x, false);
        x.back(5, false);
        countsOnDay5(x, true);
        x.back(5, true);
        x.saw(0, 5, false);
        countsOnDay5(x, true);
    }

    private static void takenBackStillTellsWhenItFell() {
        BallDrops x = one();
        x.slip(5, 7);
        x.back(5, true);
        lateIs(x, 5, 7, 7);
        x.saw(0, 5, true);
        lateIs(x, 5, 7, 7);
    }

    private static void takenBackOfAnotherDayOrSeenByAnotherShip() {
        BallDrops x = one();
        x.ship();
        x.set(0, 0, 5, 1, 0, 100);
        x.back(5, true);
        x.saw(1, 5, true);
        countsOnDay5(x, true);
        x.saw(0, 4, true);
        x.saw(0, 6, true);
        x.back(4, true);
        x.back(6, true);
        countsOnDay5(x, true);
        x.back(5, false);
        x.saw(0, 5, true);
        countsOnDay5(x, true);
        x.back(5, true);
        countsOnDay5(x, false);
    }

    private static void heatAndWarmthAsTheyAreNow() {
        BallDrops x = one();
        x.set(0, 0, 0, 1, 0, 0);
        x.set(0, 0, 1, 1, 0, 20);
        gainsIs(x, 0, 0, 18, 22);
        x.clock(0, 0, 0, 5);
        gainsIs(x, 0, 0, 18, 22);
        x.warm(0, 9);
        gainsIs(x, 0, 0, -2, 2);
        x.warm(0, 0);
        gainsIs(x, 0, 0, 43, 47);
        x.clock(0, 0, 0, 1);
        gainsIs(x, 0, 0, 23, 27);
        x.clock(0, 0, 0, 0);
        gainsIs(x, 0, 0, 18, 22);
    }

    private static void warmthOfTheFirstOfBothDays() {
        BallDrops x = one();
        x.set(0, 0, 18, 1, 0, 0);
        x.set(0, 0, 19, 1, 0, 20);
        x.clock(0, 0, 0, 5);
        x.warm(19, 9);
        x.warm(17, 9);
        gainsIs(x, 0, 0, 18, 22);
        x.warm(18, 6);
        gainsIs(x, 0, 0, 13, 17);
        x.warm(18, 4);
        gainsIs(x, 0, 0, 23, 27);
    }

    private static void jumpedAsItIsNow() {
        BallDrops x = one();
        x.set(0, 0, 5, 1, 0, 0);
        x.meet(0, 0, 5, 0, 0);
        due("jumped", x.jumped(0, 0), 0);
        x.slip(5, 6);
        due("by a slip", x.jumped(0, 0), 1);
        x.slip(5, 5);
        due("by none", x.jumped(0, 0), 0);
        x.slow(0, 3, 3);
        due("by a slow wire", x.jumped(0, 0), 1);
        x.back(5, true);
        due("taken back", x.jumped(0, 0), 1);
        x.saw(0, 5, true);
        due("and seen", x.jumped(0, 0), 0);
        x.saw(0, 5, false);
        due("not seen", x.jumped(0, 0), 1);
        x.strike(0);
        due("struck", x.jumped(0, 0), 0);
        x.slow(0, 0, 0);
        x.slip(5, 0);
        aheadIs(x, 0, 0, 5, -1, 1);
    }

    private static void readsAsTheyWereToldPlacesAsTheyAreNow() {
        BallDrops x = Scenes.rated(0, 0, 0);
        x.reads(0, 5, 400, 400, 400);
        landfallIs(x, 0, 99, 101);
        x.meet(0, 0, 5, 405, 100);
        landfallIs(x, 0, 99, 100);
        x.meet(0, 0, 5, 406, 100);
        due("one has jumped since", x.best(0), 6);
        landfallIs(x, 0, 99, 101);
        x.strike(0);
        due("and has not", x.best(0), 7);
        x.slip(0, 40);
        x.slip(10, 40);
        due("the one that was met has jumped", x.best(0), 6);
        landfallIs(x, 0, 109, 111);
        x.slip(0, 0);
        x.slip(10, 45);
        due("all have jumped", x.best(0), 0);
        x.slip(10, 0);
        landfallIs(x, 0, 99, 100);
    }

    private static void readsOnTheDayTheyWereTold() {
        BallDrops x = one();
        for (int c = 0; c < 3; c++) {
            x.set(0, c, 0, 1, 0, 0);
            x.set(0, c, 10, 1, 0, 400);
        }
        landfallIs(x, 0, -1, 1);
        x.reads(0, 10, 400, 400, 400);
        landfallIs(x, 0, -1, 1);
        x.reads(0, 5, 400, 400, 400);
        landfallIs(x, 0, 49, 51);
        x.reads(0, 0, 400, 400, 400);
        landfallIs(x, 0, 99, 101);
        x.clock(0, 0, 0, 5);
        x.warm(3, 9);
        landfallIs(x, 0, 99, 101);
        due("on day 0 heat is nothing yet", x.best(0), 7);
    }

    private static void readsOfEachShip() {
        BallDrops x = Scenes.rated(0, 0, 0);
        Scenes.rate(x, 0, 0, 0);
        x.reads(1, 5, 400, 400, 400);
        landfallIs(x, 0, -1, 1);
        landfallIs(x, 1, 99, 101);
        x.reads(0, 5, -400, -400, -400);
        landfallIs(x, 0, -101, -99);
        landfallIs(x, 1, 99, 101);
    }

    private static void faultsAsTheyAreNow() {
        BallDrops x = Scenes.rated(0, 0, 0);
        x.reads(0, 5, 0, 400, 800);
        due("as bad, the first", x.best(0), 1);
        x.clock(0, 0, 1, 2);
        due("the first is worse now", x.best(0), 2);
        x.clock(0, 1, 1, 2);
        due("so is the second", x.best(0), 4);
        x.clock(0, 0, 1, 1);
        due("the first and third are as good", x.best(0), 1);
    }

    private static void suspectsAsTheyAreNow() {
        BallDrops x = Scenes.rated(0, 0, 0);
        x.set(0, 0, 15, 1, 0, 0);
        x.slip(15, 9);
        due("suspect(15)", x.suspect(15), 1);
        due("worst", x.worst(0), 0);
        x.set(0, 0, 17, 1, 0, 0);
        due("worst, one is to blame", x.worst(0), 15);
        x.slip(15, 0);
        due("suspect(15), it did not slip", x.suspect(15), 0);
        due("worst, none", x.worst(1), 0);
        x.slip(15, -9);
        due("suspect(15), it slipped", x.suspect(15), 1);
        x.saw(0, 15, true);
        x.back(15, true);
        due("suspect(15), taken back", x.suspect(15), 0);
    }

    private static void slippedInPlaceOfItsOwn() {
        BallDrops x = Scenes.rated(0, 0, 0);
        x.set(0, 0, 15, 1, 0, 0);
        x.set(0, 0, 5, 1, 0, 30);
        for (int slip : new int[] {0, 30, -60, 60, 28, 33}) {
            x.slip(5, slip);
            slippedIs(x, 5, 28, 32);
            due("and it is as it was", x.slip(5, slip), slip);
        }
    }

    private static void slippedByTheOtherDaysSlipsAsTheyAreNow() {
        BallDrops x = one();
        x.set(0, 0, 5, 1, 0, 0);
        x.set(0, 0, 6, 1, 0, 0);
        x.set(0, 0, 7, 1, 0, 0);
        slippedIs(x, 6, -2, 2);
        x.slip(7, 20);
        slippedIs(x, 6, 8, 12);
        x.slip(5, -20);
        slippedIs(x, 6, -2, 2);
        x.slow(0, 0, 4);
        slippedIs(x, 6, -6, 6);
    }

    private static void askAsItIsNow() {
        BallDrops x = one();
        x.set(0, 0, 5, 1, 0, 0);
        x.meet(0, 1, 5, 0, 0);
        due("the setting is narrower", x.ask(5), 0);
        x.slow(0, 0, 7);
        due("it is wider now", x.ask(5), 1);
        x.slow(0, 0, 6);
        due("as wide", x.ask(5), 0);
        x.slow(0, 0, 0);
        x.back(5, true);
        x.saw(0, 5, true);
        due("it does not count", x.ask(5), 1);
        x.strike(0);
        due("nothing is left", x.ask(5), BallDrops.NONE);
    }

    private static void carriersAsTheyWereWhenTold() {
        BallDrops x = Scenes.rated(10, 10, 10);
        x.carry(1, 0, 0, 5, 20);
        portIs(x, 1, 7, 13);
        x.meet(0, 0, 5, 15, 0);
        aheadIs(x, 0, 0, 5, 11, 11);
        portIs(x, 1, 7, 13);
        due("told again, by what is known now", x.carry(1, 0, 0, 5, 20), 1);
        portIs(x, 1, 7, 11);
        for (int left = 6; left >= 0; left--) {
            due("strike", x.strike(0), left);
        }
        aheadIs(x, 0, 0, 5, -99999, 99999);
        portIs(x, 1, 7, 11);
        due("nothing is known now", x.carry(1, 0, 0, 5, 20), 1);
        portIs(x, 1, 7, 11);
    }

    private static void carriersAsTheyWereEvenIfTheClockHasJumped() {
        BallDrops x = Scenes.rated(10, 10, 10);
        x.carry(1, 0, 0, 5, 20);
        x.set(0, 0, 5, 1, 0, 90);
        due("jumped", x.jumped(0, 0), 1);
        due("it tells nothing more", x.carry(1, 0, 0, 5, 20), BallDrops.STATE);
        portIs(x, 1, 7, 13);
        x.saw(0, 5, true);
        x.back(5, true);
        due("but as that ball is taken back", x.carry(1, 0, 0, 5, 21), 1);
        portIs(x, 1, 8, 13);
    }

    private static void carriersByLateAsItWas() {
        BallDrops x = one();
        x.set(0, 0, 5, 1, 0, 10);
        x.carry(2, 0, 0, 5, 20);
        portIs(x, 2, 7, 13);
        x.slip(5, 4);
        x.slow(0, 0, 20);
        portIs(x, 2, 7, 13);
        x.slow(0, 0, 0);
        due("the clock is 4 less ahead now", x.carry(2, 0, 0, 5, 20), 1);
        portIs(x, 2, 11, 13);
        x.slip(5, 0);
        portIs(x, 2, 11, 13);
        x.saw(0, 5, true);
        x.back(5, true);
        portIs(x, 2, 11, 13);
    }

    private static void carriersByHeatAsItWas() {
        BallDrops x = Scenes.rated(10, 10, 10);
        x.clock(0, 2, 0, 2);
        x.warm(10, 8);
        x.carry(0, 0, 2, 11, 20);
        portIs(x, 0, 1, 7);
        x.warm(10, 5);
        portIs(x, 0, 1, 7);
        due("by the warmth of now", x.carry(0, 0, 2, 11, 20), 1);
        portIs(x, 0, 7, 7);
        x.clock(0, 2, 0, 0);
        portIs(x, 0, 7, 7);
    }

    private static void carriersAddUp() {
        BallDrops x = Scenes.rated(10, 10, 10);
        x.carry(0, 0, 0, 5, 20);
        x.carry(0, 0, 1, 6, 23);
        x.carry(0, 0, 2, 7, 18);
        portIs(x, 0, 10, 11);
        portIs(x, 1, -99999, 99999);
    }

    private static void takenBackDaysAsTheyAreNow() {
        BallDrops x = new BallDrops();
        x.back(3, true);
        x.back(19, true);
        x.back(0, true);
        due("days", x.told(3), 1 + 8 + (1 << 19));
        x.back(3, false);
        due("days", x.told(3), 1 + (1 << 19));
        x.back(3, false);
        due("days", x.told(3), 1 + (1 << 19));
    }
}
