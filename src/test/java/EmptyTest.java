/** Empty: no stars, no ships, a ship that was told nothing, the empty set, a day without a setting by its ball. */
public final class EmptyTest extends Checks {
    public static void main(String[] args) {
        noStars();
        noStarsButSlowAndSlip();
        noShips();
        noShipsAndCarriers();
        shipToldNothing();
        shipToldNothingAsk();
        shipToldNothingInHeat();
        shipToldNothingAtSea();
        shipToldNothingCarries();
        clockToldNothingBesideOthers();
        allStruckIsAsAtFirst();
        allThatDoesNotCountIsAsNothing();
        emptySetAgrees();
        emptySetWhenAllHaveJumped();
        emptySetIsBest();
        noneSuspected();
        dayWithoutASettingSlipsAsItLikes();
        dayWithAMeetingIsWithoutASetting();
        dayWithASettingThatDoesNotCount();
        settingByTheBallOfAnotherDay();
        noneTakenBack();
        Due.finish();
    }

    private static void noStars() {
        BallDrops x = new BallDrops();
        due("stars", x.told(0), 0);
        rateIs(x, -20, 20);
        for (int d = 0; d < 20; d++) {
            offIs(x, d, -600, 600);
            lateIs(x, d, -600, 600);
        }
    }

    private static void noStarsButSlowAndSlip() {
        BallDrops x = new BallDrops();
        x.slow(0, 50, 50);
        x.slow(1, 0, 50);
        x.slip(3, 60);
        lateIs(x, 3, -490, 760);
        x.slip(3, -60);
        lateIs(x, 3, -610, 640);
        lateIs(x, 4, -550, 700);
        x.ship();
        x.set(0, 0, 3, 1, 0, 0);
        aheadIs(x, 0, 0, 3, -641, 611);
    }

    private static void noShips() {
        BallDrops x = Scenes.right();
        due("ships", x.told(1), 0);
        for (int s = 0; s < 4; s++) {
            due("settings and meetings of no ship", x.told(4 + s), BallDrops.NONE);
        }
        for (int d = 0; d < 20; d++) {
            due("suspect", x.suspect(d), 0);
            due("ask", x.ask(d), BallDrops.NONE);
            slippedIs(x, d, -60, 60);
        }
        due("worst day", x.worst(0), 0);
        due("worst", x.worst(1), 0);
    }

    private static void noShipsAndCarriers() {
        BallDrops x = Scenes.right();
        for (int p = 0; p < 4; p++) {
            due("carry", x.carry(p, 0, 0, 0, 0), BallDrops.UNKNOWN);
            portIs(x, p, -99999, 99999);
        }
    }

    private static BallDrops one() {
        BallDrops x = Scenes.right();
        x.ship();
        return x;
    }

    private static void shipToldNothing() {
        BallDrops x = one();
        due("settings and meetings", x.told(4), 0);
        due("strike", x.strike(0), BallDrops.NO);
        due("settings and meetings then", x.told(4), 0);
        for (int c = 0; c < 3; c++) {
            due("jumped", x.jumped(0, c), 0);
            gainsIs(x, 0, c, -99, 99);
            for (int d = 0; d < 20; d++) {
                aheadIs(x, 0, c, d, -99999, 99999);
            }
        }
    }

    private static void shipToldNothingAsk() {
        BallDrops x = one();
        for (int d = 0; d < 20; d++) {
            due("ask", x.ask(d), BallDrops.NONE);
            due("suspect", x.suspect(d), 0);
            slippedIs(x, d, -60, 60);
        }
        due("worst day", x.worst(0), 0);
        due("worst", x.worst(1), 0);
    }

    /** Heat alone tells nothing: any rate goes with any ends. */
    private static void shipToldNothingInHeat() {
        BallDrops x = one();
        x.clock(0, 1, 0, 5);
        for (int d = 0; d < 20; d++) {
            x.warm(d, d % 2 == 0 ? 9 : 0);
        }
        due("jumped", x.jumped(0, 1), 0);
        gainsIs(x, 0, 1, -99, 99);
        for (int d = 0; d < 20; d++) {
            aheadIs(x, 0, 1, d, -99999, 99999);
            due("ask", x.ask(d), BallDrops.NONE);
        }
    }

    private static void shipToldNothingAtSea() {
        BallDrops x = one();
        placeIs(x, 0, 0, 0, -25000, 25000);
        placeIs(x, 2, 19, 1, -25000, 25000);
        placeIs(x, 2, 19, -1, -25000, 25000);
        weightsAre(x, 1, 9, 9, 81, 9, 81, 81, 729);
        oddsAre(x, 0, 1, 1000);
        oddsAre(x, 7, 729, 1000);
        due("best", x.best(0), 7);
        landfallIs(x, 0, -25000, 25000);
    }

    private static void shipToldNothingCarries() {
        BallDrops x = one();
        due("carry", x.carry(0, 0, 0, 0, 0), 1);
        portIs(x, 0, -99999, 99999);
        due("carry, as much as may be", x.carry(1, 0, 1, 0, 9999), 1);
        portIs(x, 1, -90002, 99999);
        due("carry, as little as may be", x.carry(2, 0, 2, 19, -9999), 1);
        portIs(x, 2, -99999, 90002);
    }

    private static void clockToldNothingBesideOthers() {
        BallDrops x = one();
        x.set(0, 1, 3, 1, 0, 0);
        x.meet(0, 1, 8, 0, 0);
        aheadIs(x, 0, 0, 3, -99999, 99999);
        aheadIs(x, 0, 2, 8, -99999, 99999);
        due("ask", x.ask(3), 1);
        x.set(0, 1, 3, 1, 0, 90);
        due("the one that was told has jumped", x.jumped(0, 1), 1);
        due("those told nothing have not", x.jumped(0, 0) + x.jumped(0, 2), 0);
        due("ask none", x.ask(3), BallDrops.NONE);
        weightsAre(x, 1, 9, 0, 0, 9, 81, 0, 0);
    }

    private static void allStruckIsAsAtFirst() {
        BallDrops x = one();
        x.set(0, 0, 3, 1, 0, 7);
        x.meet(0, 0, 9, 400, 0);
        due("strike", x.strike(0), 1);
        due("strike", x.strike(0), 0);
        due("strike", x.strike(0), BallDrops.NO);
        aheadIs(x, 0, 0, 3, -99999, 99999);
        gainsIs(x, 0, 0, -99, 99);
        due("ask", x.ask(3), BallDrops.NONE);
        due("told again", x.meet(0, 0, 9, 0, 0), 1);
        aheadIs(x, 0, 0, 9, -4, 4);
    }

    private static void allThatDoesNotCountIsAsNothing() {
        BallDrops x = one();
        x.set(0, 0, 3, 1, 0, 7);
        x.set(0, 0, 3, 1, 0, 90);
        due("jumped", x.jumped(0, 0), 1);
        x.saw(0, 3, true);
        x.back(3, true);
        due("jumped no more", x.jumped(0, 0), 0);
        aheadIs(x, 0, 0, 3, -99999, 99999);
        gainsIs(x, 0, 0, -99, 99);
        due("ask", x.ask(3), BallDrops.NONE);
        slippedIs(x, 3, -60, 60);
        due("suspect", x.suspect(3), 0);
        due("they stay among its settings", x.told(4), 2);
        due("and may be struck", x.strike(0), 1);
    }

    private static void emptySetAgrees() {
        BallDrops x = one();
        faults(x, 9, 8, 7);
        due("weight of the empty set", x.weight(0, 0), 504);
        faults(x, 1, 1, 1);
        due("weight of the empty set", x.weight(0, 0), 1);
        faults(x, 9, 9, 9);
        due("weight of the empty set", x.weight(0, 0), 729);
        x.reads(0, 0, 99999, -99999, 0);
        due("whatever they read", x.weight(0, 0), 729);
    }

    private static BallDrops allJumped() {
        BallDrops x = one();
        for (int c = 0; c < 3; c++) {
            x.set(0, c, 0, 1, 0, 0);
            x.set(0, c, 0, 1, 0, 50);
        }
        return x;
    }

    private static void emptySetWhenAllHaveJumped() {
        BallDrops x = allJumped();
        faults(x, 2, 3, 4);
        weightsAre(x, 24, 0, 0, 0, 0, 0, 0, 0);
        oddsAre(x, 0, 1, 1);
        for (int set = 1; set < 8; set++) {
            oddsAre(x, set, 0, 1);
        }
        due("best", x.best(0), 0);
        due("ask", x.ask(0), BallDrops.NONE);
    }

    private static void emptySetIsBest() {
        BallDrops x = one();
        faults(x, 6, 5, 5);
        due("6, 5, 5: those of 5", x.best(0), 6);
        faults(x, 6, 6, 6);
        due("6, 6, 6: none", x.best(0), 0);
        landfallIs(x, 0, -100000003, -100000003);
        due("the end is looked at first", x.landfall(0, 2), -100000002);
        refused("landfall of none, least", y -> {
            Scenes.full(y);
            emptyBest(y);
        }, y -> y.landfall(0, 0), -100000003);
        refused("landfall of none, greatest", y -> {
            Scenes.full(y);
            emptyBest(y);
        }, y -> y.landfall(0, 1), -100000003);
    }

    private static void emptyBest(BallDrops x) {
        faults(x, 9, 9, 9);
        due("best", x.best(0), 0);
    }

    private static void noneSuspected() {
        BallDrops x = Scenes.rated(0, 0, 0);
        for (int d = 0; d < 20; d++) {
            due("suspect", x.suspect(d), 0);
        }
        due("worst: day 0, as there are none", x.worst(0), 0);
        due("worst: none", x.worst(1), 0);
        x.meet(0, 0, 7, 400, 0);
        x.meet(0, 0, 7, 800, 0);
        due("jumped by meetings alone", x.jumped(0, 0), 1);
        due("worst: day 0, as no ball is to blame", x.worst(0), 0);
        due("worst: none is to blame", x.worst(1), 0);
    }

    private static void dayWithoutASettingSlipsAsItLikes() {
        BallDrops x = Scenes.rated(0, 0, 0);
        x.set(0, 0, 0, 1, 0, 50);
        due("jumped", x.jumped(0, 0), 1);
        for (int d = 0; d < 20; d++) {
            if (d == 0 || d == 10) {
                slippedIs(x, d, -100000005, -100000005);
            } else {
                slippedIs(x, d, -60, 60);
                due("suspect", x.suspect(d), 0);
            }
        }
        x.slip(5, 44);
        slippedIs(x, 5, -60, 60);
    }

    private static void dayWithAMeetingIsWithoutASetting() {
        BallDrops x = one();
        x.meet(0, 0, 5, 0, 0);
        x.meet(0, 0, 5, 9, 0);
        due("jumped", x.jumped(0, 0), 1);
        slippedIs(x, 5, -60, 60);
        due("suspect", x.suspect(5), 0);
        x.strike(0);
        x.slip(5, 60);
        aheadIs(x, 0, 0, 5, -4, 4);
    }

    private static void dayWithASettingThatDoesNotCount() {
        BallDrops x = Scenes.rated(0, 0, 0);
        x.set(0, 0, 5, 1, 0, 51);
        x.set(0, 0, 15, 1, 0, 0);
        slippedIs(x, 5, 49, 53);
        x.back(5, true);
        slippedIs(x, 5, 49, 53);
        x.saw(0, 5, true);
        slippedIs(x, 5, -60, 60);
        due("suspect", x.suspect(5), 0);
        x.back(5, false);
        slippedIs(x, 5, 49, 53);
        due("suspect", x.suspect(5), 1);
    }

    private static void settingByTheBallOfAnotherDay() {
        BallDrops x = one();
        x.set(0, 2, 6, 1, 0, 0);
        slippedIs(x, 5, -60, 60);
        slippedIs(x, 6, -60, 60);
        slippedIs(x, 7, -60, 60);
        x.set(0, 2, 6, 1, 0, 3);
        due("jumped", x.jumped(0, 2), 1);
        slippedIs(x, 5, -60, 60);
        slippedIs(x, 6, -100000005, -100000005);
        slippedIs(x, 7, -60, 60);
        due("suspect(5)", x.suspect(5), 0);
        due("suspect(6)", x.suspect(6), 1);
        due("suspect(7)", x.suspect(7), 0);
    }

    private static void noneTakenBack() {
        BallDrops x = new BallDrops();
        due("days taken back", x.told(3), 0);
        for (int d = 0; d < 20; d++) {
            due("back", x.back(d, true), 0);
            due("that day alone", x.told(3), 1 << d);
            due("back", x.back(d, false), 1);
            due("none again", x.told(3), 0);
        }
    }
}
