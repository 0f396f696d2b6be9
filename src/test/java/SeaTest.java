/** Promises 20 to 25: place, reads, weight, odds, best, landfall. */
public final class SeaTest extends Checks {
    private static final int[] NO_SHIPS = {-1, 2, 4, MIN, MAX};

    public static void main(String[] args) {
        promise20Place();
        promise20Refusals();
        promise21Reads();
        promise22Weight();
        promise22WeightOfJumped();
        promise22Refusals();
        promise23Odds();
        promise24Best();
        promise24BestOfSeveral();
        promise25Landfall();
        Due.finish();
    }

    private static void promise20Place() {
        BallDrops x = Scenes.rated(10, 0, -10);
        placeIs(x, 0, 5, 50, 9, 11);
        placeIs(x, 0, 5, 51, 10, 11);
        placeIs(x, 0, 5, 49, 9, 10);
        placeIs(x, 0, 0, -50, -16, -14);
        placeIs(x, 0, 19, -49, -15, -14);
        placeIs(x, 1, 5, 0, -1, 1);
        placeIs(x, 2, 5, 99999, 25002, 25003);
        placeIs(x, 2, 5, -99999, -24998, -24997);
        x.ship();
        due("nothing known", x.place(1, 0, 0, 0, 0), -25000);
        due("nothing known", x.place(1, 0, 0, 0, 1), 25000);
        due("nothing known, far", x.place(1, 0, 0, 99999, 1), 50000);
        due("nothing known, far", x.place(1, 0, 0, -99999, 0), -50000);
    }

    private static void promise20Refusals() {
        for (int ship : NO_SHIPS) {
            refused("place(" + ship + ")", Scenes::full, x -> x.place(ship, 0, 0, 100000, 2), -100000001);
        }
        for (int bad : new int[] {-1, 3, MIN, MAX}) {
            refused("place by clock " + bad, Scenes::full, x -> x.place(0, bad, 0, 100000, 2), -100000001);
        }
        for (int bad : new int[] {-1, 20, MIN, MAX}) {
            refused("place on " + bad, Scenes::full, x -> x.place(0, 1, bad, 100000, 2), -100000001);
        }
        for (int bad : new int[] {-100000, 100000, MIN, MAX}) {
            refused("place, read " + bad, Scenes::full, x -> x.place(0, 0, 0, bad, 0), -100000002);
            refused("place of one that jumped, read " + bad, Scenes::full, x -> x.place(0, 1, 0, bad, 0), -100000002);
        }
        for (int bad : NO_ENDS) {
            refused("place, end " + bad, Scenes::full, x -> x.place(0, 1, 0, 0, bad), -100000002);
        }
        refused("place of one that jumped", Scenes::full, x -> x.place(0, 1, 0, 0, 1), -100000003);
    }

    private static void promise21Reads() {
        BallDrops x = Scenes.rated(0, 0, 0);
        due("at first, least", x.landfall(0, 0), -1);
        due("at first, greatest", x.landfall(0, 1), 1);
        x.clock(0, 0, 0, 5);
        x.warm(0, 9);
        x.warm(1, 1);
        due("on day 0", x.weight(0, 7), 729);
        due("reads on day 1", x.reads(0, 1, 0, 0, 0), 1);
        due("clock 0 is 20 on then", x.weight(0, 7), 0);
        due("reads on day 1 again", x.reads(0, 1, 20, 0, 0), 1);
        due("all as one", x.weight(0, 7), 729);
        due("reads on day 2", x.reads(0, 2, 20, 0, 0), 1);
        due("clock 0 is right again", x.weight(0, 7), 0);
        due("reads a, b and c", x.reads(0, 5, 400, 800, 1200), 1);
        for (int c = 0; c < 3; c++) {
            faults(x, c == 0 ? 1 : 9, c == 1 ? 1 : 9, c == 2 ? 1 : 9);
            due("by clock " + c + ", least", x.landfall(0, 0), 100 * c + 99);
            due("by clock " + c + ", greatest", x.landfall(0, 1), 100 * c + 101);
        }
        faults(x, 1, 1, 1);
        due("reads at the ends", x.reads(0, 19, -99999, 99999, 0), 1);
        due("landfall by clock 0", x.landfall(0, 0), -25000);
        for (int ship : NO_SHIPS) {
            refused("reads(" + ship + ")", Scenes::full, y -> y.reads(ship, 0, 100000, 0, 0), BallDrops.UNKNOWN);
        }
        for (int day : new int[] {-1, 20, MIN, MAX}) {
            refused("reads on " + day, Scenes::full, y -> y.reads(0, day, 0, 100000, 0), BallDrops.UNKNOWN);
        }
        for (int v : new int[] {-100000, 100000, MIN, MAX}) {
            refused("reads a " + v, Scenes::full, y -> y.reads(0, 3, v, 1, 2), BallDrops.OUTSIDE);
            refused("reads b " + v, Scenes::full, y -> y.reads(0, 3, 1, v, 2), BallDrops.OUTSIDE);
            refused("reads c " + v, Scenes::full, y -> y.reads(0, 3, 1, 2, v), BallDrops.OUTSIDE);
        }
    }

    /** Places -1 to 1, 0 to 2, 99 to 101: only the first two agree. */
    private static BallDrops twoAgree() {
        BallDrops x = Scenes.rated(0, 0, 0);
        faults(x, 2, 3, 4);
        x.reads(0, 5, 0, 4, 400);
        return x;
    }

    private static void promise22Weight() {
        BallDrops x = twoAgree();
        weightsAre(x, 24, 96, 56, 224, 36, 0, 0, 0);
        x.reads(0, 5, 0, 8, 400);
        due("one mile shared", x.weight(0, 3), 224);
        x.reads(0, 5, 0, 12, 400);
        due("no mile shared", x.weight(0, 3), 0);
        x.reads(0, 5, 0, 8, 8);
        weightsAre(x, 24, 96, 56, 224, 36, 144, 84, 336);
        x.reads(0, 5, 0, 8, 0);
        x.clock(0, 0, 1, 9);
        weightsAre(x, 108, 12, 252, 28, 162, 18, 378, 42);
        x.ship();
        due("a ship without settings", x.weight(1, 7), 729);
        due("a ship without settings, none", x.weight(1, 0), 1);
    }

    private static void promise22WeightOfJumped() {
        BallDrops x = Scenes.rated(0, 0, 0);
        x.set(0, 1, 12, 1, 0, 90);
        weightsAre(x, 1, 9, 0, 0, 9, 81, 0, 0);
    }

    private static void promise22Refusals() {
        for (int ship : NO_SHIPS) {
            refused("weight(" + ship + ")", Scenes::full, x -> x.weight(ship, 8), BallDrops.UNKNOWN);
            refused("odds(" + ship + ")", Scenes::full, x -> x.odds(ship, 8, 2), -1000000000000000001L);
            refused("best(" + ship + ")", Scenes::full, x -> x.best(ship), BallDrops.UNKNOWN);
            refused("landfall(" + ship + ")", Scenes::full, x -> x.landfall(ship, 2), -100000001);
        }
        for (int set : new int[] {-1, 8, MIN, MAX}) {
            refused("weight(0, " + set + ")", Scenes::full, x -> x.weight(0, set), BallDrops.OUTSIDE);
            refused("odds(0, " + set + ", 0)", Scenes::full, x -> x.odds(0, set, 0), -1000000000000000002L);
        }
        for (int part : NO_ENDS) {
            refused("odds(0, 0, " + part + ")", Scenes::full, x -> x.odds(0, 0, part), -1000000000000000002L);
            refused("landfall(0, " + part + ")", Scenes::full, x -> x.landfall(0, part), -100000002);
        }
    }

    private static void promise23Odds() {
        BallDrops x = twoAgree();
        oddsAre(x, 0, 6, 109);
        oddsAre(x, 1, 24, 109);
        oddsAre(x, 3, 56, 109);
        oddsAre(x, 4, 9, 109);
        oddsAre(x, 5, 0, 1);
        oddsAre(x, 7, 0, 1);
        x.reads(0, 5, 0, 4, 4);
        faults(x, 5, 5, 5);
        oddsAre(x, 2, 1, 8);
        faults(x, 1, 1, 1);
        oddsAre(x, 0, 1, 1000);
        oddsAre(x, 7, 729, 1000);
        for (int clock = 0; clock < 3; clock++) {
            x.meet(0, clock, 5, 90, 0);
        }
        oddsAre(x, 0, 1, 1);
        oddsAre(x, 1, 0, 1);
    }

    private static void promise24Best() {
        BallDrops x = twoAgree();
        due("two agree", x.best(0), 3);
        x.clock(0, 0, 1, 9);
        x.clock(0, 1, 1, 9);
        due("both are bad", x.best(0), 4);
        x.clock(0, 2, 1, 9);
        due("all are bad", x.best(0), 0);
        x = Scenes.rated(0, 0, 0);
        due("all agree", x.best(0), 7);
        x.set(0, 0, 12, 1, 0, 90);
        due("one has jumped", x.best(0), 6);
        x.set(0, 1, 12, 1, 0, 90);
        x.set(0, 2, 12, 1, 0, 90);
        due("all have jumped", x.best(0), 0);
    }

    private static void promise24BestOfSeveral() {
        BallDrops x = Scenes.rated(0, 0, 0);
        faults(x, 5, 5, 5);
        due("all sets, the largest", x.best(0), 7);
        x.reads(0, 5, 0, 400, 800);
        due("single ones, the least", x.best(0), 1);
        x.reads(0, 5, 0, 8, 16);
        due("3 and 6", x.best(0), 3);
        x.reads(0, 5, 0, 16, 8);
        due("5 and 6", x.best(0), 5);
        x.reads(0, 5, 0, 16, 16);
        due("6 of more clocks than 1", x.best(0), 6);
        faults(x, 9, 5, 5);
        due("the lighter 7", x.best(0), 6);
        x.reads(0, 5, 0, 0, 0);
        due("2, 4, 6 and none", x.best(0), 6);
    }

    private static void promise25Landfall() {
        BallDrops x = twoAgree();
        due("of two, least", x.landfall(0, 0), 0);
        due("of two, greatest", x.landfall(0, 1), 1);
        x.reads(0, 5, 0, 8, 400);
        due("one mile, least", x.landfall(0, 0), 1);
        due("one mile, greatest", x.landfall(0, 1), 1);
        x.reads(0, 5, 400, -403, -403);
        x.clock(0, 0, 1, 5);
        due("of the other two, least", x.landfall(0, 0), -101);
        due("of the other two, greatest", x.landfall(0, 1), -100);
        faults(x, 9, 9, 9);
        due("none trusted, least", x.landfall(0, 0), -100000003);
        due("none trusted, greatest", x.landfall(0, 1), -100000003);
        due("none trusted, outside", x.landfall(0, 2), -100000002);
        x.ship();
        due("nothing known, least", x.landfall(1, 0), -25000);
        due("nothing known, greatest", x.landfall(1, 1), 25000);
    }
}
