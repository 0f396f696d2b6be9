/** Cut down and cut up, below 0, too: OFF's middle, the ends of PLACE, the whole rates, and fractions in lowest terms. */
public final class CutTest extends Checks {
    public static void main(String[] args) {
        middleOfTwo();
        middleOfThree();
        middleOfFour();
        middleOfAnotherDay();
        middleMovesTheShips();
        ratesOfTheObservatory();
        ratesOfClocks();
        ratesOfClocksInCold();
        placeOfOneAhead();
        placeOfOneAheadOrBehind();
        placeOfSpans();
        placeFarOff();
        landfallIsCutLikewise();
        landfallOfSeveral();
        milesOfMeetings();
        oddsInLowestTerms();
        oddsOfNothingAndOfAll();
        Due.finish();
    }

    /** OFF of day 0 is from one number to one as far above as told, 1 to 4. */
    private static BallDrops offFrom(int least, int wide) {
        BallDrops x = new BallDrops();
        x.care(wide);
        x.star(0, least);
        x.star(0, least + wide);
        offIs(x, 0, least, least + wide);
        return x;
    }

    private static void middleOfTwo() {
        for (int least : new int[] {-600, -599, -4, -3, -2, -1, 0, 1, 2, 3, 598, 599}) {
            lateIs(offFrom(least, 1), 0, -1, 0);
        }
    }

    private static void middleOfThree() {
        for (int least : new int[] {-600, -599, -4, -3, -2, -1, 0, 1, 2, 3, 597, 598}) {
            lateIs(offFrom(least, 2), 0, -1, 1);
        }
    }

    private static void middleOfFour() {
        for (int least : new int[] {-600, -599, -4, -3, -2, -1, 0, 1, 2, 3, 596, 597}) {
            lateIs(offFrom(least, 3), 0, -2, 1);
        }
    }

    /** Day 1 is from 20 below to 20 above day 0, so that its ends are odd together, too. */
    private static void middleOfAnotherDay() {
        for (int least : new int[] {-101, -21, -20, -1, 0, 1, 20, 21, 101}) {
            BallDrops x = offFrom(least, 1);
            offIs(x, 1, least - 20, least + 21);
            lateIs(x, 1, -21, 20);
        }
    }

    private static void middleMovesTheShips() {
        BallDrops x = offFrom(-2, 1);
        x.ship();
        x.set(0, 0, 0, 1, 0, 0);
        aheadIs(x, 0, 0, 0, -1, 2);
        x.star(0, -2);
        aheadIs(x, 0, 0, 0, -1, 2);
        x.care(0);
        x.star(0, -1);
        aheadIs(x, 0, 0, 0, -1, 1);
    }

    /** -2 to 2 on day 0, as much on day 3: the whole rates that may be, the least cut up, the greatest cut down. */
    private static void ratesOfTheObservatory() {
        int[][] cases = {{10, 2, 4}, {11, 3, 5}, {12, 3, 5}, {-10, -4, -2}, {-11, -5, -3}, {-12, -5, -3},
            {0, -1, 1}, {1, -1, 1}, {2, 0, 2}, {-1, -1, 1}, {-2, -2, 0}, {3, 0, 2}, {-3, -2, 0}};
        for (int[] c : cases) {
            BallDrops x = new BallDrops();
            x.star(0, 0);
            x.star(3, c[0]);
            rateIs(x, c[1], c[2]);
        }
    }

    /** -1 to 1 on day 4, as much on day 7. */
    private static void ratesOfClocks() {
        int[][] cases = {{10, 3, 4}, {11, 3, 4}, {12, 4, 4}, {-10, -4, -3}, {-11, -4, -3}, {-12, -4, -4},
            {0, 0, 0}, {1, 0, 1}, {-1, -1, 0}, {2, 0, 1}, {-2, -1, 0}};
        for (int[] c : cases) {
            BallDrops x = Scenes.right();
            x.ship();
            x.set(0, 0, 4, 1, 0, 0);
            x.set(0, 0, 7, 1, 0, c[0]);
            gainsIs(x, 0, 0, c[1], c[2]);
        }
    }

    /** As ratesOfClocks, but a cold day has taken 5 of what it showed. */
    private static void ratesOfClocksInCold() {
        int[][] cases = {{5, 3, 4}, {6, 3, 4}, {7, 4, 4}, {-15, -4, -3}, {-16, -4, -3}, {-17, -4, -4},
            {-5, 0, 0}, {-4, 0, 1}, {-6, -1, 0}};
        for (int[] c : cases) {
            BallDrops x = Scenes.right();
            x.ship();
            x.clock(0, 0, 0, 5);
            x.warm(5, 4);
            x.set(0, 0, 4, 1, 0, 0);
            x.set(0, 0, 7, 1, 0, c[0]);
            gainsIs(x, 0, 0, c[1], c[2]);
        }
    }

    /** On day 0 all three clocks are ahead by the number itself, no more and no less. */
    private static BallDrops exactly(int ahead) {
        BallDrops x = Scenes.right();
        x.ship();
        for (int c = 0; c < 3; c++) {
            x.set(0, c, 0, 1, 0, ahead - 1);
            x.set(0, c, 0, 1, 0, ahead + 1);
            aheadIs(x, 0, c, 0, ahead, ahead);
        }
        return x;
    }

    private static void placeOfOneAhead() {
        BallDrops x = exactly(0);
        int[][] cases = {{-9, -3, -2}, {-8, -2, -2}, {-7, -2, -1}, {-6, -2, -1}, {-5, -2, -1}, {-4, -1, -1},
            {-3, -1, 0}, {-2, -1, 0}, {-1, -1, 0}, {0, 0, 0}, {1, 0, 1}, {2, 0, 1}, {3, 0, 1}, {4, 1, 1},
            {5, 1, 2}, {6, 1, 2}, {7, 1, 2}, {8, 2, 2}, {9, 2, 3}};
        for (int[] c : cases) {
            placeIs(x, 1, 0, c[0], c[1], c[2]);
        }
    }

    private static void placeOfOneAheadOrBehind() {
        BallDrops x = exactly(7);
        placeIs(x, 0, 0, 7, 0, 0);
        placeIs(x, 0, 0, 6, -1, 0);
        placeIs(x, 0, 0, 8, 0, 1);
        placeIs(x, 0, 0, 0, -2, -1);
        x = exactly(-7);
        placeIs(x, 0, 0, -7, 0, 0);
        placeIs(x, 0, 0, -8, -1, 0);
        placeIs(x, 0, 0, -6, 0, 1);
        placeIs(x, 0, 0, 0, 1, 2);
    }

    /** -1 to 1 ahead: the least by the greatest of them, the greatest by the least. */
    private static void placeOfSpans() {
        BallDrops x = Scenes.rated(0, 0, 0);
        int[][] cases = {{-5, -2, -1}, {-4, -2, 0}, {-3, -1, 0}, {-2, -1, 0}, {-1, -1, 0}, {0, -1, 1},
            {1, 0, 1}, {2, 0, 1}, {3, 0, 1}, {4, 0, 2}, {5, 1, 2}};
        for (int[] c : cases) {
            placeIs(x, 2, 5, c[0], c[1], c[2]);
        }
    }

    private static void placeFarOff() {
        BallDrops x = exactly(0);
        placeIs(x, 0, 0, 99999, 24999, 25000);
        placeIs(x, 0, 0, -99999, -25000, -24999);
        x.ship();
        x.meet(1, 0, 0, 99999, 0);
        due("as far west as may be", x.place(1, 0, 0, -99999, 0), -50000);
        due("as far west as may be", x.place(1, 0, 0, -99999, 1), -49998);
        x.meet(1, 1, 0, -99999, 0);
        due("as far east as may be", x.place(1, 1, 0, 99999, 0), 49998);
        due("as far east as may be", x.place(1, 1, 0, 99999, 1), 50000);
    }

    private static void landfallIsCutLikewise() {
        BallDrops x = exactly(0);
        for (int read = -9; read <= 9; read++) {
            x.reads(0, 0, read, read, read);
            due("best", x.best(0), 7);
            landfallIs(x, 0, Math.floorDiv(read, 4), -Math.floorDiv(-read, 4));
        }
    }

    /** Places -2 to -1 and -1 to 0 share -1; 0 to 1 and 1 to 2 share 1. */
    private static void landfallOfSeveral() {
        BallDrops x = exactly(0);
        x.reads(0, 0, -5, -3, -6);
        landfallIs(x, 0, -1, -1);
        x.reads(0, 0, 5, 3, 6);
        landfallIs(x, 0, 1, 1);
        x.reads(0, 0, -1, 1, 0);
        landfallIs(x, 0, 0, 0);
    }

    private static void milesOfMeetings() {
        BallDrops x = new BallDrops();
        x.ship();
        x.meet(0, 0, 0, 1, -1);
        aheadIs(x, 0, 0, 0, 1, 9);
        x.meet(0, 1, 0, -1, 1);
        aheadIs(x, 0, 1, 0, -9, -1);
    }

    private static void oddsInLowestTerms() {
        BallDrops x = exactly(0);
        oddsAre(x, 0, 1, 1000);
        oddsAre(x, 1, 9, 1000);
        oddsAre(x, 3, 81, 1000);
        oddsAre(x, 7, 729, 1000);
        faults(x, 2, 2, 2);
        oddsAre(x, 0, 1, 125);
        oddsAre(x, 1, 4, 125);
        oddsAre(x, 3, 16, 125);
        oddsAre(x, 7, 64, 125);
        faults(x, 5, 5, 5);
        for (int set = 0; set < 8; set++) {
            oddsAre(x, set, 1, 8);
        }
        faults(x, 2, 5, 6);
        oddsAre(x, 7, 4, 25);
        oddsAre(x, 0, 3, 50);
    }

    private static void oddsOfNothingAndOfAll() {
        BallDrops x = exactly(0);
        x.reads(0, 0, 0, 400, 800);
        oddsAre(x, 3, 0, 1);
        oddsAre(x, 7, 0, 1);
        oddsAre(x, 1, 9, 28);
        oddsAre(x, 0, 1, 28);
        for (int c = 0; c < 3; c++) {
            x.meet(0, c, 0, 99999, 0);
        }
        oddsAre(x, 0, 1, 1);
        oddsAre(x, 4, 0, 1);
    }
}
