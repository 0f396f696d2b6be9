/** Objects that several tests begin with. */
final class Scenes {
    private Scenes() { }

    /** The observatory's clock is right on every day and gains nothing, so that each ball falls at one. */
    static BallDrops right() {
        BallDrops x = new BallDrops();
        makeRight(x);
        return x;
    }

    static void makeRight(BallDrops x) {
        x.care(0);
        x.star(0, 0);
        x.star(1, 0);
    }

    /** As right, with one ship whose clocks are each set by glass on days 0 and 10: no rate, 1 give or take. */
    static BallDrops rated(int a, int b, int c) {
        BallDrops x = right();
        rate(x, a, b, c);
        return x;
    }

    static void rate(BallDrops x, int a, int b, int c) {
        int ship = x.ship();
        int[] shows = {a, b, c};
        for (int clock = 0; clock < 3; clock++) {
            x.set(ship, clock, 0, 1, 0, shows[clock]);
            x.set(ship, clock, 10, 1, 0, shows[clock]);
        }
    }

    /** Something of everything: two ships, clock 1 of ship 0 has jumped by day 7. */
    static void full(BallDrops x) {
        x.care(1);
        x.star(2, -30);
        x.star(14, 6);
        x.care(4);
        x.slow(0, 1, 3);
        x.slow(1, 2, 2);
        x.slip(7, -5);
        x.back(4, true);
        x.back(7, true);
        x.ship();
        x.ship();
        x.set(0, 0, 2, 1, 0, 70);
        x.set(0, 0, 14, 0, 0, 100);
        x.set(0, 1, 2, 0, 0, -40);
        x.set(0, 1, 7, 1, 0, 700);
        x.set(0, 1, 14, 2, 12, 60);
        x.set(0, 1, 16, 1, 0, -30);
        x.meet(0, 2, 9, 1000, 240);
        x.set(1, 2, 4, 2, 30, 250);
        x.meet(1, 2, 11, 300, 50);
        x.saw(1, 4, true);
        x.clock(0, 0, 0, 3);
        x.clock(0, 2, 1, 4);
        x.clock(1, 1, 1, 8);
        x.warm(3, 9);
        x.warm(10, 2);
        x.reads(0, 14, 500, 400, 450);
        x.reads(1, 11, 0, 0, 300);
        x.carry(0, 0, 0, 14, 120);
        x.carry(3, 1, 2, 11, -20);
    }

    /** As full, and ship 0 has as many settings and meetings as it may. */
    static void noRoomForNotes(BallDrops x) {
        full(x);
        for (int notes = 7; notes < 12; notes++) {
            x.meet(0, 2, 9, 1000, 240);
        }
    }

    static void noRoomForStars(BallDrops x) {
        full(x);
        for (int stars = 2; stars < 20; stars++) {
            x.star(2, -30);
        }
    }

    static void noRoomForShips(BallDrops x) {
        full(x);
        x.ship();
        x.ship();
    }
}
