/** Promises 1 to 9: a new object; star, care, off, rate, slow, slip, back, late. */
public final class ObservatoryTest extends Checks {
    public static void main(String[] args) {
        promise1NewObject();
        promise1ObjectsAreApart();
        promise2StarTellsOff();
        promise2StarAtTheEnds();
        promise2StarByWhichNothingIsLeft();
        promise2Refusals();
        promise3Care();
        promise4Off();
        promise5Rate();
        promise6Slow();
        promise7Slip();
        promise8Back();
        promise9Late();
        promise9LateCutsTheMiddleDown();
        Due.finish();
    }

    private static void promise1NewObject() {
        BallDrops x = new BallDrops();
        int[] told = {0, 0, 2, 0, -6, -6, -6, -6};
        for (int what = 0; what < 8; what++) {
            due("new: told(" + what + ")", x.told(what), told[what]);
        }
        for (int d = 0; d < 20; d++) {
            offIs(x, d, -600, 600);
            lateIs(x, d, -600, 600);
            due("new: suspect", x.suspect(d), 0);
            due("new: ask", x.ask(d), BallDrops.NONE);
            due("new: slipped 0", x.slipped(d, 0), -60);
            due("new: slipped 1", x.slipped(d, 1), 60);
            due("new: slip", x.slip(d, 0), 0);
            due("new: back", x.back(d, false), 0);
            due("new: warm", x.warm(d, 5), 5);
        }
        rateIs(x, -20, 20);
        due("new: worst(0)", x.worst(0), 0);
        due("new: worst(1)", x.worst(1), 0);
        due("new: wire", x.slow(0, 0, 0), 0);
        due("new: catch", x.slow(1, 0, 0), 0);
        due("new: jumped", x.jumped(0, 0), BallDrops.UNKNOWN);
        for (int p = 0; p < 4; p++) {
            due("new: port least", x.port(p, 0), -99999);
            due("new: port greatest", x.port(p, 1), 99999);
        }
        x.ship();
        for (int c = 0; c < 3; c++) {
            due("new: heat", x.clock(0, c, 0, 0), 0);
            due("new: fault", x.clock(0, c, 1, 1), 1);
            due("new: ahead least", x.ahead(0, c, 19, 0), -99999);
            due("new: ahead greatest", x.ahead(0, c, 0, 1), 99999);
            due("new: gains least", x.gains(0, c, 0), -99);
            due("new: gains greatest", x.gains(0, c, 1), 99);
        }
        for (int d = 0; d < 20; d++) {
            due("new: saw", x.saw(0, d, false), 0);
        }
    }

    private static void promise1ObjectsAreApart() {
        BallDrops x = new BallDrops();
        Scenes.full(x);
        BallDrops y = new BallDrops();
        due("other object: told(0)", y.told(0), 0);
        due("other object: told(1)", y.told(1), 0);
        offIs(y, 2, -600, 600);
        due("other object: port", y.port(0, 0), -99999);
    }

    private static void promise2StarTellsOff() {
        BallDrops x = new BallDrops();
        due("star(0, 50)", x.star(0, 50), 1);
        offIs(x, 0, 48, 52);
        offIs(x, 1, 28, 72);
        offIs(x, 19, -332, 432);
        rateIs(x, -20, 20);
        due("star(19, 145)", x.star(19, 145), 2);
        offIs(x, 19, 143, 147);
        rateIs(x, 5, 5);
        offIs(x, 10, 98, 102);
        due("star(0, 53)", x.star(0, 53), 3);
        offIs(x, 0, 51, 52);
        offIs(x, 19, 146, 147);
    }

    private static void promise2StarAtTheEnds() {
        BallDrops x = new BallDrops();
        due("star(0, 600)", x.star(0, 600), 1);
        offIs(x, 0, 598, 600);
        offIs(x, 19, 218, 600);
        rateIs(x, -20, 0);
        x = new BallDrops();
        due("star(19, -600)", x.star(19, -600), 1);
        offIs(x, 19, -600, -598);
        offIs(x, 0, -600, -218);
        rateIs(x, -20, 0);
    }

    private static void promise2StarByWhichNothingIsLeft() {
        BallDrops x = new BallDrops();
        x.star(0, 0);
        due("star(0, 5)", x.star(0, 5), BallDrops.NO);
        due("star(0, -5)", x.star(0, -5), BallDrops.NO);
        due("star(1, 25)", x.star(1, 25), BallDrops.NO);
        offIs(x, 0, -2, 2);
        offIs(x, 1, -22, 22);
        due("star(1, 24)", x.star(1, 24), 2);
        rateIs(x, 20, 20);
        offIs(x, 0, 2, 2);
        offIs(x, 1, 22, 22);
        x = new BallDrops();
        x.care(0);
        x.star(0, 0);
        due("no whole rate", x.star(2, 1), BallDrops.NO);
        due("a whole rate", x.star(2, 2), 2);
        rateIs(x, 1, 1);
        offIs(x, 19, 19, 19);
    }

    private static void promise2Refusals() {
        for (int day : new int[] {-1, 20, MIN, MAX}) {
            refused("star(" + day + ", 0)", Scenes::full, x -> x.star(day, 0), BallDrops.UNKNOWN);
            refused("star(" + day + ", 601)", Scenes::noRoomForStars, x -> x.star(day, 601), BallDrops.UNKNOWN);
        }
        for (int off : new int[] {-601, 601, MIN, MAX}) {
            refused("star(0, " + off + ")", Scenes::full, x -> x.star(0, off), BallDrops.OUTSIDE);
            refused("star(19, " + off + ")", Scenes::noRoomForStars, x -> x.star(19, off), BallDrops.OUTSIDE);
        }
        refused("21st star", Scenes::noRoomForStars, x -> x.star(2, -30), BallDrops.FULL);
        refused("21st star, and a wrong one", Scenes::noRoomForStars, x -> x.star(2, 500), BallDrops.FULL);
        refused("star by which nothing is left", Scenes::full, x -> x.star(2, 500), BallDrops.NO);
        BallDrops x = new BallDrops();
        for (int i = 1; i <= 20; i++) {
            due("star " + i, x.star(0, 0), i);
        }
        due("star 21", x.star(0, 0), BallDrops.FULL);
        due("told(0)", x.told(0), 20);
    }

    private static void promise3Care() {
        BallDrops x = new BallDrops();
        due("care(9)", x.care(9), 2);
        x.star(3, 100);
        offIs(x, 3, 91, 109);
        due("care(0)", x.care(0), 9);
        offIs(x, 3, 91, 109);
        x.star(3, 95);
        offIs(x, 3, 95, 95);
        due("told(2)", x.told(2), 0);
        due("care(5)", x.care(5), 0);
        for (int v : new int[] {-1, 10, MIN, MAX}) {
            refused("care(" + v + ")", Scenes::full, y -> y.care(v), BallDrops.OUTSIDE);
        }
    }

    private static void promise4Off() {
        BallDrops x = new BallDrops();
        x.star(10, 0);
        for (int d = 0; d < 20; d++) {
            int reach = 2 + 20 * Math.abs(d - 10);
            offIs(x, d, -reach, reach);
        }
        for (int day : new int[] {-1, 20, MIN, MAX}) {
            refused("off(" + day + ", 0)", Scenes::full, y -> y.off(day, 0), -100000001);
            refused("off(" + day + ", 2)", Scenes::full, y -> y.off(day, 2), -100000001);
        }
        for (int end : new int[] {-1, 2, MIN, MAX}) {
            refused("off(0, " + end + ")", Scenes::full, y -> y.off(0, end), -100000002);
        }
    }

    private static void promise5Rate() {
        BallDrops x = new BallDrops();
        x.star(0, 0);
        x.star(7, -30);
        rateIs(x, -4, -4);
        x = new BallDrops();
        x.star(0, 0);
        x.star(1, 3);
        rateIs(x, -1, 7);
        for (int end : new int[] {-1, 2, MIN, MAX}) {
            refused("rate(" + end + ")", Scenes::full, y -> y.rate(end), -100000002);
        }
    }

    private static void promise6Slow() {
        BallDrops x = Scenes.right();
        due("slow(0, 3, 7)", x.slow(0, 3, 7), 0);
        due("slow(1, 0, 50)", x.slow(1, 0, 50), 0);
        lateIs(x, 5, 3, 57);
        due("slow(0, 50, 50)", x.slow(0, 50, 50), 307);
        lateIs(x, 0, 50, 100);
        due("slow(0, 0, 0)", x.slow(0, 0, 0), 5050);
        due("slow(1, 1, 1)", x.slow(1, 1, 1), 50);
        due("slow(1, 0, 0)", x.slow(1, 0, 0), 101);
        for (int which : new int[] {-1, 2, MIN, MAX}) {
            refused("slow(" + which + ", 0, 0)", Scenes::full, y -> y.slow(which, 0, 0), BallDrops.OUTSIDE);
        }
        int[][] spans = {{-1, 0}, {-1, -1}, {0, 51}, {51, 51}, {1, 0}, {50, 49}, {0, -1}, {MIN, MAX}, {MAX, MIN}};
        for (int[] s : spans) {
            for (int which = 0; which < 2; which++) {
                int w = which;
                refused("slow(" + w + ", " + s[0] + ", " + s[1] + ")", Scenes::full,
                        y -> y.slow(w, s[0], s[1]), BallDrops.OUTSIDE);
            }
        }
    }

    private static void promise7Slip() {
        BallDrops x = Scenes.right();
        due("slip(0, 60)", x.slip(0, 60), 0);
        lateIs(x, 0, 60, 60);
        lateIs(x, 1, 0, 0);
        due("slip(0, -60)", x.slip(0, -60), 60);
        lateIs(x, 0, -60, -60);
        due("slip(0, 0)", x.slip(0, 0), -60);
        due("slip(19, 7)", x.slip(19, 7), 0);
        lateIs(x, 19, 7, 7);
        due("slip(19, 8)", x.slip(19, 8), 7);
        for (int day : new int[] {-1, 20, MIN, MAX}) {
            refused("slip(" + day + ", 0)", Scenes::full, y -> y.slip(day, 0), -100000001);
            refused("slip(" + day + ", 61)", Scenes::full, y -> y.slip(day, 61), -100000001);
        }
        for (int v : new int[] {-61, 61, MIN, MAX}) {
            refused("slip(7, " + v + ")", Scenes::full, y -> y.slip(7, v), -100000002);
        }
    }

    private static void promise8Back() {
        BallDrops x = new BallDrops();
        due("back(0, true)", x.back(0, true), 0);
        due("back(0, true) again", x.back(0, true), 1);
        due("back(19, true)", x.back(19, true), 0);
        due("told(3)", x.told(3), 1 + (1 << 19));
        due("back(0, false)", x.back(0, false), 1);
        due("back(0, false) again", x.back(0, false), 0);
        due("told(3) then", x.told(3), 1 << 19);
        for (int day : new int[] {-1, 20, 32, MIN, MAX}) {
            refused("back(" + day + ", true)", Scenes::full, y -> y.back(day, true), BallDrops.UNKNOWN);
            refused("back(" + day + ", false)", Scenes::full, y -> y.back(day, false), BallDrops.UNKNOWN);
        }
    }

    private static void promise9Late() {
        BallDrops x = new BallDrops();
        x.star(0, 50);
        lateIs(x, 0, -2, 2);
        lateIs(x, 1, -22, 22);
        lateIs(x, 19, -382, 382);
        x.slow(0, 1, 5);
        x.slow(1, 2, 3);
        lateIs(x, 0, 1, 10);
        x.slip(0, -7);
        lateIs(x, 0, -6, 3);
        x.back(0, true);
        lateIs(x, 0, -6, 3);
        for (int day : new int[] {-1, 20, MIN, MAX}) {
            refused("late(" + day + ", 0)", Scenes::full, y -> y.late(day, 0), -100000001);
            refused("late(" + day + ", 2)", Scenes::full, y -> y.late(day, 2), -100000001);
        }
        for (int end : new int[] {-1, 2, MIN, MAX}) {
            refused("late(19, " + end + ")", Scenes::full, y -> y.late(19, end), -100000002);
        }
    }

    /** OFF is 597 to 600, its middle 598; below 0 it is -600 to -597, its middle -599. */
    private static void promise9LateCutsTheMiddleDown() {
        BallDrops x = new BallDrops();
        x.star(0, 599);
        lateIs(x, 0, -2, 1);
        x = new BallDrops();
        x.star(0, -599);
        lateIs(x, 0, -2, 1);
    }
}
