/** Promises 26 to 32: suspect, worst, slipped, ask, carry, port, told. */
public final class PortsTest extends Checks {
    public static void main(String[] args) {
        promise26Suspect();
        promise26WhatCounts();
        promise27Worst();
        promise28Slipped();
        promise28AtTheEnds();
        promise28ManyClocks();
        promise28Refusals();
        promise29Ask();
        promise29WhatCounts();
        promise30Carry();
        promise30Refusals();
        promise31Port();
        promise32Told();
        Due.finish();
    }

    /** Clock 0 is right on days 0, 10 and 15, so that only day 5 can be wrong. */
    private static BallDrops badFive(int shows) {
        BallDrops x = Scenes.rated(0, 0, 0);
        x.set(0, 0, 15, 1, 0, 0);
        x.set(0, 0, 5, 1, 0, shows);
        return x;
    }

    private static void promise26Suspect() {
        BallDrops x = badFive(50);
        for (int d = 0; d < 20; d++) {
            due("suspect(" + d + ")", x.suspect(d), d == 5 ? 1 : 0);
        }
        x.set(0, 1, 5, 2, 0, -50);
        x.set(0, 1, 12, 1, 0, 0);
        due("two clocks", x.suspect(5), 2);
        Scenes.rate(x, 0, 0, 0);
        x.set(1, 2, 5, 1, 0, 50);
        x.set(1, 2, 15, 1, 0, 0);
        due("two ships", x.suspect(5), 3);
        x.set(1, 2, 16, 1, 0, 70);
        due("two bad falls for one", x.suspect(5), 2);
        for (int day : NO_DAYS) {
            refused("suspect(" + day + ")", Scenes::full, y -> y.suspect(day), BallDrops.UNKNOWN);
        }
    }

    private static void promise26WhatCounts() {
        BallDrops x = badFive(50);
        x.set(0, 0, 5, 0, 0, 70);
        due("two settings by one ball", x.suspect(5), 1);
        x.meet(0, 0, 5, 50, 0);
        due("a meeting stays", x.suspect(5), 0);
        x.strike(0);
        x.back(5, true);
        due("not seen", x.suspect(5), 1);
        x.saw(0, 5, true);
        due("seen: not jumped", x.suspect(5), 0);
        x = badFive(1);
        due("not jumped", x.suspect(5), 0);
        x.meet(0, 0, 7, 50, 0);
        due("by a meeting alone", x.suspect(7), 0);
    }

    private static void promise27Worst() {
        BallDrops x = Scenes.rated(0, 0, 0);
        due("none: the day", x.worst(0), 0);
        due("none: how many", x.worst(1), 0);
        x.set(0, 0, 5, 1, 0, 50);
        due("suspect(0)", x.suspect(0), 1);
        due("suspect(5)", x.suspect(5), 1);
        due("suspect(10)", x.suspect(10), 1);
        due("the first of three", x.worst(0), 0);
        due("one", x.worst(1), 1);
        x.set(0, 1, 15, 1, 0, 0);
        x.set(0, 1, 5, 1, 0, 50);
        due("more on day 5", x.worst(0), 5);
        due("two", x.worst(1), 2);
        x = Scenes.right();
        x.ship();
        x.set(0, 2, 17, 1, 0, 0);
        x.set(0, 2, 18, 1, 0, 0);
        x.meet(0, 2, 10, 0, 0);
        x.set(0, 2, 19, 1, 0, 300);
        due("the last day", x.worst(0), 19);
        due("one on the last day", x.worst(1), 1);
        for (int what : NO_ENDS) {
            refused("worst(" + what + ")", Scenes::full, y -> y.worst(what), BallDrops.OUTSIDE);
        }
    }

    private static void promise28Slipped() {
        BallDrops x = badFive(50);
        slippedIs(x, 5, 48, 52);
        x.slip(5, 20);
        slippedIs(x, 5, 48, 52);
        x.slip(5, 50);
        due("jumped no more", x.jumped(0, 0), 0);
        slippedIs(x, 5, 48, 52);
        slippedIs(x, 0, -2, 2);
        slippedIs(x, 3, -60, 60);
        x.slip(5, 0);
        due("bad for another day", x.slipped(0, 0), -100000005);
        x.back(5, true);
        slippedIs(x, 5, 48, 52);
        x.saw(0, 5, true);
        slippedIs(x, 5, -60, 60);
        slippedIs(x, 0, -2, 2);
    }

    private static void promise28AtTheEnds() {
        slippedIs(badFive(59), 5, 57, 60);
        slippedIs(badFive(62), 5, 60, 60);
        slippedIs(badFive(63), 5, -100000005, -100000005);
        slippedIs(badFive(-59), 5, -60, -57);
        slippedIs(badFive(-62), 5, -60, -60);
        slippedIs(badFive(-63), 5, -100000005, -100000005);
        BallDrops x = new BallDrops();
        x.ship();
        x.meet(0, 0, 5, 99999, -9999);
        due("jumped by a meeting", x.jumped(0, 0), 1);
        slippedIs(x, 5, -60, 60);
        x.set(0, 1, 5, 1, 0, 0);
        slippedIs(x, 5, -60, 60);
        x.set(0, 0, 5, 1, 0, 0);
        slippedIs(x, 5, -100000005, -100000005);
    }

    private static void promise28ManyClocks() {
        BallDrops x = badFive(50);
        x.set(0, 1, 5, 1, 0, 47);
        slippedIs(x, 5, 48, 49);
        Scenes.rate(x, 0, 0, 0);
        slippedIs(x, 5, 48, 49);
        x.set(1, 2, 5, 1, 0, 51);
        slippedIs(x, 5, 49, 49);
        x.set(1, 1, 5, 1, 0, 44);
        slippedIs(x, 5, -100000005, -100000005);
        x = Scenes.rated(0, 0, 0);
        x.set(0, 2, 5, 1, 0, 50);
        slippedIs(x, 5, 48, 52);
        x.set(0, 0, 5, 1, 0, -50);
        slippedIs(x, 5, -100000005, -100000005);
    }

    private static void promise28Refusals() {
        for (int day : NO_DAYS) {
            refused("slipped(" + day + ", 0)", Scenes::full, x -> x.slipped(day, 0), -100000001);
            refused("slipped(" + day + ", 2)", Scenes::full, x -> x.slipped(day, 2), -100000001);
        }
        for (int end : NO_ENDS) {
            refused("slipped(2, " + end + ")", Scenes::full, x -> x.slipped(2, end), -100000002);
        }
        refused("slipped(2, 0)", Scenes::full, x -> x.slipped(2, 0), -100000005);
        refused("slipped(2, 1)", Scenes::full, x -> x.slipped(2, 1), -100000005);
    }

    private static void promise29Ask() {
        BallDrops x = Scenes.right();
        x.ship();
        x.ship();
        due("none was told", x.ask(0), BallDrops.NONE);
        x.set(1, 2, 3, 0, 0, 0);
        due("the only one", x.ask(3), 12);
        due("the only one, another day", x.ask(19), 12);
        x.set(1, 1, 3, 0, 0, 500);
        due("as narrow, an earlier clock", x.ask(3), 11);
        x.set(1, 0, 3, 2, 0, 0);
        due("a wider one", x.ask(3), 11);
        x.set(0, 2, 3, 0, 0, 90);
        due("as narrow, an earlier ship", x.ask(3), 2);
        x.set(1, 2, 3, 1, 0, 0);
        due("narrower", x.ask(3), 12);
        x.set(0, 0, 9, 1, 0, 0);
        due("day 9", x.ask(9), 0);
        due("day 6, as far from both", x.ask(6), 0);
        due("day 5", x.ask(5), 12);
        for (int day : NO_DAYS) {
            refused("ask(" + day + ")", Scenes::full, y -> y.ask(day), BallDrops.UNKNOWN);
        }
    }

    private static void promise29WhatCounts() {
        BallDrops x = Scenes.right();
        x.ship();
        x.meet(0, 1, 3, 0, 0);
        due("by a meeting", x.ask(3), 1);
        x.set(0, 2, 3, 1, 0, 0);
        due("narrower by a setting", x.ask(3), 2);
        x.back(3, true);
        due("taken back", x.ask(3), 2);
        x.saw(0, 3, true);
        due("seen", x.ask(3), 1);
        x.meet(0, 1, 3, 50, 0);
        due("jumped", x.ask(3), BallDrops.NONE);
        x.saw(0, 3, false);
        due("not seen", x.ask(3), 2);
    }

    private static void promise30Carry() {
        BallDrops x = Scenes.rated(10, 10, 10);
        due("carry(0, 0, 0, 5, 20)", x.carry(0, 0, 0, 5, 20), 1);
        portIs(x, 0, 7, 13);
        due("nothing left", x.carry(0, 0, 1, 5, 27), BallDrops.NO);
        due("nothing left below", x.carry(0, 0, 1, 5, 13), BallDrops.NO);
        portIs(x, 0, 7, 13);
        due("one left", x.carry(0, 0, 2, 5, 26), 1);
        portIs(x, 0, 13, 13);
        portIs(x, 1, -99999, 99999);
        due("another port", x.carry(3, 0, 0, 0, -9999), 1);
        portIs(x, 3, -10012, -10006);
        due("far", x.carry(2, 0, 0, 19, 9999), 1);
        portIs(x, 2, 9986, 9992);
        x.strike(0);
        x.slip(0, 50);
        portIs(x, 0, 13, 13);
        x.ship();
        due("nothing known", x.carry(1, 1, 0, 0, 9999), 1);
        portIs(x, 1, -90002, 99999);
        x.meet(1, 1, 0, -99999, 0);
        due("later than a port may be", x.carry(1, 1, 1, 0, 9999), BallDrops.NO);
        portIs(x, 1, -90002, 99999);
    }

    private static void promise30Refusals() {
        for (int bad : new int[] {-1, 4, MIN, MAX}) {
            refused("carry to " + bad, Scenes::full, x -> x.carry(bad, 0, 1, 0, 10000), BallDrops.UNKNOWN);
            refused("carry on day " + bad, Scenes::full, x -> x.carry(0, 0, 1, bad == 4 ? 20 : bad, 10000),
                    BallDrops.UNKNOWN);
            refused("carry by clock " + bad, Scenes::full, x -> x.carry(0, 0, bad == 4 ? 3 : bad, 0, 10000),
                    BallDrops.UNKNOWN);
            refused("carry by ship " + bad, Scenes::full, x -> x.carry(0, bad == 4 ? 2 : bad, 0, 0, 10000),
                    BallDrops.UNKNOWN);
        }
        for (int shows : new int[] {-10000, 10000, MIN, MAX}) {
            refused("carry, shows " + shows, Scenes::full, x -> x.carry(0, 0, 0, 0, shows), BallDrops.OUTSIDE);
            refused("carry by one that jumped, shows " + shows, Scenes::full,
                    x -> x.carry(0, 0, 1, 0, shows), BallDrops.OUTSIDE);
        }
        refused("carry by one that jumped", Scenes::full, x -> x.carry(0, 0, 1, 0, 5), BallDrops.STATE);
        refused("carry by which nothing is left", Scenes::full, x -> x.carry(0, 0, 0, 14, 900), BallDrops.NO);
    }

    private static void promise31Port() {
        BallDrops x = Scenes.rated(0, 0, 0);
        for (int p = 0; p < 4; p++) {
            portIs(x, p, -99999, 99999);
            x.carry(p, 0, 0, 5, 100 * p);
            portIs(x, p, 100 * p - 3, 100 * p + 3);
        }
        for (int bad : new int[] {-1, 4, MIN, MAX}) {
            refused("port(" + bad + ", 0)", Scenes::full, y -> y.port(bad, 0), -100000001);
            refused("port(" + bad + ", 2)", Scenes::full, y -> y.port(bad, 2), -100000001);
        }
        for (int end : NO_ENDS) {
            refused("port(0, " + end + ")", Scenes::full, y -> y.port(0, end), -100000002);
        }
    }

    private static void promise32Told() {
        BallDrops x = new BallDrops();
        Scenes.full(x);
        int[] want = {2, 2, 4, (1 << 4) + (1 << 7), 7, 2, BallDrops.NONE, BallDrops.NONE};
        for (int what = 0; what < 8; what++) {
            due("told(" + what + ")", x.told(what), want[what]);
        }
        x.ship();
        due("a third ship", x.told(6), 0);
        due("no fourth ship", x.told(7), BallDrops.NONE);
        x.ship();
        x.meet(3, 0, 0, 0, 0);
        due("a fourth ship", x.told(7), 1);
        due("ships", x.told(1), 4);
        for (int day = 0; day < 20; day++) {
            x.back(day, true);
        }
        due("all taken back", x.told(3), (1 << 20) - 1);
        for (int what : new int[] {-1, 8, MIN, MAX}) {
            refused("told(" + what + ")", Scenes::full, y -> y.told(what), BallDrops.OUTSIDE);
        }
    }
}
