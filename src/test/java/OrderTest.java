/**
 * Of two refusals that fit, the first of UNKNOWN, OUTSIDE, STATE, FULL, NO answers, and changes no later answer.
 * In Scenes.full there are two ships; clock 1 of ship 0 has jumped.
 */
public final class OrderTest extends Checks {
    private static final int GONE_UNKNOWN = -100000001;
    private static final int GONE_OUTSIDE = -100000002;
    private static final int GONE_STATE = -100000003;
    private static final int GONE_NO = -100000005;
    private static final long LOST_UNKNOWN = -1000000000000000001L;
    private static final long LOST_OUTSIDE = -1000000000000000002L;

    public static void main(String[] args) {
        starUnknownFirst();
        starOutsideBeforeFullAndNo();
        starFullBeforeNo();
        observatoryUnknownBeforeOutside();
        setUnknownFirst();
        setOutsideBeforeFull();
        meetUnknownFirst();
        meetOutsideBeforeFull();
        strikeUnknownBeforeNo();
        clockUnknownBeforeOutside();
        warmUnknownBeforeOutside();
        knownUnknownBeforeOutside();
        knownUnknownBeforeState();
        knownOutsideBeforeState();
        knownState();
        atSeaUnknownBeforeOutside();
        landfallOutsideBeforeState();
        slippedUnknownAndOutsideBeforeNo();
        carryUnknownFirst();
        carryOutsideBeforeStateAndNo();
        carryStateBeforeNo();
        portUnknownBeforeOutside();
        manyRefusalsInARow();
        Due.finish();
    }

    private static void starUnknownFirst() {
        for (int day : NO_DAYS) {
            refused("star, no day, outside", Scenes::full, x -> x.star(day, 601), BallDrops.UNKNOWN);
            refused("star, no day, full", Scenes::noRoomForStars, x -> x.star(day, 0), BallDrops.UNKNOWN);
            refused("star, no day, outside, full", Scenes::noRoomForStars, x -> x.star(day, MIN), BallDrops.UNKNOWN);
        }
    }

    private static void starOutsideBeforeFullAndNo() {
        for (int off : new int[] {-601, 601, MIN, MAX}) {
            refused("star, outside, full", Scenes::noRoomForStars, x -> x.star(2, off), BallDrops.OUTSIDE);
            refused("star, outside, nothing left", Scenes::full, x -> x.star(2, off), BallDrops.OUTSIDE);
        }
    }

    private static void starFullBeforeNo() {
        refused("star, full, nothing left", Scenes::noRoomForStars, x -> x.star(2, 600), BallDrops.FULL);
        refused("star, nothing left", Scenes::full, x -> x.star(2, 600), BallDrops.NO);
        refused("star, full", Scenes::noRoomForStars, x -> x.star(2, -30), BallDrops.FULL);
    }

    private static void observatoryUnknownBeforeOutside() {
        for (int day : NO_DAYS) {
            for (int end : NO_ENDS) {
                refused("off, no day, no end", Scenes::full, x -> x.off(day, end), GONE_UNKNOWN);
                refused("late, no day, no end", Scenes::full, x -> x.late(day, end), GONE_UNKNOWN);
                refused("slip, no day, outside", Scenes::full, x -> x.slip(day, end < 2 ? -61 : 61), GONE_UNKNOWN);
            }
        }
    }

    private static void setUnknownFirst() {
        int[][] nowhere = {{2, 0, 0}, {-1, 0, 0}, {0, 3, 0}, {0, -1, 0}, {0, 0, 20}, {0, 0, -1}, {2, 3, 20}};
        int[][] numbers = {{0, 0, 0}, {3, 0, 0}, {-1, 0, 0}, {2, 31, 0}, {0, 1, 0}, {0, 0, 10000}, {3, 31, -10000}};
        for (int[] w : nowhere) {
            for (int[] n : numbers) {
                refused("set nowhere", Scenes::full,
                        x -> x.set(w[0], w[1], w[2], n[0], n[1], n[2]), BallDrops.UNKNOWN);
                refused("set nowhere, full", Scenes::noRoomForNotes,
                        x -> x.set(w[0], w[1], w[2], n[0], n[1], n[2]), BallDrops.UNKNOWN);
            }
        }
    }

    private static void setOutsideBeforeFull() {
        int[][] numbers = {{3, 0, 0}, {-1, 0, 0}, {2, 31, 0}, {2, -1, 0}, {0, 1, 0}, {1, 1, 0}, {0, 0, 10000},
            {1, 0, -10000}, {2, 30, 10000}};
        for (int[] n : numbers) {
            refused("set, outside, full", Scenes::noRoomForNotes,
                    x -> x.set(0, 0, 9, n[0], n[1], n[2]), BallDrops.OUTSIDE);
            refused("set, outside", Scenes::full, x -> x.set(0, 0, 9, n[0], n[1], n[2]), BallDrops.OUTSIDE);
        }
        refused("set, full", Scenes::noRoomForNotes, x -> x.set(0, 0, 9, 2, 30, 9999), BallDrops.FULL);
    }

    private static void meetUnknownFirst() {
        int[][] nowhere = {{2, 0, 0}, {-1, 0, 0}, {0, 3, 0}, {0, -1, 0}, {0, 0, 20}, {0, 0, -1}, {2, 3, 20}};
        int[][] numbers = {{0, 0}, {100000, 0}, {0, 10000}, {-100000, -10000}};
        for (int[] w : nowhere) {
            for (int[] n : numbers) {
                refused("meet nowhere", Scenes::full, x -> x.meet(w[0], w[1], w[2], n[0], n[1]), BallDrops.UNKNOWN);
                refused("meet nowhere, full", Scenes::noRoomForNotes,
                        x -> x.meet(w[0], w[1], w[2], n[0], n[1]), BallDrops.UNKNOWN);
            }
        }
    }

    private static void meetOutsideBeforeFull() {
        int[][] numbers = {{100000, 0}, {-100000, 0}, {0, 10000}, {0, -10000}, {MAX, MIN}};
        for (int[] n : numbers) {
            refused("meet, outside, full", Scenes::noRoomForNotes, x -> x.meet(0, 0, 9, n[0], n[1]), BallDrops.OUTSIDE);
            refused("meet, outside", Scenes::full, x -> x.meet(0, 0, 9, n[0], n[1]), BallDrops.OUTSIDE);
        }
        refused("meet, full", Scenes::noRoomForNotes, x -> x.meet(0, 0, 9, 99999, 9999), BallDrops.FULL);
    }

    private static void strikeUnknownBeforeNo() {
        refused("strike of no ship, of none at all", x -> x.care(3), x -> x.strike(0), BallDrops.UNKNOWN);
        refused("strike of no ship", Scenes::full, x -> x.strike(2), BallDrops.UNKNOWN);
        refused("strike of one that was told nothing", Scenes::noRoomForShips, x -> x.strike(2), BallDrops.NO);
    }

    private static void clockUnknownBeforeOutside() {
        int[][] nowhere = {{2, 0}, {-1, 0}, {0, 3}, {0, -1}, {MAX, MIN}};
        int[][] numbers = {{0, 0}, {2, 1}, {0, 6}, {1, 0}, {-1, 10}};
        for (int[] w : nowhere) {
            for (int[] n : numbers) {
                refused("clock nowhere", Scenes::full, x -> x.clock(w[0], w[1], n[0], n[1]), BallDrops.UNKNOWN);
            }
        }
    }

    private static void warmUnknownBeforeOutside() {
        for (int day : NO_DAYS) {
            for (int v : new int[] {5, -1, 10, MIN, MAX}) {
                refused("warm, no day", Scenes::full, x -> x.warm(day, v), BallDrops.UNKNOWN);
            }
        }
    }

    private static void knownUnknownBeforeOutside() {
        int[][] nowhere = {{2, 0, 0}, {-1, 0, 0}, {0, 3, 0}, {0, -1, 0}};
        for (int end : NO_ENDS) {
            for (int[] w : nowhere) {
                refused("ahead nowhere", Scenes::full, x -> x.ahead(w[0], w[1], w[2], end), GONE_UNKNOWN);
                refused("gains nowhere", Scenes::full, x -> x.gains(w[0], w[1], end), GONE_UNKNOWN);
                refused("place nowhere", Scenes::full, x -> x.place(w[0], w[1], w[2], 0, end), GONE_UNKNOWN);
                refused("place nowhere", Scenes::full, x -> x.place(w[0], w[1], w[2], 100000, 0), GONE_UNKNOWN);
            }
            for (int day : NO_DAYS) {
                refused("ahead, no day", Scenes::full, x -> x.ahead(0, 0, day, end), GONE_UNKNOWN);
                refused("place, no day", Scenes::full, x -> x.place(0, 0, day, -100000, end), GONE_UNKNOWN);
            }
        }
    }

    private static void knownUnknownBeforeState() {
        for (int day : NO_DAYS) {
            refused("ahead, no day, jumped", Scenes::full, x -> x.ahead(0, 1, day, 0), GONE_UNKNOWN);
            refused("place, no day, jumped", Scenes::full, x -> x.place(0, 1, day, 0, 1), GONE_UNKNOWN);
        }
    }

    private static void knownOutsideBeforeState() {
        for (int end : NO_ENDS) {
            refused("ahead, no end, jumped", Scenes::full, x -> x.ahead(0, 1, 7, end), GONE_OUTSIDE);
            refused("gains, no end, jumped", Scenes::full, x -> x.gains(0, 1, end), GONE_OUTSIDE);
            refused("place, no end, jumped", Scenes::full, x -> x.place(0, 1, 7, 0, end), GONE_OUTSIDE);
        }
        for (int read : new int[] {-100000, 100000, MIN, MAX}) {
            refused("place, outside, jumped", Scenes::full, x -> x.place(0, 1, 7, read, 0), GONE_OUTSIDE);
        }
    }

    private static void knownState() {
        for (int e = 0; e < 2; e++) {
            int end = e;
            refused("gains of one that jumped", Scenes::full, x -> x.gains(0, 1, end), GONE_STATE);
            for (int d : new int[] {0, 7, 19}) {
                refused("ahead of one that jumped", Scenes::full, x -> x.ahead(0, 1, d, end), GONE_STATE);
                refused("place of one that jumped", Scenes::full, x -> x.place(0, 1, d, 99999, end), GONE_STATE);
            }
        }
    }

    private static void atSeaUnknownBeforeOutside() {
        for (int ship : new int[] {-1, 2, MIN, MAX}) {
            refused("reads, no ship, outside", Scenes::full,
                    x -> x.reads(ship, 0, 100000, 0, 0), BallDrops.UNKNOWN);
            refused("weight, no ship, no set", Scenes::full, x -> x.weight(ship, 8), BallDrops.UNKNOWN);
            refused("odds, no ship, no set", Scenes::full, x -> x.odds(ship, -1, 0), LOST_UNKNOWN);
            refused("odds, no ship, no part", Scenes::full, x -> x.odds(ship, 0, 2), LOST_UNKNOWN);
            refused("landfall, no ship, no end", Scenes::full, x -> x.landfall(ship, 2), GONE_UNKNOWN);
        }
        for (int day : NO_DAYS) {
            refused("reads, no day, outside", Scenes::full,
                    x -> x.reads(0, day, 0, 0, -100000), BallDrops.UNKNOWN);
        }
        refused("odds, no set, no part", Scenes::full, x -> x.odds(0, 8, 2), LOST_OUTSIDE);
    }

    private static void landfallOutsideBeforeState() {
        for (int end : NO_ENDS) {
            refused("landfall of none, no end", x -> {
                Scenes.full(x);
                faults(x, 9, 9, 9);
            }, x -> x.landfall(0, end), GONE_OUTSIDE);
        }
        refused("landfall of none", x -> {
            Scenes.full(x);
            faults(x, 9, 9, 9);
        }, x -> x.landfall(0, 1), GONE_STATE);
    }

    private static void slippedUnknownAndOutsideBeforeNo() {
        for (int end : NO_ENDS) {
            refused("slipped, no end, no slip", Scenes::full, x -> x.slipped(14, end), GONE_OUTSIDE);
            refused("slipped, no end", Scenes::full, x -> x.slipped(5, end), GONE_OUTSIDE);
            for (int day : NO_DAYS) {
                refused("slipped, no day, no end", Scenes::full, x -> x.slipped(day, end), GONE_UNKNOWN);
            }
        }
        refused("slipped, no slip", Scenes::full, x -> x.slipped(14, 0), GONE_NO);
    }

    private static void carryUnknownFirst() {
        int[][] nowhere = {{4, 0, 0, 14}, {-1, 0, 0, 14}, {0, 2, 0, 14}, {0, -1, 0, 14}, {0, 0, 3, 14}, {0, 0, -1, 14},
            {0, 0, 0, 20}, {0, 0, 0, -1}, {4, 0, 1, 14}, {0, 0, 1, 20}, {MAX, MIN, MAX, MIN}};
        for (int[] w : nowhere) {
            for (int shows : new int[] {120, 900, 10000, -10000, MIN, MAX}) {
                refused("carry nowhere", Scenes::full,
                        x -> x.carry(w[0], w[1], w[2], w[3], shows), BallDrops.UNKNOWN);
            }
        }
    }

    private static void carryOutsideBeforeStateAndNo() {
        for (int shows : new int[] {-10000, 10000, MIN, MAX}) {
            refused("carry, outside, jumped", Scenes::full, x -> x.carry(0, 0, 1, 14, shows), BallDrops.OUTSIDE);
            refused("carry, outside, nothing left", Scenes::full, x -> x.carry(0, 0, 0, 14, shows), BallDrops.OUTSIDE);
        }
    }

    private static void carryStateBeforeNo() {
        refused("carry, jumped, nothing left", Scenes::full, x -> x.carry(0, 0, 1, 14, 9999), BallDrops.STATE);
        refused("carry, jumped", Scenes::full, x -> x.carry(1, 0, 1, 14, 60), BallDrops.STATE);
        refused("carry, nothing left", Scenes::full, x -> x.carry(0, 0, 0, 14, 9999), BallDrops.NO);
    }

    private static void portUnknownBeforeOutside() {
        for (int end : NO_ENDS) {
            for (int port : new int[] {-1, 4, MIN, MAX}) {
                refused("port, none, no end", Scenes::full, x -> x.port(port, end), GONE_UNKNOWN);
            }
        }
    }

    /** Refusals of every kind one after another: still nothing has changed. */
    private static void manyRefusalsInARow() {
        refused("many refusals, one of them", Scenes::full, x -> {
            manyRefused(x);
            return x.star(20, 0);
        }, BallDrops.UNKNOWN);
    }

    private static void manyRefused(BallDrops x) {
        due("star", x.star(2, 600), BallDrops.NO);
        due("care", x.care(10), BallDrops.OUTSIDE);
        due("slow", x.slow(0, 9, 8), BallDrops.OUTSIDE);
        due("slip", x.slip(7, 61), GONE_OUTSIDE);
        due("back", x.back(20, true), BallDrops.UNKNOWN);
        due("set", x.set(0, 0, 5, 0, 1, 5), BallDrops.OUTSIDE);
        due("meet", x.meet(0, 0, 5, 5, 10000), BallDrops.OUTSIDE);
        due("strike", x.strike(2), BallDrops.UNKNOWN);
        due("saw", x.saw(0, 20, true), BallDrops.UNKNOWN);
        due("clock", x.clock(0, 0, 1, 10), BallDrops.OUTSIDE);
        due("warm", x.warm(5, 10), BallDrops.OUTSIDE);
        due("reads", x.reads(0, 3, 1, 2, 100000), BallDrops.OUTSIDE);
        due("carry", x.carry(0, 0, 0, 14, 900), BallDrops.NO);
        due("carry", x.carry(0, 0, 1, 14, 0), BallDrops.STATE);
    }
}
