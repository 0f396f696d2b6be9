import java.util.Random;

/** Many runs of calls, each answered by the class and by the document's plain words (Model). */
public final class RandomRunsTest {
    private static final int RUNS = 240;
    private static final int CALLS = 512;

    private final Random dice;
    private final BallDrops x = new BallDrops();
    private final Model m = new Model();
    private final int run;
    private final int trueRate;
    private final int trueOff;
    private final int[][] trueAhead = new int[4][3];
    private final int[][] trueGain = new int[4][3];
    private final int wild;
    private final int width;

    private RandomRunsTest(int run) {
        this.run = run;
        dice = new Random(20261118L + run);
        trueRate = between(-20, 20);
        trueOff = between(-100, 100);
        for (int s = 0; s < 4; s++) {
            for (int c = 0; c < 3; c++) {
                trueAhead[s][c] = between(-900, 900);
                trueGain[s][c] = between(-30, 30);
            }
        }
        wild = 2 + run % 5 * 12;
        width = run % 3 == 0 ? 2 : run % 3 == 1 ? 20 : 120;
    }

    public static void main(String[] args) {
        for (int run = 0; run < RUNS; run++) {
            new RandomRunsTest(run).go();
        }
        Due.finish();
    }

    private void go() {
        for (int call = 0; call < CALLS; call++) {
            int kind = dice.nextInt(100);
            if (kind < 12) {
                observe();
            } else if (kind < 40) {
                tellShips();
            } else if (kind < 50) {
                change();
            } else if (kind < 70) {
                askClocks();
            } else if (kind < 85) {
                askSea();
            } else {
                askFalls();
            }
        }
    }

    private int between(int least, int greatest) {
        return least + dice.nextInt(greatest - least + 1);
    }

    private boolean chance(int percent) {
        return dice.nextInt(100) < percent;
    }

    /** Mostly a number that is taken, at times one at an end, one beyond it, or a huge one. */
    private int number(int least, int greatest) {
        if (chance(92)) {
            return between(least, greatest);
        }
        int[] edges = {least, greatest, least - 1, greatest + 1, Integer.MIN_VALUE, Integer.MAX_VALUE};
        return edges[dice.nextInt(chance(80) ? 4 : 6)];
    }

    private int day() {
        return chance(60) ? number(0, 19) : 4 * between(0, 4);
    }

    private int ship() {
        return number(0, Math.max(0, Math.min(3, m.told(1) - 1)));
    }

    private int end() {
        return chance(97) ? between(0, 1) : number(0, 1);
    }

    private int noise() {
        return chance(wild) ? between(-width, width) : between(-2, 2);
    }

    private void due(String call, long got, long want) {
        Due.due("run " + run + ": " + call, got, want);
    }

    private void observe() {
        int day = day();
        int v;
        switch (dice.nextInt(7)) {
            case 0, 1 -> {
                v = chance(90) ? Math.max(-600, Math.min(600, trueOff + trueRate * day + noise())) : number(-600, 600);
                due("star(" + day + ", " + v + ")", x.star(day, v), m.star(day, v));
            }
            case 2 -> {
                v = number(0, 9);
                due("care(" + v + ")", x.care(v), m.care(v));
            }
            case 3 -> {
                v = end();
                due("off(" + day + ", " + v + ")", x.off(day, v), m.off(day, v));
            }
            case 4 -> {
                v = end();
                due("rate(" + v + ")", x.rate(v), m.rate(v));
            }
            case 5 -> {
                v = end();
                due("late(" + day + ", " + v + ")", x.late(day, v), m.late(day, v));
            }
            default -> {
                int which = number(0, 1);
                int least = number(0, chance(70) ? 6 : 50);
                int greatest = chance(80) ? Math.max(-1, Math.min(50, least)) + between(0, 4) : number(0, 50);
                due("slow(" + which + ", " + least + ", " + greatest + ")",
                        x.slow(which, least, greatest), m.slow(which, least, greatest));
            }
        }
    }

    private void tellShips() {
        int ship = ship();
        int clock = number(0, 2);
        int day = day();
        int kind = dice.nextInt(20);
        if (kind < 2) {
            due("ship()", x.ship(), m.ship());
        } else if (kind < 4) {
            due("strike(" + ship + ")", x.strike(ship), m.strike(ship));
        } else if (kind < 14) {
            int how = number(0, 2);
            int cables = how == 2 ? number(0, chance(80) ? 3 : 30) : chance(95) ? 0 : number(0, 30);
            int shows = chance(95) ? truly(ship, clock, day) + (how == 2 ? 6 * cables : 0) + noise()
                    : number(-9999, 9999);
            due("set(" + ship + ", " + clock + ", " + day + ", " + how + ", " + cables + ", " + shows + ")",
                    x.set(ship, clock, day, how, cables, shows), m.set(ship, clock, day, how, cables, shows));
        } else {
            int miles = number(-9999, 9999);
            int read = chance(95) ? truly(ship, clock, day) + 4 * miles + noise() : number(-99999, 99999);
            due("meet(" + ship + ", " + clock + ", " + day + ", " + read + ", " + miles + ")",
                    x.meet(ship, clock, day, read, miles), m.meet(ship, clock, day, read, miles));
        }
    }

    private int truly(int ship, int clock, int day) {
        if (ship < 0 || ship > 3 || clock < 0 || clock > 2) {
            return 0;
        }
        return trueAhead[ship][clock] + trueGain[ship][clock] * day;
    }

    private void change() {
        int ship = ship();
        int clock = number(0, 2);
        int day = day();
        int v;
        switch (dice.nextInt(6)) {
            case 0 -> {
                v = chance(70) ? between(-3, 3) : number(-60, 60);
                due("slip(" + day + ", " + v + ")", x.slip(day, v), m.slip(day, v));
            }
            case 1 -> {
                boolean is = dice.nextBoolean();
                due("back(" + day + ", " + is + ")", x.back(day, is), m.back(day, is));
            }
            case 2 -> {
                boolean is = dice.nextBoolean();
                due("saw(" + ship + ", " + day + ", " + is + ")", x.saw(ship, day, is), m.saw(ship, day, is));
            }
            case 3 -> {
                v = chance(60) ? 0 : number(0, 5);
                due("clock(" + ship + ", " + clock + ", 0, " + v + ")",
                        x.clock(ship, clock, 0, v), m.clock(ship, clock, 0, v));
            }
            case 4 -> {
                v = number(1, 9);
                int what = chance(90) ? 1 : number(0, 1);
                due("clock(" + ship + ", " + clock + ", " + what + ", " + v + ")",
                        x.clock(ship, clock, what, v), m.clock(ship, clock, what, v));
            }
            default -> {
                v = number(0, 9);
                due("warm(" + day + ", " + v + ")", x.warm(day, v), m.warm(day, v));
            }
        }
    }

    private void askClocks() {
        int ship = ship();
        int clock = number(0, 2);
        int day = day();
        int end = end();
        switch (dice.nextInt(4)) {
            case 0 -> due("jumped(" + ship + ", " + clock + ")", x.jumped(ship, clock), m.jumped(ship, clock));
            case 1 -> due("ahead(" + ship + ", " + clock + ", " + day + ", " + end + ")",
                    x.ahead(ship, clock, day, end), m.ahead(ship, clock, day, end));
            case 2 -> due("gains(" + ship + ", " + clock + ", " + end + ")",
                    x.gains(ship, clock, end), m.gains(ship, clock, end));
            default -> {
                int read = number(-99999, 99999);
                due("place(" + ship + ", " + clock + ", " + day + ", " + read + ", " + end + ")",
                        x.place(ship, clock, day, read, end), m.place(ship, clock, day, read, end));
            }
        }
    }

    private void askSea() {
        int ship = ship();
        int set = number(0, 7);
        int end = end();
        switch (dice.nextInt(6)) {
            case 0 -> due("weight(" + ship + ", " + set + ")", x.weight(ship, set), m.weight(ship, set));
            case 1, 2 -> due("odds(" + ship + ", " + set + ", " + end + ")",
                    x.odds(ship, set, end), m.odds(ship, set, end));
            case 3 -> due("best(" + ship + ")", x.best(ship), m.best(ship));
            case 4 -> due("landfall(" + ship + ", " + end + ")", x.landfall(ship, end), m.landfall(ship, end));
            default -> readAll(ship);
        }
    }

    private void readAll(int ship) {
        int day = day();
        int miles = between(-2000, 2000);
        int[] r = new int[3];
        for (int c = 0; c < 3; c++) {
            r[c] = chance(95) ? truly(ship, c, day) + 4 * miles + 2 * noise() : number(-99999, 99999);
        }
        due("reads(" + ship + ", " + day + ", " + r[0] + ", " + r[1] + ", " + r[2] + ")",
                x.reads(ship, day, r[0], r[1], r[2]), m.reads(ship, day, r[0], r[1], r[2]));
    }

    private void askFalls() {
        int day = day();
        int end = end();
        switch (dice.nextInt(7)) {
            case 0 -> due("suspect(" + day + ")", x.suspect(day), m.suspect(day));
            case 1 -> due("worst(" + end + ")", x.worst(end), m.worst(end));
            case 2 -> due("slipped(" + day + ", " + end + ")", x.slipped(day, end), m.slipped(day, end));
            case 3 -> due("ask(" + day + ")", x.ask(day), m.ask(day));
            case 4 -> {
                int port = number(0, 3);
                int ship = ship();
                int clock = number(0, 2);
                int shows = chance(80) ? truly(ship, clock, day) + 10 * port + noise() : number(-9999, 9999);
                due("carry(" + port + ", " + ship + ", " + clock + ", " + day + ", " + shows + ")",
                        x.carry(port, ship, clock, day, shows), m.carry(port, ship, clock, day, shows));
            }
            case 5 -> {
                int port = number(0, 3);
                due("port(" + port + ", " + end + ")", x.port(port, end), m.port(port, end));
            }
            default -> {
                int what = number(0, 7);
                due("told(" + what + ")", x.told(what), m.told(what));
            }
        }
    }
}
