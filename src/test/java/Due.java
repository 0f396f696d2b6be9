import java.util.ArrayList;
import java.util.List;
import java.util.function.Consumer;
import java.util.function.ToLongFunction;

/** What the tests share: an answer that is due, and a refusal that leaves all as it was. */
final class Due {
    private static final int QUESTIONS_AN_OBJECT = 350;
    private static final List<ToLongFunction<BallDrops>> QUESTIONS = questions();
    private static int asked = 0;
    private static int wrong = 0;

    private Due() { }

    static void due(String call, long got, long want) {
        asked++;
        if (got != want) {
            wrong++;
            if (wrong <= 50) {
                System.out.println(call + " answered " + got + ", due is " + want);
            }
        }
    }

    /** The call is refused as told, and no answer of the object is another one after it. */
    static void refused(String call, Consumer<BallDrops> before, ToLongFunction<BallDrops> refusal, long want) {
        for (int from = 0; from < QUESTIONS.size(); from += QUESTIONS_AN_OBJECT) {
            BallDrops without = new BallDrops();
            before.accept(without);
            BallDrops with = new BallDrops();
            before.accept(with);
            due(call, refusal.applyAsLong(with), want);
            for (int q = from; q < Math.min(from + QUESTIONS_AN_OBJECT, QUESTIONS.size()); q++) {
                due("question " + q + " after " + call, QUESTIONS.get(q).applyAsLong(with),
                        QUESTIONS.get(q).applyAsLong(without));
            }
        }
    }

    static void finish() {
        System.out.println(wrong == 0 ? asked + " answers are as due" : wrong + " answers are not as due");
        if (wrong != 0) {
            System.exit(1);
        }
    }

    /** Calls that together bring out all that an object holds; those that change it come last. */
    private static List<ToLongFunction<BallDrops>> questions() {
        List<ToLongFunction<BallDrops>> all = new ArrayList<>();
        askObservatory(all);
        for (int s = 0; s < 4; s++) {
            askShip(all, s);
        }
        all.add(x -> x.worst(0));
        all.add(x -> x.worst(1));
        takeApart(all);
        return all;
    }

    private static void askObservatory(List<ToLongFunction<BallDrops>> all) {
        for (int i = 0; i < 8; i++) {
            int what = i;
            all.add(x -> x.told(what));
        }
        for (int e = 0; e < 2; e++) {
            int end = e;
            all.add(x -> x.rate(end));
            for (int d = 0; d < 20; d++) {
                int day = d;
                all.add(x -> x.off(day, end));
                all.add(x -> x.late(day, end));
                all.add(x -> x.slipped(day, end));
                all.add(x -> end == 0 ? x.suspect(day) : x.ask(day));
            }
            for (int p = 0; p < 4; p++) {
                int port = p;
                all.add(x -> x.port(port, end));
            }
        }
    }

    private static void askShip(List<ToLongFunction<BallDrops>> all, int ship) {
        for (int c = 0; c < 3; c++) {
            int clock = c;
            all.add(x -> x.jumped(ship, clock));
            for (int e = 0; e < 2; e++) {
                int end = e;
                all.add(x -> x.gains(ship, clock, end));
                all.add(x -> x.place(ship, clock, 3, 77, end));
                for (int d = 0; d < 20; d++) {
                    int day = d;
                    all.add(x -> x.ahead(ship, clock, day, end));
                }
            }
        }
        all.add(x -> x.best(ship));
        all.add(x -> x.landfall(ship, 0));
        all.add(x -> x.landfall(ship, 1));
        for (int i = 0; i < 8; i++) {
            int set = i;
            all.add(x -> x.weight(ship, set));
            all.add(x -> x.odds(ship, set, 0));
            all.add(x -> x.odds(ship, set, 1));
        }
    }

    private static void takeApart(List<ToLongFunction<BallDrops>> all) {
        for (int s = 0; s < 4; s++) {
            int ship = s;
            for (int d = 0; d < 20; d++) {
                int day = d;
                all.add(x -> x.saw(ship, day, false));
            }
            for (int c = 0; c < 3; c++) {
                int clock = c;
                all.add(x -> x.clock(ship, clock, 0, 0));
                all.add(x -> x.clock(ship, clock, 1, 1));
            }
            all.add(x -> x.strike(ship));
        }
        for (int d = 0; d < 20; d++) {
            int day = d;
            all.add(x -> x.slip(day, 0));
            all.add(x -> x.warm(day, 5));
            all.add(x -> x.back(day, false));
        }
        all.add(x -> x.slow(0, 0, 0));
        all.add(x -> x.slow(1, 0, 0));
        all.add(x -> x.care(2));
        all.add(BallDrops::ship);
    }
}
