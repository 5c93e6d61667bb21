import java.util.Random;

/** Many networks, each built in the class and in the slow model, asked the same. */
public final class ReferenceTest {
    private static final Random RANDOM = new Random(20261115);
    private static NetworkOrders mine;
    private static Reference model;
    private static String run;

    public static void main(String[] args) {
        for (int i = 0; i < 1500; i++) {
            run = "small " + i;
            begin();
            build(1 + RANDOM.nextInt(5), 5, 1 + RANDOM.nextInt(9));
            askOrders();
            askValues();
            askCuts(RANDOM.nextInt(3));
            change();
            askOrders();
            askValues();
            askCuts(RANDOM.nextInt(3));
        }
        for (int i = 0; i < 60; i++) {
            run = "middle " + i;
            begin();
            build(5 + RANDOM.nextInt(3), 7, 8 + RANDOM.nextInt(8));
            askOrders();
            askValues();
            askCuts(RANDOM.nextInt(4));
        }
        for (int i = 0; i < 25; i++) {
            run = "large " + i;
            begin();
            build(8 + RANDOM.nextInt(3), 1 + RANDOM.nextInt(7), 20);
            askOrders();
        }
        for (int i = 0; i < 24; i++) {
            run = "large, to be cut " + i;
            begin();
            build(8 + i % 3, 5, 9 + RANDOM.nextInt(6));
            askCuts(i % 4 == 0 ? 2 : 1);
        }
        for (int i = 0; i < 300; i++) {
            run = "any " + i;
            begin();
            anyCalls();
        }
        Check.end();
    }

    private static void begin() {
        mine = new NetworkOrders();
        model = new Reference();
    }

    /** Names are drawn from a few ones, so that many are shared; a full network ends the drawing. */
    private static void build(int tensors, int mostPlaces, int names) {
        int first = RANDOM.nextInt(21 - names);
        for (int t = 0; t < tensors; t++) {
            int places = RANDOM.nextInt(mostPlaces);
            while (2 * names < model.total(1) + places) {
                places--;
            }
            Check.due(run + " tensor", mine.tensor(places), model.tensor(places));
            for (int p = 0; p < places; p++) {
                boolean set = false;
                while (!set) {
                    int name = first + RANDOM.nextInt(names);
                    set = model.leg(t, p, name);
                    Check.due(run + " leg", mine.leg(t, p, name), set);
                }
            }
            for (int index = 0; index < 1 << places; index++) {
                putOne(t, index);
            }
        }
    }

    private static void putOne(int tensor, int index) {
        int real = RANDOM.nextInt(19) - 9;
        int imaginary = RANDOM.nextInt(19) - 9;
        Check.due(run + " put", mine.put(tensor, index, real, imaginary),
                model.put(tensor, index, real, imaginary));
    }

    private static void change() {
        for (int i = 0; i < 6; i++) {
            int tensor = RANDOM.nextInt(Math.max(1, model.total(0)));
            int place = RANDOM.nextInt(4);
            int name = RANDOM.nextInt(20);
            Check.due(run + " leg", mine.leg(tensor, place, name), model.leg(tensor, place, name));
            putOne(tensor, RANDOM.nextInt(8));
        }
    }

    private static void askOrders() {
        for (int what = -1; what <= 4; what++) {
            Check.due(run + " total", mine.total(what), model.total(what));
        }
        Check.due(run + " open", mine.open(), model.open());
        Check.due(run + " cost", mine.cost(), model.cost());
        Check.due(run + " peak", mine.peak(), model.peak());
        for (int i = -1; i <= model.total(0); i++) {
            Check.due(run + " step", mine.step(i, 0), model.step(i, 0));
            Check.due(run + " step", mine.step(i, 1), model.step(i, 1));
            Check.due(run + " greedy", mine.greedy(i), model.greedy(i));
            Check.due(run + " greedy", mine.greedy(100 + i), model.greedy(100 + i));
        }
        int cut = RANDOM.nextInt(1 << 20) & RANDOM.nextInt(1 << 20) & model.total(3);
        Check.due(run + " costOf", mine.costOf(cut), model.costOf(cut));
        int any = RANDOM.nextInt(1 << 21) & RANDOM.nextInt(1 << 21) & RANDOM.nextInt(1 << 21);
        Check.due(run + " costOf any", mine.costOf(any), model.costOf(any));
    }

    private static void askCuts(int below) {
        int most = model.peak() - below;
        Check.due(run + " cut", mine.cut(most), model.cut(most));
        Check.due(run + " cost behind the cut", mine.cost(), model.cost());
    }

    private static void askValues() {
        int bits = Integer.bitCount(Math.max(0, model.open()));
        for (int i = 0; i < 3; i++) {
            int open = RANDOM.nextInt(1 << bits);
            int part = RANDOM.nextInt(2);
            askValue(open, part);
            int tensor = RANDOM.nextInt(Math.max(1, model.total(0)));
            askSlope(tensor, RANDOM.nextInt(8), open, part);
        }
        askValue(1 << bits, 0);
        askSlope(0, 0, 1 << bits, 1);
    }

    private static void askValue(int open, int part) {
        Check.due(run + " value " + open + " " + part, Check.answer(() -> mine.value(open, part)),
                model.value(open, part));
    }

    private static void askSlope(int tensor, int index, int open, int part) {
        Check.due(run + " slope " + tensor + " " + index + " " + open + " " + part,
                Check.answer(() -> mine.slope(tensor, index, open, part)),
                model.slope(tensor, index, open, part));
    }

    /** Calls in any order on few tensors, answers and state changes alike. */
    private static void anyCalls() {
        for (int i = 0; i < 200; i++) {
            int kind = RANDOM.nextInt(40);
            if (kind < 4 && model.total(0) < 5) {
                int places = RANDOM.nextInt(6) - 1;
                Check.due(run + " tensor", mine.tensor(places), model.tensor(places));
            } else if (kind < 24) {
                int tensor = RANDOM.nextInt(6) - 1;
                int place = RANDOM.nextInt(6) - 1;
                int name = RANDOM.nextInt(12) - 2;
                Check.due(run + " leg", mine.leg(tensor, place, name), model.leg(tensor, place, name));
            } else if (kind < 30) {
                putOne(RANDOM.nextInt(6) - 1, RANDOM.nextInt(18) - 1);
            } else if (kind < 33) {
                askOrders();
            } else if (kind < 36) {
                askValues();
            } else if (kind < 38) {
                askCuts(RANDOM.nextInt(3));
            } else if (RANDOM.nextInt(4) == 0) {
                mine.clear();
                model.clear();
            }
        }
    }
}
