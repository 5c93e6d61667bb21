/** Networks that several tests need, and what is due of every network that is not ready. */
final class Nets {
    static final int NONE = -1;
    static final int ALL_NAMES = (1 << 20) - 1;

    private Nets() {
    }

    /** Tensors with these names at their places, all entries 0. */
    static NetworkOrders network(int[]... names) {
        NetworkOrders x = new NetworkOrders();
        for (int[] row : names) {
            int number = x.tensor(row.length);
            for (int place = 0; place < row.length; place++) {
                if (!x.leg(number, place, row[place])) {
                    throw new IllegalStateException("a wrong example");
                }
            }
        }
        return x;
    }

    static int[] t(int... names) {
        return names;
    }

    static void putAll(NetworkOrders x, int tensor, int... reals) {
        for (int i = 0; i < reals.length; i++) {
            Check.due("put", x.put(tensor, i, reals[i], 0), true);
        }
    }

    /** Ten tensors in a ring, two legs from each to the next one: no tensor and no name is left. */
    static NetworkOrders fullRing() {
        int[][] names = new int[10][];
        for (int i = 0; i < 10; i++) {
            names[i] = t(2 * i, 2 * i + 1, (2 * i + 2) % 20, (2 * i + 3) % 20);
        }
        return network(names);
    }

    /** All twenty names, each open. */
    static NetworkOrders twentyOpen() {
        return network(t(0, 1, 2, 3, 4, 5), t(6, 7, 8, 9, 10, 11), t(12, 13, 14, 15, 16, 17), t(18, 19));
    }

    /** Four tensors, a leg between any two: 0-1, 0-2, 0-3, 1-2, 1-3, 2-3 are the names 0 to 5. */
    static NetworkOrders fourWithEachOther() {
        return network(t(0, 1, 2), t(0, 3, 4), t(1, 3, 5), t(2, 4, 5));
    }

    /** Twelve legs open, all in one set at last: the highest peak that still has values. */
    static NetworkOrders twelveOpen() {
        return network(t(0, 1, 2, 3, 4, 5), t(6, 7, 8, 9, 10, 11));
    }

    /** As twelveOpen, and one leg more. */
    static NetworkOrders thirteenOpen() {
        return network(t(0, 1, 2, 3, 4, 5), t(6, 7, 8, 9, 10, 11), t(19));
    }

    static void dueNotReady(String what, NetworkOrders x) {
        Check.due(what + " open", x.open(), NONE);
        Check.due(what + " cost", x.cost(), NONE);
        Check.due(what + " peak", x.peak(), NONE);
        Check.due(what + " step", x.step(0, 0), NONE);
        Check.due(what + " greedy, all costs", x.greedy(-1), NONE);
        Check.due(what + " greedy, turn 0", x.greedy(0), NONE);
        Check.due(what + " greedy, turn 0, other", x.greedy(100), NONE);
        Check.due(what + " cut", x.cut(20), NONE);
        Check.due(what + " costOf", x.costOf(0), NONE);
        Check.due(what + " shared", x.total(3), 0);
        Check.noSuch(what + " value", () -> x.value(0, 0));
        Check.noSuch(what + " slope", () -> x.slope(0, 0, 0, 0));
    }
}
