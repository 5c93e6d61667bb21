import java.util.function.LongSupplier;

/** Each promise of the document by examples worked out by hand: common ones, edges, wrong inputs. */
public final class PromisesTest {
    private static final int[] FAR = {Integer.MIN_VALUE, -100, -2, 1 << 20, 1 << 30, Integer.MAX_VALUE};

    public static void main(String[] args) {
        newObject();
        tensors();
        legs();
        legsFreed();
        entries();
        entriesRefused();
        cleared();
        opens();
        values();
        valuesOfLoopsAndProducts();
        valuesByNamesNotPlaces();
        valuesThatAreLarge();
        valuesRefused();
        peakLimit();
        slopes();
        slopesRefused();
        costs();
        peaks();
        steps();
        stepsOfEquals();
        orderIsNotGreedy();
        greedyTurns();
        greedyOfEquals();
        cuts();
        cutsOfTwo();
        cutsLeaveOpenLegs();
        costsOfCuts();
        totals();
        Check.end();
    }

    private static void due(String what, long got, long want) {
        Check.due(what, got, want);
    }

    private static void due(String what, boolean got, boolean want) {
        Check.due(what, got, want);
    }

    private static void dueThrow(String what, LongSupplier call, long want) {
        Check.due(what, Check.answer(call), want);
    }

    private static NetworkOrders network(int[]... names) {
        return Nets.network(names);
    }

    private static int[] t(int... names) {
        return names;
    }

    private static void putAll(NetworkOrders x, int tensor, int... reals) {
        for (int i = 0; i < reals.length; i++) {
            due("put", x.put(tensor, i, reals[i], 0), true);
        }
    }

    private static void newObject() {
        NetworkOrders x = new NetworkOrders();
        due("P1 NONE", NetworkOrders.NONE, -1);
        due("P1 tensors", x.total(0), 0);
        due("P1 places", x.total(1), 0);
        due("P1 bare", x.total(2), 0);
        due("P1 shared", x.total(3), 0);
        notReady("P1", x);
    }

    private static void notReady(String what, NetworkOrders x) {
        Nets.dueNotReady(what, x);
    }

    private static void tensors() {
        NetworkOrders x = new NetworkOrders();
        due("P2 -1 places", x.tensor(-1), -1);
        due("P2 7 places", x.tensor(7), -1);
        for (int far : FAR) {
            due("P2 far", x.tensor(far), -1);
        }
        due("P2 none made", x.total(0), 0);
        for (int i = 0; i < 10; i++) {
            due("P2 number", x.tensor(i % 7), i);
        }
        due("P2 the eleventh", x.tensor(0), -1);
        due("P2 ten", x.total(0), 10);
        due("P2 places", x.total(1), 21 + 0 + 1 + 2);
        due("P2 without legs", x.total(2), 24);
        NetworkOrders other = new NetworkOrders();
        due("P2 another object", other.tensor(6), 0);
    }

    private static void legs() {
        NetworkOrders x = new NetworkOrders();
        x.tensor(3);
        x.tensor(0);
        due("P3 name 0", x.leg(0, 0, 0), true);
        due("P3 name 19", x.leg(0, 1, 19), true);
        due("P3 name 20", x.leg(0, 2, 20), false);
        due("P3 name -2", x.leg(0, 2, -2), false);
        due("P3 place 3", x.leg(0, 3, 1), false);
        due("P3 place -1", x.leg(0, -1, 1), false);
        due("P3 no place", x.leg(1, 0, 1), false);
        due("P3 tensor 2", x.leg(2, 0, 1), false);
        due("P3 tensor -1", x.leg(-1, 0, 1), false);
        for (int far : FAR) {
            due("P3 far tensor", x.leg(far, 0, 1), false);
            due("P3 far place", x.leg(0, far, 1), false);
            due("P3 far name", x.leg(0, 2, far), false);
        }
        due("P3 still bare", x.total(2), 1);
        due("P3 bare stays bare", x.leg(0, 2, -1), true);
        due("P3 NONE to no place", x.leg(0, 3, -1), false);
        due("P3 last", x.leg(0, 2, 7), true);
        due("P3 open", x.open(), 1 | 1 << 7 | 1 << 19);
    }

    private static void legsFreed() {
        NetworkOrders x = network(t(4, 4), t(4 + 1, 6));
        due("P3 at two others", x.leg(1, 0, 4), false);
        due("P3 nothing changed", x.open(), 1 << 5 | 1 << 6);
        due("P3 the same again", x.leg(0, 0, 4), true);
        due("P3 the same once more", x.leg(0, 1, 4), true);
        due("P3 shared", x.total(3), 1 << 4);
        due("P3 taken away", x.leg(0, 0, -1), true);
        due("P3 one bare", x.total(2), 1);
        notReady("P3 bare", x);
        due("P3 free again", x.leg(1, 0, 4), true);
        due("P3 again at two others", x.leg(0, 0, 4), false);
        due("P3 a freed name", x.leg(0, 0, 5), true);
        due("P3 bare no more", x.total(2), 0);
        due("P3 now open", x.open(), 1 << 5 | 1 << 6);
        due("P3 replaced", x.leg(1, 1, 5), true);
        due("P3 all shared", x.total(3), 1 << 4 | 1 << 5);
    }

    private static void entries() {
        NetworkOrders x = new NetworkOrders();
        x.tensor(6);
        x.tensor(0);
        due("P4 index 63", x.put(0, 63, 9, -9), true);
        due("P4 index 0", x.put(0, 0, -9, 9), true);
        due("P4 without places", x.put(1, 0, 1, 0), true);
        for (int place = 0; place < 6; place++) {
            x.leg(0, place, place + 3);
        }
        due("P4 real", x.value(63, 0), 9);
        due("P4 imaginary", x.value(63, 1), -9);
        due("P4 first", x.value(0, 0), -9);
        due("P4 at first 0", x.value(31, 0), 0);
        due("P4 put again", x.put(0, 63, 2, 3), true);
        due("P4 replaced real", x.value(63, 0), 2);
        due("P4 replaced imaginary", x.value(63, 1), 3);
    }

    private static void entriesRefused() {
        NetworkOrders x = network(t(2), t());
        x.put(1, 0, 1, 0);
        x.put(0, 0, 4, 5);
        x.put(0, 1, 6, 7);
        due("P4 real 10", x.put(0, 0, 10, 0), false);
        due("P4 real -10", x.put(0, 0, -10, 0), false);
        due("P4 imaginary 10", x.put(0, 0, 0, 10), false);
        due("P4 imaginary -10", x.put(0, 0, 0, -10), false);
        due("P4 index 2", x.put(0, 2, 1, 1), false);
        due("P4 index -1", x.put(0, -1, 1, 1), false);
        due("P4 index 1 without places", x.put(1, 1, 1, 1), false);
        due("P4 tensor 2", x.put(2, 0, 1, 1), false);
        due("P4 tensor -1", x.put(-1, 0, 1, 1), false);
        for (int far : FAR) {
            due("P4 far tensor", x.put(far, 0, 1, 1), false);
            due("P4 far index", x.put(0, far, 1, 1), false);
            due("P4 far real", x.put(0, 0, far, 1), far == -2);
            due("P4 far imaginary", x.put(0, 0, 1, far), far == -2);
        }
        x.put(0, 0, 4, 5);
        due("P4 unchanged", x.put(0, 0, 4, 11), false);
        due("P4 unchanged real", x.value(0, 0), 4);
        due("P4 unchanged imaginary", x.value(0, 1), 5);
        due("P4 unchanged other", x.value(1, 0), 6);
    }

    private static void cleared() {
        NetworkOrders x = network(t(0, 1), t(1, 0));
        putAll(x, 0, 1, 2, 3, 4);
        putAll(x, 1, 1, 2, 3, 4);
        due("P5 cost before", x.cost(), 4);
        x.clear();
        due("P5 tensors", x.total(0), 0);
        due("P5 places", x.total(1), 0);
        due("P5 bare", x.total(2), 0);
        notReady("P5", x);
        due("P5 leg", x.leg(0, 0, 5), false);
        due("P5 put", x.put(0, 0, 1, 1), false);
        due("P5 first number", x.tensor(2), 0);
        due("P5 no legs", x.total(2), 2);
        due("P5 name free", x.leg(0, 0, 1), true);
        due("P5 name free", x.leg(0, 1, 0), true);
        due("P5 open", x.open(), 3);
        due("P5 entries 0", x.value(3, 0), 0);
        due("P5 cost", x.cost(), 0);
        x.clear();
        x.clear();
        due("P5 twice", x.tensor(0), 0);
    }

    private static void opens() {
        due("P6 all", network(t(0, 19)).open(), 1 | 1 << 19);
        due("P6 none", network(t()).open(), 0);
        due("P6 loop", network(t(7, 7, 8)).open(), 1 << 8);
        due("P6 shared", network(t(7, 3), t(7, 12)).open(), 1 << 3 | 1 << 12);
    }

    private static void values() {
        // (1 + 2i, 3) times (4, 5i) summed over the shared leg
        NetworkOrders x = network(t(6), t(6));
        x.put(0, 0, 1, 2);
        x.put(0, 1, 3, 0);
        x.put(1, 0, 4, 0);
        x.put(1, 1, 0, 5);
        due("P7 real", x.value(0, 0), 4);
        due("P7 imaginary", x.value(0, 1), 8 + 15);
        // i times i
        NetworkOrders y = network(t(), t());
        y.put(0, 0, 0, 1);
        y.put(1, 0, 0, 1);
        due("P7 i times i", y.value(0, 0), -1);
        due("P7 i times i, imaginary", y.value(0, 1), 0);
        NetworkOrders z = network(t());
        z.put(0, 0, -9, 8);
        due("P7 one tensor", z.value(0, 0), -9);
        due("P7 one tensor, imaginary", z.value(0, 1), 8);
    }

    private static void valuesOfLoopsAndProducts() {
        // a trace is the sum where both places of the loop agree
        NetworkOrders x = network(t(2, 9, 2));
        putAll(x, 0, 1, 2, 3, 4, 5, 6, 7, 8);
        due("P7 loop, 0", x.value(0, 0), 1 + 6);
        due("P7 loop, 1", x.value(1, 0), 3 + 8);
        // nothing shared: products
        NetworkOrders y = network(t(1), t(0));
        putAll(y, 0, 2, 3);
        putAll(y, 1, 5, 7);
        due("P7 product 00", y.value(0, 0), 10);
        due("P7 product, name 0", y.value(1, 0), 14);
        due("P7 product, name 1", y.value(2, 0), 15);
        due("P7 product 11", y.value(3, 0), 21);
    }

    private static void valuesByNamesNotPlaces() {
        // a matrix whose rows are name 11 and columns name 4: bit 0 of open is name 4
        NetworkOrders x = network(t(11, 4));
        putAll(x, 0, 1, 2, 3, 4);
        due("P7 00", x.value(0, 0), 1);
        due("P7 name 4", x.value(1, 0), 3);
        due("P7 name 11", x.value(2, 0), 2);
        due("P7 both", x.value(3, 0), 4);
        due("P7 renamed", x.leg(0, 0, 0), true);
        due("P7 name 0 is now bit 0", x.value(1, 0), 2);
        // two matrices one behind the other: [1 2; 3 4] times [5 6; 7 8], rows at place 0
        NetworkOrders y = network(t(10, 15), t(15, 5));
        putAll(y, 0, 1, 3, 2, 4);
        putAll(y, 1, 5, 7, 6, 8);
        due("P7 row 0 column 0", y.value(0, 0), 19);
        due("P7 column 1", y.value(1, 0), 22);
        due("P7 row 1", y.value(2, 0), 43);
        due("P7 row 1 column 1", y.value(3, 0), 50);
    }

    private static void valuesThatAreLarge() {
        // a ring of ten with double bonds, each entry 9 + 9i: 2^20 times (9 + 9i)^10
        NetworkOrders x = new NetworkOrders();
        for (int i = 0; i < 10; i++) {
            x.tensor(4);
            x.leg(i, 0, 2 * i);
            x.leg(i, 1, 2 * i + 1);
            for (int index = 0; index < 16; index++) {
                x.put(i, index, 9, 9);
            }
        }
        for (int i = 0; i < 10; i++) {
            x.leg(i, 2, (2 * i + 2) % 20);
            x.leg(i, 3, (2 * i + 3) % 20);
        }
        due("P7 large shared", x.total(3), (1 << 20) - 1);
        due("P7 large peak", x.peak(), 4);
        due("P7 large real", x.value(0, 0), 0);
        due("P7 large imaginary", x.value(0, 1), (1L << 20) * 3486784401L * 32L);
        due("P8 large real", x.slope(9, 15, 0, 0), (1L << 16) * 387420489L * 16L);
        due("P8 large imaginary", x.slope(9, 15, 0, 1), (1L << 16) * 387420489L * 16L);
    }

    private static void valuesRefused() {
        NetworkOrders x = network(t(3, 8));
        dueThrow("P7 part 2", () -> x.value(0, 2), Check.NO_SUCH);
        dueThrow("P7 part -1", () -> x.value(0, -1), Check.NO_SUCH);
        dueThrow("P7 open -1", () -> x.value(-1, 0), Check.NO_SUCH);
        dueThrow("P7 open 4", () -> x.value(4, 0), Check.NO_SUCH);
        dueThrow("P7 open 3", () -> x.value(3, 0), 0);
        for (int far : FAR) {
            dueThrow("P7 far open", () -> x.value(far, 0), Check.NO_SUCH);
            dueThrow("P7 far part", () -> x.value(0, far), Check.NO_SUCH);
        }
        dueThrow("P7 nothing open", () -> network(t(5, 5)).value(1, 0), Check.NO_SUCH);
        dueThrow("P7 nothing open, 0", () -> network(t(5, 5)).value(0, 0), 0);
        x.leg(0, 0, -1);
        dueThrow("P7 bare", () -> x.value(0, 0), Check.NO_SUCH);
    }

    private static void peakLimit() {
        NetworkOrders x = network(t(0, 1, 2, 3, 4, 5), t(6, 7, 8, 9, 10, 11));
        x.put(0, 63, 3, 0);
        x.put(1, 63, 5, 0);
        due("P10 twelve", x.peak(), 12);
        due("P7 peak 12", x.value(4095, 0), 15);
        dueThrow("P7 peak 12, too many bits", () -> x.value(4096, 0), Check.NO_SUCH);
        due("P8 peak 12", x.slope(0, 63, 4095, 0), 5);
        x.tensor(1);
        x.leg(2, 0, 19);
        due("P10 thirteen", x.peak(), 13);
        dueThrow("P7 peak 13", () -> x.value(0, 0), Check.ARITHMETIC);
        dueThrow("P7 peak 13, part 1", () -> x.value(8191, 1), Check.ARITHMETIC);
        dueThrow("P7 a wrong part comes first", () -> x.value(0, 2), Check.NO_SUCH);
        dueThrow("P7 a wrong open comes first", () -> x.value(8192, 0), Check.NO_SUCH);
        dueThrow("P8 peak 13", () -> x.slope(0, 0, 0, 0), Check.ARITHMETIC);
        dueThrow("P8 a wrong tensor comes first", () -> x.slope(3, 0, 0, 0), Check.NO_SUCH);
        dueThrow("P8 a wrong index comes first", () -> x.slope(0, 64, 0, 0), Check.NO_SUCH);
        x.leg(2, 0, 11);
        due("P10 one shared", x.peak(), 11);
        due("P7 below again", x.value(0, 0), 0);
    }

    private static void slopes() {
        NetworkOrders x = network(t(6, 1), t(6));
        x.put(1, 0, 4, 1);
        x.put(1, 1, 0, 5);
        x.put(0, 3, 2, 0);
        due("P8 real", x.slope(0, 0, 0, 0), 4);
        due("P8 imaginary", x.slope(0, 0, 0, 1), 1);
        due("P8 other index", x.slope(0, 1, 0, 1), 5);
        due("P8 other open value", x.slope(0, 1, 1, 1), 0);
        due("P8 its open value", x.slope(0, 3, 1, 1), 5);
        due("P8 of the second", x.slope(1, 1, 1, 0), 2);
        due("P8 of the second, other open value", x.slope(1, 1, 0, 0), 0);
        due("P8 entries stay", x.value(1, 1), 10);
        NetworkOrders y = network(t(3, 3, 4), t());
        y.put(1, 0, 7, 8);
        due("P8 loop agrees, 0", y.slope(0, 0, 0, 0), 7);
        due("P8 loop agrees, 1", y.slope(0, 7, 1, 1), 8);
        due("P8 loop has two values", y.slope(0, 1, 0, 0), 0);
        due("P8 loop has two values", y.slope(0, 6, 1, 0), 0);
        NetworkOrders z = network(t());
        due("P8 alone", z.slope(0, 0, 0, 0), 1);
        due("P8 alone, imaginary", z.slope(0, 0, 0, 1), 0);
    }

    private static void slopesRefused() {
        NetworkOrders x = network(t(3, 8), t());
        dueThrow("P8 tensor 2", () -> x.slope(2, 0, 0, 0), Check.NO_SUCH);
        dueThrow("P8 tensor -1", () -> x.slope(-1, 0, 0, 0), Check.NO_SUCH);
        dueThrow("P8 index 4", () -> x.slope(0, 4, 0, 0), Check.NO_SUCH);
        dueThrow("P8 index -1", () -> x.slope(0, -1, 0, 0), Check.NO_SUCH);
        dueThrow("P8 index 1 without places", () -> x.slope(1, 1, 0, 0), Check.NO_SUCH);
        dueThrow("P8 tensor and index -1", () -> x.slope(-1, -1, 0, 0), Check.NO_SUCH);
        dueThrow("P8 part 2", () -> x.slope(0, 0, 0, 2), Check.NO_SUCH);
        dueThrow("P8 open 4", () -> x.slope(0, 0, 4, 0), Check.NO_SUCH);
        dueThrow("P8 open -1", () -> x.slope(0, 0, -1, 0), Check.NO_SUCH);
        for (int far : FAR) {
            dueThrow("P8 far tensor", () -> x.slope(far, 0, 0, 0), Check.NO_SUCH);
            dueThrow("P8 far index", () -> x.slope(0, far, 0, 0), Check.NO_SUCH);
            dueThrow("P8 far open", () -> x.slope(0, 0, far, 0), Check.NO_SUCH);
            dueThrow("P8 far part", () -> x.slope(0, 0, 0, far), Check.NO_SUCH);
        }
        dueThrow("P8 right", () -> x.slope(0, 3, 3, 0), 0);
        x.tensor(1);
        dueThrow("P8 bare", () -> x.slope(0, 0, 0, 0), Check.NO_SUCH);
    }

    private static void costs() {
        due("P9 one", network(t(1, 2, 3)).cost(), 0);
        due("P9 two without legs", network(t(), t()).cost(), 1);
        due("P9 two loops", network(t(1, 1), t(2, 2)).cost(), 1);
        due("P9 matrix and matrix", network(t(1, 2), t(2, 3)).cost(), 8);
        due("P9 matrix, matrix, row", network(t(1, 2), t(2, 3), t(3)).cost(), 4 + 4);
        due("P9 two of six", network(t(0, 1, 2, 3, 4, 5), t(6, 7, 8, 9, 10, 11)).cost(), 4096);
        due("P9 the most", network(t(0, 1, 2, 3, 4, 5), t(6, 7, 8, 9, 10, 11),
                t(12, 13, 14, 15, 16, 17), t(18, 19)).cost(), 256 + 4096 + (1 << 20));
    }

    private static void peaks() {
        due("P10 one", network(t(1, 2, 3)).peak(), 3);
        due("P10 none", network(t()).peak(), 0);
        due("P10 a loop is no leg", network(t(1, 1, 2)).peak(), 1);
        due("P10 of a tensor", network(t(1, 2, 3), t(1, 2, 3)).peak(), 3);
        due("P10 of a step", network(t(1, 2, 3), t(1, 4, 5)).peak(), 4);
        due("P10 of the last step", network(t(1), t(2), t(3)).peak(), 3);
        NetworkOrders x = network(t(1, 2, 3), t(1, 4, 5));
        x.leg(1, 1, 2);
        due("P10 after a change", x.peak(), 3);
    }

    private static void steps() {
        // a chain whose end is a row: from the end on
        NetworkOrders x = network(t(1, 2), t(2, 3), t(3));
        due("P11 step 0 first", x.step(0, 0), 2);
        due("P11 step 0 second", x.step(0, 1), 4);
        due("P11 step 1 first", x.step(1, 0), 1);
        due("P11 step 1 second", x.step(1, 1), 6);
        due("P11 step 2", x.step(2, 0), -1);
        due("P11 step 2", x.step(2, 1), -1);
        due("P11 step -1", x.step(-1, 0), -1);
        due("P11 side 2", x.step(0, 2), -1);
        due("P11 side -1", x.step(0, -1), -1);
        for (int far : FAR) {
            due("P11 far step", x.step(far, 0), -1);
            due("P11 far side", x.step(0, far), -1);
        }
        due("P11 one tensor", network(t(1)).step(0, 0), -1);
        // two pairs bound fast: the steps of the first part, of the second one, then both
        NetworkOrders y = network(t(0, 1, 2, 3, 4), t(5, 6, 7, 8, 4), t(0, 1, 2, 3, 9), t(5, 6, 7, 8, 9));
        due("P11 pair 0", y.step(0, 0), 1);
        due("P11 pair 0", y.step(0, 1), 4);
        due("P11 pair 1", y.step(1, 0), 2);
        due("P11 pair 1", y.step(1, 1), 8);
        due("P11 both", y.step(2, 0), 5);
        due("P11 both", y.step(2, 1), 10);
        due("P9 both", y.cost(), 64 + 64 + 4);
        due("P10 both", y.peak(), 5);
    }

    private static void stepsOfEquals() {
        // all orders cost the same: the least first part is the least tensor alone
        NetworkOrders x = network(t(), t(), t(), t());
        due("P11 equals 0", x.step(0, 0), 4);
        due("P11 equals 0", x.step(0, 1), 8);
        due("P11 equals 1", x.step(1, 0), 2);
        due("P11 equals 1", x.step(1, 1), 12);
        due("P11 equals 2", x.step(2, 0), 1);
        due("P11 equals 2", x.step(2, 1), 14);
        // a triangle: each first part costs 8 and 4; {0} is the least
        NetworkOrders y = network(t(0, 1), t(1, 2), t(2, 0));
        due("P11 triangle", y.step(0, 0), 2);
        due("P11 triangle", y.step(0, 1), 4);
        due("P11 triangle", y.step(1, 0), 1);
        due("P9 triangle", y.cost(), 12);
    }

    private static void orderIsNotGreedy() {
        // greedy takes one row after the other into tensor 1; two rows first, then both, is less
        NetworkOrders x = network(t(0), t(0, 1, 2, 3), t(1), t(2), t(3));
        due("P12 greedy costs", x.greedy(-1), 16 + 8 + 4 + 2);
        due("P9 the order costs less", x.cost(), 4 + 16 + 4 + 2);
        due("P10 not greedy", x.peak(), 4);
        NetworkOrders y = network(t(0), t(1), t(0, 1, 2), t(2));
        due("P12 as good", y.greedy(-1), 8 + 4 + 2);
        due("P9 as good", y.cost(), 4 + 8 + 2);
    }

    private static void greedyTurns() {
        // things: 0 {0}, 1 {0,1}, 2 {1}. growth of 0-1: 2-2-4, of 0-2: 4-2-2, of 1-2: 2-4-2
        NetworkOrders x = network(t(0), t(0, 1), t(1));
        due("P12 costs", x.greedy(-1), 4 + 2);
        due("P12 turn 0", x.greedy(0), 0);
        due("P12 turn 0, other", x.greedy(100), 1);
        due("P12 turn 1", x.greedy(1), 2);
        due("P12 turn 1, other", x.greedy(101), 3);
        due("P12 turn 2", x.greedy(2), -1);
        due("P12 turn 2, other", x.greedy(102), -1);
        due("P12 between", x.greedy(99), -1);
        due("P12 below", x.greedy(-2), -1);
        for (int far : FAR) {
            due("P12 far", x.greedy(far), -1);
        }
        due("P12 one tensor", network(t(1)).greedy(-1), 0);
        due("P12 one tensor, turn 0", network(t(1)).greedy(0), -1);
        due("P12 one tensor, turn 0, other", network(t(1)).greedy(100), -1);
    }

    private static void greedyOfEquals() {
        NetworkOrders x = network(t(), t(), t(), t());
        due("P12 equals costs", x.greedy(-1), 3);
        due("P12 equals 0", x.greedy(0), 0);
        due("P12 equals 0", x.greedy(100), 1);
        due("P12 equals 1", x.greedy(1), 2);
        due("P12 equals 1", x.greedy(101), 3);
        due("P12 equals 2", x.greedy(2), 4);
        due("P12 equals 2", x.greedy(102), 5);
        // the best two are not the first ones: 1 and 3 share three legs
        NetworkOrders y = network(t(9), t(0, 1, 2), t(9), t(0, 1, 2));
        due("P12 best", y.greedy(0), 1);
        due("P12 best", y.greedy(100), 3);
        due("P12 then", y.greedy(1), 0);
        due("P12 then", y.greedy(101), 2);
        due("P12 last", y.greedy(2), 4);
        due("P12 last", y.greedy(102), 5);
        due("P12 costs", y.greedy(-1), 8 + 2 + 1);
    }

    private static void cuts() {
        NetworkOrders x = network(t(2, 5), t(5, 2));
        due("P13 no cut", x.cut(2), 0);
        due("P13 no cut, far", x.cut(Integer.MAX_VALUE), 0);
        due("P13 one, the least", x.cut(1), 1 << 2);
        due("P13 two", x.cut(0), 1 << 2 | 1 << 5);
        due("P13 below 0", x.cut(-1), -1);
        due("P13 far below 0", x.cut(Integer.MIN_VALUE), -1);
        NetworkOrders y = network(t(2, 5, 6), t(5, 2, 6));
        due("P13 three would be needed", y.cut(0), -1);
        due("P13 two of three", y.cut(1), 1 << 2 | 1 << 5);
        y.leg(1, 2, 7);
        due("P13 open legs stay", y.cut(0), -1);
        NetworkOrders z = network(t(1, 1, 3, 3), t());
        due("P13 loops need no cut", z.cut(0), 0);
    }

    private static void cutsOfTwo() {
        // tensor 0 has four legs, so any two of them will do
        NetworkOrders x = network(t(3, 2, 1, 0), t(0, 1), t(2, 3));
        due("P13 least pair", x.cut(2), 1 | 1 << 1);
        // a loop with a low name helps nobody
        NetworkOrders y = network(t(0, 0, 4, 9), t(4, 9, 1, 1));
        due("P13 not the loop", y.cut(1), 1 << 4);
        due("P13 not the loop, two", y.cut(0), 1 << 4 | 1 << 9);
        // one cut of a great name goes before two of small names
        NetworkOrders z = network(t(0, 1, 19), t(0, 2, 19), t(1), t(2));
        due("P13 the fewest", z.cut(2), 1);
        NetworkOrders w = network(t(0, 1, 2, 18), t(0), t(1), t(2), t(18, 3, 4, 5), t(3), t(4), t(5));
        due("P13 the great name", w.cut(3), 1 << 18);
    }

    private static void cutsLeaveOpenLegs() {
        NetworkOrders x = network(t(0, 1, 2), t(0, 3, 4));
        due("P13 open legs", x.cut(3), -1);
        due("P13 open legs", x.cut(4), 0);
        NetworkOrders y = network(t(0, 1, 7), t(0, 1, 7));
        y.leg(1, 2, 8);
        due("P13 after a change", y.cut(2), 1);
        y.leg(1, 2, 7);
        due("P13 after a change back", y.cut(2), 1);
        y.leg(0, 0, 9);
        due("P13 0 is open now", y.cut(2), 1 << 1);
    }

    private static void costsOfCuts() {
        NetworkOrders x = network(t(0, 1, 6, 6), t(1, 2), t(2, 0, 19));
        due("P14 nothing cut", x.costOf(0), 16);
        due("P14 as cost", x.costOf(0), x.cost());
        due("P14 one", x.costOf(1), 2 * (4 + 4));
        due("P14 all between", x.costOf(7), 8 * (1 + 2));
        due("P14 a loop", x.costOf(1 << 6), 2 * 16);
        due("P14 a loop and one", x.costOf(1 << 6 | 1), 4 * 8);
        due("P14 all", x.costOf(7 | 1 << 6), 16 * 3);
        due("P14 open", x.costOf(1 << 19), -1);
        due("P14 open and shared", x.costOf(1 << 19 | 1), -1);
        due("P14 not there", x.costOf(1 << 5), -1);
        due("P14 no name", x.costOf(1 << 20), -1);
        due("P14 negative", x.costOf(-1), -1);
        due("P14 negative", x.costOf(Integer.MIN_VALUE), -1);
        due("P14 negative", x.costOf(Integer.MIN_VALUE | 1), -1);
        due("P14 the order stays", x.cost(), 16);
        due("P14 one tensor", network(t(3, 3)).costOf(8), 0);
        x.leg(2, 2, -1);
        due("P14 bare", x.costOf(1), -1);
    }

    private static void totals() {
        NetworkOrders x = network(t(0, 1, 1), t(), t(0, 19));
        due("P15 tensors", x.total(0), 3);
        due("P15 places", x.total(1), 5);
        due("P15 without a leg", x.total(2), 0);
        due("P15 shared", x.total(3), 3);
        due("P15 4", x.total(4), -1);
        due("P15 -1", x.total(-1), -1);
        for (int far : FAR) {
            due("P15 far", x.total(far), -1);
        }
        x.leg(2, 1, -1);
        due("P15 one without a leg", x.total(2), 1);
        due("P15 shared, not ready", x.total(3), 0);
        x.tensor(4);
        due("P15 five without a leg", x.total(2), 5);
        due("P15 nine places", x.total(1), 9);
        due("P15 four tensors", x.total(0), 4);
        x.clear();
        due("P15 nothing", x.total(0) + x.total(1) + x.total(2) + x.total(3), 0);
    }
}
