/** The boundary cases of promises 7 and 8, and of the terms they use: one test for each sentence. */
public final class ValueBoundaryTest {
    private static final int NONE = -1;
    private static final int[] FAR = {Integer.MIN_VALUE, Integer.MIN_VALUE + 1, -33, -32, -31, -2, 64, 100, 1 << 20,
        1 << 30, Integer.MAX_VALUE - 1, Integer.MAX_VALUE};

    public static void main(String[] args) {
        terms();
        value();
        slope();
        slopeRefused();
        Check.end();
    }

    private static void terms() {
        Check.sentence("THE VALUE: over all values of the SHARED LEGS, none", ValueBoundaryTest::nothingShared);
        Check.sentence("THE VALUE: over all values of the SHARED LEGS, all", ValueBoundaryTest::allShared);
        Check.sentence("THE VALUE: a LEG twice in one TENSOR", ValueBoundaryTest::loops);
        Check.sentence("THE VALUE: the product of the ENTRIES of all TENSORS", ValueBoundaryTest::noPlaces);
        Check.sentence("THE SLOPE: when 1 is added to it", ValueBoundaryTest::oneIsAdded);
        Check.sentence("THE SLOPE: when 1 is added to a 9", ValueBoundaryTest::oneIsAddedTo9);
    }

    private static void value() {
        Check.sentence("P7: part 0: real, 1: imaginary", ValueBoundaryTest::bothParts);
        Check.sentence("P7: the j-th OPEN LEG, by NAMES", ValueBoundaryTest::openLegsByNames);
        Check.sentence("P7: a long", ValueBoundaryTest::greatestValue);
        Check.sentence("P7: it is not READY", ValueBoundaryTest::valueNotReady);
        Check.sentence("P7: there is no such part", ValueBoundaryTest::valueOfNoPart);
        Check.sentence("P7: open is below 0", ValueBoundaryTest::valueOpenBelow0);
        Check.sentence("P7: or has a bit too many", ValueBoundaryTest::valueABitTooMany);
        Check.sentence("P7: THE PEAK is above 12, 12 is not", ValueBoundaryTest::valueAtPeak12);
        Check.sentence("P7: THE PEAK is above 12, of a STEP on the way", ValueBoundaryTest::valueAtPeak12OnTheWay);
        Check.sentence("P7: THE PEAK is above 12, 13 is", ValueBoundaryTest::valueAtPeak13);
        Check.sentence("P7: THE PEAK is above 12, 20 is", ValueBoundaryTest::valueAtPeak20);
        Check.sentence("P7: ArithmeticException (asked behind that)", ValueBoundaryTest::valueAskedBehind);
    }

    private static void slope() {
        Check.sentence("P8: likewise, both parts", ValueBoundaryTest::slopeParts);
        Check.sentence("P8: likewise, by the OPEN LEGS", ValueBoundaryTest::slopeByOpenLegs);
        Check.sentence("P8: an INDEX that has two values for a LEG that is twice: 0",
                ValueBoundaryTest::slopeOfTwoValues);
        Check.sentence("P8: a long", ValueBoundaryTest::greatestSlope);
        Check.sentence("P8: at THE PEAK 12", ValueBoundaryTest::slopeAtPeak12);
    }

    private static void slopeRefused() {
        Check.sentence("P8: as for value(), not READY", ValueBoundaryTest::slopeNotReady);
        Check.sentence("P8: as for value(), no such part", ValueBoundaryTest::slopeOfNoPart);
        Check.sentence("P8: as for value(), open is below 0", ValueBoundaryTest::slopeOpenBelow0);
        Check.sentence("P8: as for value(), a bit too many", ValueBoundaryTest::slopeABitTooMany);
        Check.sentence("P8: there is no such TENSOR", ValueBoundaryTest::slopeOfNoTensor);
        Check.sentence("P8: there is no such INDEX", ValueBoundaryTest::slopeOfNoIndex);
        Check.sentence("P8: ArithmeticException: as for value()", ValueBoundaryTest::slopeAtPeak13);
        Check.sentence("P8: ArithmeticException, asked behind that", ValueBoundaryTest::slopeAskedBehind);
        Check.sentence("P8: changes nothing", ValueBoundaryTest::slopeChangesNothing);
    }

    // ---- terms

    private static void nothingShared() {
        NetworkOrders x = Nets.network(Nets.t(1), Nets.t(0));
        Nets.putAll(x, 0, 2, 3);
        Nets.putAll(x, 1, 5, 7);
        Check.due("none of both", x.value(0, 0), 10);
        Check.due("name 0", x.value(1, 0), 14);
        Check.due("name 1", x.value(2, 0), 15);
        Check.due("both", x.value(3, 0), 21);
    }

    private static void allShared() {
        NetworkOrders x = Nets.network(Nets.t(0, 19), Nets.t(19, 0));
        Nets.putAll(x, 0, 1, 2, 3, 4);
        Nets.putAll(x, 1, 5, 6, 7, 8);
        Check.due("all four summands", x.value(0, 0), 1 * 5 + 2 * 7 + 3 * 6 + 4 * 8);
        NetworkOrders ring = Nets.fullRing();
        for (int i = 0; i < 10; i++) {
            ring.put(i, 15, 1, 0);
            ring.put(i, 0, 2, 0);
        }
        Check.due("all legs 1, all legs 0", ring.value(0, 0), 1 + 1024);
    }

    private static void loops() {
        NetworkOrders x = Nets.network(Nets.t(2, 9, 2));
        Nets.putAll(x, 0, 1, 2, 3, 4, 5, 6, 7, 8);
        Check.due("where both agree, 0", x.value(0, 0), 1 + 6);
        Check.due("where both agree, 1", x.value(1, 0), 3 + 8);
        NetworkOrders three = Nets.network(Nets.t(0, 0, 1, 1, 2, 2));
        for (int index = 0; index < 64; index++) {
            three.put(0, index, 1, -1);
        }
        Check.due("three loops, real", three.value(0, 0), 8);
        Check.due("three loops, imaginary", three.value(0, 1), -8);
    }

    private static void noPlaces() {
        NetworkOrders x = new NetworkOrders();
        for (int i = 0; i < 10; i++) {
            x.tensor(0);
            x.put(i, 0, 0, 1);
            int turn = i % 4;
            Check.due("a power of i, real", x.value(0, 0), turn == 1 ? -1 : turn == 3 ? 1 : 0);
            Check.due("a power of i, imaginary", x.value(0, 1), turn == 0 ? 1 : turn == 2 ? -1 : 0);
        }
        x.put(5, 0, 0, 0);
        Check.due("one is 0, real", x.value(0, 0), 0);
        Check.due("one is 0, imaginary", x.value(0, 1), 0);
    }

    private static void oneIsAdded() {
        NetworkOrders x = Nets.network(Nets.t(3), Nets.t(3));
        x.put(0, 1, 8, -2);
        x.put(1, 1, 5, 7);
        long real = x.value(0, 0);
        long imaginary = x.value(0, 1);
        long gainReal = x.slope(0, 1, 0, 0);
        long gainImaginary = x.slope(0, 1, 0, 1);
        Check.due("gain", gainReal, 5);
        Check.due("gain, imaginary", gainImaginary, 7);
        x.put(0, 1, 9, -2);
        Check.due("gained", x.value(0, 0) - real, gainReal);
        Check.due("gained, imaginary", x.value(0, 1) - imaginary, gainImaginary);
    }

    private static void oneIsAddedTo9() {
        NetworkOrders x = Nets.network(Nets.t(3), Nets.t(3));
        x.put(0, 1, 9, 9);
        x.put(1, 1, 9, -9);
        Check.due("gain of the first", x.slope(0, 1, 0, 0), 9);
        Check.due("gain of the first, imaginary", x.slope(0, 1, 0, 1), -9);
        Check.due("gain of the second", x.slope(1, 1, 0, 0), 9);
        Check.due("gain of the second, imaginary", x.slope(1, 1, 0, 1), 9);
        Check.due("the value stays", x.value(0, 0), 162);
    }

    // ---- promise 7

    private static void bothParts() {
        NetworkOrders x = Nets.network(Nets.t());
        x.put(0, 0, -9, 8);
        Check.due("real", x.value(0, 0), -9);
        Check.due("imaginary", x.value(0, 1), 8);
    }

    private static void openLegsByNames() {
        NetworkOrders x = Nets.network(Nets.t(19, 7), Nets.t(12, 0, 12), Nets.t(3));
        x.put(0, 1, 1, 0);
        x.put(0, 2, 2, 0);
        x.put(1, 0, 3, 0);
        x.put(1, 7, 4, 0);
        x.put(2, 1, 5, 0);
        // the open legs are 0, 3, 7, 19: bits 0 to 3
        Check.due("3 and 19", x.value(2 | 8, 0), 1 * 3 * 5);
        Check.due("3 and 7", x.value(2 | 4, 0), 2 * 3 * 5);
        Check.due("0, 3 and 19", x.value(1 | 2 | 8, 0), 1 * 4 * 5);
        Check.due("0, 3 and 7", x.value(1 | 2 | 4, 0), 2 * 4 * 5);
        Check.due("without 3", x.value(8, 0), 0);
        Check.due("all", x.value(15, 0), 0);
    }

    private static void greatestValue() {
        NetworkOrders x = Nets.fullRing();
        putEverywhere(x, 9, 9);
        Check.due("real", x.value(0, 0), 0);
        Check.due("imaginary", x.value(0, 1), (1L << 20) * 3486784401L * 32L);
        putEverywhere(x, -9, 9);
        Check.due("the other way", x.value(0, 1), -(1L << 20) * 3486784401L * 32L);
        putEverywhere(x, 9, 0);
        Check.due("real entries", x.value(0, 0), (1L << 20) * 3486784401L);
    }

    private static void putEverywhere(NetworkOrders x, int real, int imaginary) {
        for (int tensor = 0; tensor < 10; tensor++) {
            for (int index = 0; index < 16; index++) {
                x.put(tensor, index, real, imaginary);
            }
        }
    }

    private static void valueNotReady() {
        NetworkOrders x = new NetworkOrders();
        Check.noSuch("no tensors", () -> x.value(0, 0));
        x.tensor(2);
        x.leg(0, 0, 3);
        Check.noSuch("a bare place", () -> x.value(0, 0));
        x.leg(0, 1, 4);
        Check.due("ready", Check.answer(() -> x.value(0, 0)), 0);
        x.leg(0, 0, NONE);
        Check.noSuch("bare again", () -> x.value(0, 1));
        x.clear();
        Check.noSuch("cleared", () -> x.value(0, 0));
    }

    private static void valueOfNoPart() {
        NetworkOrders x = Nets.network(Nets.t(3, 8));
        Check.noSuch("-1", () -> x.value(0, -1));
        Check.noSuch("2", () -> x.value(0, 2));
        for (int far : FAR) {
            Check.noSuch("far", () -> x.value(0, far));
        }
    }

    private static void valueOpenBelow0() {
        NetworkOrders x = Nets.network(Nets.t(3, 8));
        NetworkOrders none = Nets.network(Nets.t());
        Check.noSuch("-1", () -> x.value(-1, 0));
        Check.noSuch("-1, nothing open", () -> none.value(-1, 0));
        for (int far : FAR) {
            if (far < 0) {
                Check.noSuch("far", () -> x.value(far, 1));
                Check.noSuch("far, nothing open", () -> none.value(far, 1));
            }
        }
    }

    private static void valueABitTooMany() {
        NetworkOrders none = Nets.network(Nets.t(5, 5), Nets.t(6), Nets.t(6));
        Check.noSuch("nothing open, 1", () -> none.value(1, 0));
        Check.due("nothing open, 0", Check.answer(() -> none.value(0, 0)), 0);
        NetworkOrders x = Nets.network(Nets.t(3, 8), Nets.t(8, 19, 4, 4));
        Check.due("two open, 3", Check.answer(() -> x.value(3, 0)), 0);
        Check.noSuch("two open, 4", () -> x.value(4, 0));
        Check.noSuch("two open, 5", () -> x.value(5, 0));
        Check.noSuch("two open, the set of names", () -> x.value(1 << 3 | 1 << 19, 0));
        NetworkOrders twelve = Nets.twelveOpen();
        Check.due("twelve open, 4095", Check.answer(() -> twelve.value(4095, 0)), 0);
        Check.noSuch("twelve open, 4096", () -> twelve.value(4096, 0));
        Check.noSuch("twenty open, 2^20", () -> Nets.twentyOpen().value(1 << 20, 0));
        for (int far : FAR) {
            if (far > 0) {
                Check.noSuch("far", () -> x.value(far, 0));
            }
        }
    }

    private static void valueAtPeak12() {
        NetworkOrders x = Nets.twelveOpen();
        x.put(0, 63, 3, 0);
        x.put(0, 32, 2, 0);
        x.put(1, 63, 5, 1);
        x.put(1, 0, 7, 0);
        Check.due("the peak", x.peak(), 12);
        Check.due("all ones", Check.answer(() -> x.value(4095, 0)), 15);
        Check.due("all ones, imaginary", Check.answer(() -> x.value(4095, 1)), 3);
        Check.due("name 5 alone", Check.answer(() -> x.value(32, 0)), 14);
        Check.due("none", Check.answer(() -> x.value(0, 0)), 0);
    }

    /** Five, a leg between any two and two open ones each: three together have twelve, all have ten. */
    private static void valueAtPeak12OnTheWay() {
        NetworkOrders x = Nets.network(Nets.t(0, 1, 2, 3, 10, 11), Nets.t(0, 4, 5, 6, 12, 13),
                Nets.t(1, 4, 7, 8, 14, 15), Nets.t(2, 5, 7, 9, 16, 17), Nets.t(3, 6, 8, 9, 18, 19));
        for (int i = 0; i < 5; i++) {
            x.put(i, 0, 3, 0);
            x.put(i, 63, 2, 0);
            x.put(i, 15, 0, 1);
        }
        Check.due("the peak", x.peak(), 12);
        Check.due("the open ones are fewer", Integer.bitCount(x.open()), 10);
        Check.due("all open legs 0", Check.answer(() -> x.value(0, 0)), 243);
        Check.due("all open legs 0, imaginary", Check.answer(() -> x.value(0, 1)), 1);
        Check.due("all open legs 1", Check.answer(() -> x.value(1023, 0)), 32);
    }

    private static void valueAtPeak13() {
        NetworkOrders x = Nets.thirteenOpen();
        Check.due("the peak", x.peak(), 13);
        Check.arithmetic("none", () -> x.value(0, 0));
        Check.arithmetic("all, imaginary", () -> x.value(8191, 1));
        x.leg(2, 0, 11);
        Check.due("one shared, the peak", x.peak(), 11);
        Check.due("one shared", Check.answer(() -> x.value(0, 0)), 0);
        x.leg(2, 0, 12);
        Check.arithmetic("open again", () -> x.value(0, 0));
    }

    private static void valueAtPeak20() {
        NetworkOrders x = Nets.twentyOpen();
        Check.due("the peak", x.peak(), 20);
        Check.arithmetic("none", () -> x.value(0, 0));
        Check.arithmetic("all", () -> x.value(Nets.ALL_NAMES, 1));
    }

    private static void valueAskedBehind() {
        NetworkOrders x = Nets.thirteenOpen();
        Check.arithmetic("all is right but the peak", () -> x.value(8191, 1));
        Check.noSuch("part 2", () -> x.value(0, 2));
        Check.noSuch("part -1", () -> x.value(0, -1));
        Check.noSuch("open -1", () -> x.value(-1, 0));
        Check.noSuch("open 2^13", () -> x.value(8192, 0));
        x.tensor(1);
        Check.noSuch("not ready", () -> x.value(0, 0));
    }

    // ---- promise 8

    private static void slopeParts() {
        NetworkOrders x = Nets.network(Nets.t(), Nets.t());
        x.put(0, 0, 1, 2);
        x.put(1, 0, -3, 4);
        Check.due("of the first, real", x.slope(0, 0, 0, 0), -3);
        Check.due("of the first, imaginary", x.slope(0, 0, 0, 1), 4);
        Check.due("of the second, real", x.slope(1, 0, 0, 0), 1);
        Check.due("of the second, imaginary", x.slope(1, 0, 0, 1), 2);
        NetworkOrders alone = Nets.network(Nets.t());
        alone.put(0, 0, 7, 7);
        Check.due("alone, real", alone.slope(0, 0, 0, 0), 1);
        Check.due("alone, imaginary", alone.slope(0, 0, 0, 1), 0);
    }

    private static void slopeByOpenLegs() {
        NetworkOrders x = Nets.network(Nets.t(9, 4), Nets.t(4, 2));
        Nets.putAll(x, 1, 1, 2, 3, 4);
        // bit 0 of open is name 2, bit 1 is name 9
        Check.due("index 0, open 0", x.slope(0, 0, 0, 0), 1);
        Check.due("index 0, name 2", x.slope(0, 0, 1, 0), 3);
        Check.due("index 0, name 9", x.slope(0, 0, 2, 0), 0);
        Check.due("index 1, open 0", x.slope(0, 1, 0, 0), 0);
        Check.due("index 1, name 9", x.slope(0, 1, 2, 0), 1);
        Check.due("index 2, open 0", x.slope(0, 2, 0, 0), 2);
        Check.due("index 3, both", x.slope(0, 3, 3, 0), 4);
    }

    private static void slopeOfTwoValues() {
        NetworkOrders x = Nets.network(Nets.t(3, 3, 4), Nets.t());
        x.put(1, 0, 7, 8);
        Check.due("both 0", x.slope(0, 0, 0, 0), 7);
        Check.due("1 and 0", Check.answer(() -> x.slope(0, 1, 0, 0)), 0);
        Check.due("0 and 1", Check.answer(() -> x.slope(0, 2, 0, 1)), 0);
        Check.due("both 1", x.slope(0, 3, 0, 1), 8);
        Check.due("1 and 0, open 1", Check.answer(() -> x.slope(0, 5, 1, 0)), 0);
        Check.due("0 and 1, open 1", Check.answer(() -> x.slope(0, 6, 1, 1)), 0);
        Check.due("both 1, open 1", x.slope(0, 7, 1, 0), 7);
        NetworkOrders two = Nets.network(Nets.t(0, 19, 19, 0));
        Check.due("both loops agree", two.slope(0, 15, 0, 0), 1);
        Check.due("one loop of two agrees", two.slope(0, 9, 0, 0), 1);
        Check.due("one loop has two values", two.slope(0, 1, 0, 0), 0);
        Check.due("both loops have two values", two.slope(0, 3, 0, 0), 0);
    }

    private static void greatestSlope() {
        NetworkOrders x = Nets.fullRing();
        putEverywhere(x, 9, 9);
        Check.due("real", x.slope(9, 15, 0, 0), (1L << 16) * 387420489L * 16L);
        Check.due("imaginary", x.slope(0, 0, 0, 1), (1L << 16) * 387420489L * 16L);
    }

    private static void slopeAtPeak12() {
        NetworkOrders x = Nets.twelveOpen();
        x.put(1, 63, 5, 6);
        Check.due("real", Check.answer(() -> x.slope(0, 63, 4095, 0)), 5);
        Check.due("imaginary", Check.answer(() -> x.slope(0, 63, 4095, 1)), 6);
        Check.due("another index", Check.answer(() -> x.slope(0, 62, 4095, 0)), 0);
    }

    private static void slopeNotReady() {
        NetworkOrders x = new NetworkOrders();
        Check.noSuch("no tensors", () -> x.slope(0, 0, 0, 0));
        x.tensor(0);
        Check.due("ready", Check.answer(() -> x.slope(0, 0, 0, 0)), 1);
        x.tensor(1);
        Check.noSuch("a bare place", () -> x.slope(0, 0, 0, 0));
        x.clear();
        Check.noSuch("cleared", () -> x.slope(0, 0, 0, 0));
    }

    private static void slopeOfNoPart() {
        NetworkOrders x = Nets.network(Nets.t(3, 8));
        Check.noSuch("-1", () -> x.slope(0, 0, 0, -1));
        Check.noSuch("2", () -> x.slope(0, 0, 0, 2));
        for (int far : FAR) {
            Check.noSuch("far", () -> x.slope(0, 0, 0, far));
        }
    }

    private static void slopeOpenBelow0() {
        NetworkOrders x = Nets.network(Nets.t(3, 8));
        Check.noSuch("-1", () -> x.slope(0, 0, -1, 0));
        for (int far : FAR) {
            if (far < 0) {
                Check.noSuch("far", () -> x.slope(0, 0, far, 0));
            }
        }
    }

    private static void slopeABitTooMany() {
        NetworkOrders none = Nets.network(Nets.t(5, 5));
        Check.noSuch("nothing open, 1", () -> none.slope(0, 0, 1, 0));
        Check.due("nothing open, 0", Check.answer(() -> none.slope(0, 0, 0, 0)), 1);
        NetworkOrders x = Nets.network(Nets.t(3, 8));
        Check.due("two open, 3", Check.answer(() -> x.slope(0, 3, 3, 0)), 1);
        Check.noSuch("two open, 4", () -> x.slope(0, 0, 4, 0));
        Check.noSuch("twelve open, 4096", () -> Nets.twelveOpen().slope(0, 0, 4096, 0));
        for (int far : FAR) {
            if (far > 0) {
                Check.noSuch("far", () -> x.slope(0, 0, far, 0));
            }
        }
    }

    private static void slopeOfNoTensor() {
        NetworkOrders x = Nets.network(Nets.t(3, 8), Nets.t());
        Check.noSuch("-1", () -> x.slope(-1, 0, 0, 0));
        Check.noSuch("2", () -> x.slope(2, 0, 0, 0));
        Check.noSuch("10", () -> x.slope(10, 0, 0, 0));
        Check.noSuch("-1, INDEX -1", () -> x.slope(-1, -1, 0, 0));
        for (int far : FAR) {
            Check.noSuch("far", () -> x.slope(far, 0, 0, 0));
        }
        Check.due("the last", Check.answer(() -> x.slope(1, 0, 0, 0)), 0);
    }

    private static void slopeOfNoIndex() {
        NetworkOrders x = Nets.network(Nets.t(3, 8), Nets.t(), Nets.t(0, 1, 2, 4, 5, 6));
        Check.noSuch("-1", () -> x.slope(0, -1, 0, 0));
        Check.noSuch("4 of two places", () -> x.slope(0, 4, 0, 0));
        Check.noSuch("1 of no places", () -> x.slope(1, 1, 0, 0));
        Check.noSuch("64 of six places", () -> x.slope(2, 64, 0, 0));
        Check.due("3 of two places", Check.answer(() -> x.slope(0, 3, 0, 0)), 0);
        Check.due("0 of no places", Check.answer(() -> x.slope(1, 0, 0, 0)), 0);
        Check.due("63 of six places", Check.answer(() -> x.slope(2, 63, 0, 0)), 0);
        for (int far : FAR) {
            Check.noSuch("far", () -> x.slope(2, far, 0, 0));
        }
    }

    private static void slopeAtPeak13() {
        NetworkOrders x = Nets.thirteenOpen();
        Check.arithmetic("first", () -> x.slope(0, 0, 0, 0));
        Check.arithmetic("last", () -> x.slope(2, 1, 8191, 1));
        Check.arithmetic("twenty open", () -> Nets.twentyOpen().slope(3, 3, Nets.ALL_NAMES, 0));
    }

    private static void slopeAskedBehind() {
        NetworkOrders x = Nets.thirteenOpen();
        Check.noSuch("no such tensor", () -> x.slope(3, 0, 0, 0));
        Check.noSuch("no such index", () -> x.slope(0, 64, 0, 0));
        Check.noSuch("no such part", () -> x.slope(0, 0, 0, 2));
        Check.noSuch("open -1", () -> x.slope(0, 0, -1, 0));
        Check.noSuch("open 2^13", () -> x.slope(0, 0, 8192, 0));
        x.leg(0, 0, NONE);
        Check.noSuch("not ready", () -> x.slope(0, 0, 0, 0));
    }

    private static void slopeChangesNothing() {
        NetworkOrders x = Nets.network(Nets.t(3), Nets.t(3));
        Nets.putAll(x, 0, 1, 2);
        Nets.putAll(x, 1, 3, 4);
        Check.due("before", x.value(0, 0), 11);
        Check.due("slope", x.slope(0, 0, 0, 0), 3);
        Check.noSuch("refused", () -> x.slope(0, 2, 0, 0));
        Check.due("behind", x.value(0, 0), 11);
        Check.due("slope of the other", x.slope(1, 0, 0, 0), 1);
    }
}
