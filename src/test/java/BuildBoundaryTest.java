/** The boundary cases of promises 1 to 6 and 15, and of the terms they use: one test for each sentence. */
public final class BuildBoundaryTest {
    private static final int NONE = -1;
    private static final int[] FAR = {Integer.MIN_VALUE, Integer.MIN_VALUE + 1, -33, -32, -31, 31, 32, 33, 64, 100,
        1 << 20, 1 << 30, Integer.MAX_VALUE - 1, Integer.MAX_VALUE};

    public static void main(String[] args) {
        terms();
        newAndTensor();
        leg();
        put();
        clearAndOpen();
        total();
        Check.end();
    }

    private static void terms() {
        Check.sentence("at most 512 calls after it has been made", BuildBoundaryTest::the512thCall);
        Check.sentence("TENSORS 0, 1, .. (10 at most)", BuildBoundaryTest::tenTensorsAreOfUse);
        Check.sentence("with 0 to 6 PLACES", BuildBoundaryTest::placesFromNoneToSix);
        Check.sentence("a NAME 0 .. 19", BuildBoundaryTest::namesFrom0To19);
        Check.sentence("a NAME is at most twice in all PLACES", BuildBoundaryTest::aNameTwice);
        Check.sentence("bit i is the value of PLACE i", BuildBoundaryTest::bitsOfAnIndex);
        Check.sentence("each -9 .. 9", BuildBoundaryTest::partsFromMinus9To9);
        Check.sentence("at first 0", BuildBoundaryTest::entriesAreFirst0);
        Check.sentence("READY is a network with a TENSOR at least", BuildBoundaryTest::readyNeedsATensor);
        Check.sentence("all of whose PLACES have LEGS", BuildBoundaryTest::readyNeedsAllLegs);
        Check.sentence("A LEG that is there once is OPEN, one that is there twice SHARED",
                BuildBoundaryTest::onceOpenTwiceShared);
        Check.sentence("(by two TENSORS, or by one)", BuildBoundaryTest::sharedByOneTensor);
    }

    private static void newAndTensor() {
        Check.sentence("P1: No TENSORS.", BuildBoundaryTest::newObject);
        Check.sentence("P2: its number", BuildBoundaryTest::numbersGoOn);
        Check.sentence("P2: NONE if that is not 0 .. 6, too few", BuildBoundaryTest::tooFewPlaces);
        Check.sentence("P2: NONE if that is not 0 .. 6, too many", BuildBoundaryTest::tooManyPlaces);
        Check.sentence("P2: or there are 10", BuildBoundaryTest::theEleventhTensor);
    }

    private static void leg() {
        Check.sentence("P3: from now on", BuildBoundaryTest::aLegIsReplaced);
        Check.sentence("P3: NAME NONE: none", BuildBoundaryTest::aLegIsTakenAway);
        Check.sentence("P3: no such TENSOR", BuildBoundaryTest::legOfNoTensor);
        Check.sentence("P3: no such PLACE", BuildBoundaryTest::legOfNoPlace);
        Check.sentence("P3: no such NAME", BuildBoundaryTest::legOfNoName);
        Check.sentence("P3: the NAME is at two other PLACES", BuildBoundaryTest::nameAtTwoOthers);
        Check.sentence("P3: two OTHER PLACES", BuildBoundaryTest::nameAtThisPlaceAlready);
        Check.sentence("P3: false, changing nothing", BuildBoundaryTest::refusedLegsChangeNothing);
    }

    private static void put() {
        Check.sentence("P4: An ENTRY: true", BuildBoundaryTest::anEntryIsReplaced);
        Check.sentence("P4: no such TENSOR", BuildBoundaryTest::entryOfNoTensor);
        Check.sentence("P4: no such INDEX", BuildBoundaryTest::entryOfNoIndex);
        Check.sentence("P4: a part beyond -9 .. 9, real", BuildBoundaryTest::realBeyond);
        Check.sentence("P4: a part beyond -9 .. 9, imaginary", BuildBoundaryTest::imaginaryBeyond);
        Check.sentence("P4: false, changing nothing", BuildBoundaryTest::refusedEntriesChangeNothing);
    }

    private static void clearAndOpen() {
        Check.sentence("P5: All TENSORS are gone, empty", BuildBoundaryTest::clearOfNothing);
        Check.sentence("P5: All TENSORS are gone, full", BuildBoundaryTest::clearOfAFullOne);
        Check.sentence("P5: All TENSORS are gone, their PLACES too", BuildBoundaryTest::clearForgetsBarePlaces);
        Check.sentence("P5: All TENSORS are gone, their LEGS too", BuildBoundaryTest::clearFreesNames);
        Check.sentence("P5: All TENSORS are gone, their ENTRIES too", BuildBoundaryTest::clearForgetsEntries);
        Check.sentence("P5: All TENSORS are gone, their ORDER too", BuildBoundaryTest::clearForgetsOrders);
        Check.sentence("P6: The set of OPEN LEGS, none", BuildBoundaryTest::noneOpen);
        Check.sentence("P6: The set of OPEN LEGS, all", BuildBoundaryTest::allOpen);
        Check.sentence("P6: NAME i is 2^i", BuildBoundaryTest::eachNameIsABit);
        Check.sentence("P6: NONE if it is not READY", BuildBoundaryTest::openOfWhatIsNotReady);
    }

    private static void total() {
        Check.sentence("P15: 0: TENSORS", BuildBoundaryTest::totalOfTensors);
        Check.sentence("P15: 1: PLACES of all", BuildBoundaryTest::totalOfPlaces);
        Check.sentence("P15: 2: those without a LEG", BuildBoundaryTest::totalOfBarePlaces);
        Check.sentence("P15: 3: SHARED LEGS, as a set", BuildBoundaryTest::totalOfSharedLegs);
        Check.sentence("P15: (0 if it is not READY)", BuildBoundaryTest::totalOfSharedLegsNotReady);
        Check.sentence("P15: NONE for another what", BuildBoundaryTest::totalOfNothing);
    }

    // ---- terms

    /** Thirty-two rounds of sixteen calls: each answer is due, the very last one too. */
    private static void the512thCall() {
        NetworkOrders x = new NetworkOrders();
        for (int round = 0; round < 32; round++) {
            int r = round % 10;
            x.clear();
            Check.due("first", x.tensor(1), 0);
            Check.due("second", x.tensor(1), 1);
            Check.due("leg of the first", x.leg(0, 0, 19), true);
            Check.due("leg of the second", x.leg(1, 0, 19), true);
            Check.due("put to the first", x.put(0, 1, 9, 0), true);
            Check.due("put to the second", x.put(1, 1, r, -r), true);
            Check.due("open", x.open(), 0);
            Check.due("cost", x.cost(), 2);
            Check.due("peak", x.peak(), 1);
            Check.due("step", x.step(0, 1), 2);
            Check.due("greedy", x.greedy(NONE), 2);
            Check.due("cut", x.cut(0), 1 << 19);
            Check.due("costOf", x.costOf(1 << 19), 2);
            Check.due("slope", x.slope(0, 1, 0, 1), -r);
            Check.due("value", x.value(0, 0), 9 * r);
        }
    }

    private static void tenTensorsAreOfUse() {
        NetworkOrders x = new NetworkOrders();
        for (int i = 0; i < 10; i++) {
            Check.due("number", x.tensor(1), i);
            Check.due("leg", x.leg(i, 0, i), true);
            Check.due("put", x.put(i, 1, i == 0 ? 1 : i, 0), true);
        }
        Check.due("all open", x.open(), 1023);
        Check.due("the product of all", x.value(1023, 0), 362880);
        Check.due("no tensor 10", x.leg(10, 0, 10), false);
    }

    private static void placesFromNoneToSix() {
        for (int places = 0; places <= 6; places++) {
            NetworkOrders x = new NetworkOrders();
            Check.due("number", x.tensor(places), 0);
            Check.due("so many places", x.total(1), places);
            for (int place = 0; place < places; place++) {
                Check.due("has this place", x.leg(0, place, place), true);
            }
            Check.due("has no more", x.leg(0, places, 19), false);
            Check.due("ready", x.open(), (1 << places) - 1);
        }
    }

    private static void namesFrom0To19() {
        for (int name = 0; name <= 19; name++) {
            NetworkOrders x = new NetworkOrders();
            x.tensor(1);
            Check.due("is a name", x.leg(0, 0, name), true);
            Check.due("is there", x.open(), 1 << name);
        }
        NetworkOrders y = new NetworkOrders();
        y.tensor(1);
        Check.due("20 is none", y.leg(0, 0, 20), false);
        Check.due("-2 is none", y.leg(0, 0, -2), false);
    }

    private static void aNameTwice() {
        NetworkOrders x = new NetworkOrders();
        x.tensor(6);
        x.tensor(6);
        for (int name = 0; name <= 19; name += 19) {
            Check.due("once", x.leg(0, 0, name), true);
            Check.due("twice", x.leg(1, 5, name), true);
            for (int place = 1; place < 5; place++) {
                Check.due("no third time, first tensor", x.leg(0, place, name), false);
                Check.due("no third time, second tensor", x.leg(1, place, name), false);
            }
        }
    }

    private static void bitsOfAnIndex() {
        for (int place = 0; place < 6; place++) {
            NetworkOrders x = Nets.network(Nets.t(0, 1, 2, 3, 4, 5));
            Check.due("put", x.put(0, 1 << place, 7, 0), true);
            for (int other = 0; other < 6; other++) {
                Check.due("value at one bit", x.value(1 << other, 0), other == place ? 7 : 0);
            }
        }
    }

    private static void partsFromMinus9To9() {
        NetworkOrders x = Nets.network(Nets.t());
        for (int part = -9; part <= 9; part++) {
            Check.due("put", x.put(0, 0, part, -part), true);
            Check.due("real", x.value(0, 0), part);
            Check.due("imaginary", x.value(0, 1), -part);
        }
    }

    private static void entriesAreFirst0() {
        NetworkOrders x = Nets.network(Nets.t(0, 1, 2, 3, 4, 5));
        for (int index = 0; index < 64; index++) {
            Check.due("real", x.value(index, 0), 0);
            Check.due("imaginary", x.value(index, 1), 0);
        }
    }

    private static void readyNeedsATensor() {
        NetworkOrders x = new NetworkOrders();
        Nets.dueNotReady("none", x);
        x.tensor(0);
        Check.due("one without places is ready, open", x.open(), 0);
        Check.due("cost", x.cost(), 0);
        Check.due("peak", x.peak(), 0);
        Check.due("step", x.step(0, 0), NONE);
        Check.due("greedy", x.greedy(NONE), 0);
        Check.due("cut", x.cut(0), 0);
        Check.due("costOf", x.costOf(0), 0);
        Check.due("value", x.value(0, 0), 0);
        Check.due("slope", x.slope(0, 0, 0, 0), 1);
    }

    private static void readyNeedsAllLegs() {
        NetworkOrders x = new NetworkOrders();
        x.tensor(0);
        x.tensor(2);
        Nets.dueNotReady("two bare", x);
        x.leg(1, 1, 4);
        Nets.dueNotReady("one bare", x);
        x.leg(1, 0, 3);
        Check.due("none bare", x.open(), 1 << 3 | 1 << 4);
        x.tensor(1);
        Nets.dueNotReady("a new bare one", x);
        x.leg(2, 0, 3);
        Check.due("none bare again", x.open(), 1 << 4);
        x.leg(0, 0, 5);
        Check.due("still ready", x.cost(), 4 + 2);
    }

    private static void onceOpenTwiceShared() {
        NetworkOrders x = Nets.network(Nets.t(8), Nets.t(9));
        Check.due("once, open", x.open(), 1 << 8 | 1 << 9);
        Check.due("once, shared", x.total(3), 0);
        x.leg(1, 0, 8);
        Check.due("twice, open", x.open(), 0);
        Check.due("twice, shared", x.total(3), 1 << 8);
        x.leg(0, 0, 9);
        Check.due("once again, open", x.open(), 1 << 8 | 1 << 9);
        Check.due("once again, shared", x.total(3), 0);
    }

    private static void sharedByOneTensor() {
        NetworkOrders x = Nets.network(Nets.t(8, 1, 8));
        Check.due("open", x.open(), 1 << 1);
        Check.due("shared", x.total(3), 1 << 8);
        Check.due("may be cut", x.costOf(1 << 8), 0);
    }

    // ---- promises 1 and 2

    private static void newObject() {
        NetworkOrders x = new NetworkOrders();
        Check.due("tensors", x.total(0), 0);
        Check.due("places", x.total(1), 0);
        Check.due("bare places", x.total(2), 0);
        Nets.dueNotReady("new", x);
        Check.due("no tensor 0 with a leg", x.leg(0, 0, 0), false);
        Check.due("no tensor 0 with an entry", x.put(0, 0, 1, 1), false);
        Nets.fullRing();
        Check.due("of its own", new NetworkOrders().total(0), 0);
    }

    private static void numbersGoOn() {
        NetworkOrders x = new NetworkOrders();
        Check.due("first", x.tensor(6), 0);
        Check.due("refused", x.tensor(7), NONE);
        Check.due("second, behind a refused one", x.tensor(0), 1);
        x.clear();
        Check.due("first again", x.tensor(3), 0);
    }

    private static void tooFewPlaces() {
        NetworkOrders x = Nets.network(Nets.t(5));
        Check.due("-1", x.tensor(-1), NONE);
        for (int far : FAR) {
            if (far < 0) {
                Check.due("far below", x.tensor(far), NONE);
            }
        }
        dueUnchanged(x);
    }

    private static void tooManyPlaces() {
        NetworkOrders x = Nets.network(Nets.t(5));
        Check.due("7", x.tensor(7), NONE);
        for (int far : FAR) {
            if (far > 0) {
                Check.due("far above", x.tensor(far), NONE);
            }
        }
        dueUnchanged(x);
    }

    private static void dueUnchanged(NetworkOrders x) {
        Check.due("no more tensors", x.total(0), 1);
        Check.due("no more places", x.total(1), 1);
        Check.due("none bare", x.total(2), 0);
        Check.due("ready as before", x.open(), 1 << 5);
    }

    private static void theEleventhTensor() {
        NetworkOrders x = Nets.fullRing();
        for (int places = -1; places <= 7; places++) {
            Check.due("the eleventh", x.tensor(places), NONE);
        }
        Check.due("ten as before", x.total(0), 10);
        Check.due("places as before", x.total(1), 40);
        Check.due("ready as before", x.cost(), 528);
        x.clear();
        Check.due("room again", x.tensor(6), 0);
    }

    // ---- promise 3

    private static void aLegIsReplaced() {
        NetworkOrders x = Nets.network(Nets.t(4, 6));
        Nets.putAll(x, 0, 1, 2, 3, 4);
        Check.due("another name", x.leg(0, 0, 19), true);
        Check.due("open", x.open(), 1 << 6 | 1 << 19);
        Check.due("entries stay with the places", x.value(1, 0), 3);
        Check.due("the old name is free", x.leg(0, 1, 4), true);
        Check.due("the first open leg is another one", x.value(2, 0), 2);
    }

    private static void aLegIsTakenAway() {
        NetworkOrders x = Nets.network(Nets.t(4, 6), Nets.t(6));
        Check.due("taken away", x.leg(0, 1, NONE), true);
        Check.due("a bare place", x.total(2), 1);
        Nets.dueNotReady("bare", x);
        Check.due("taken away once more", x.leg(0, 1, NONE), true);
        Check.due("one bare place still", x.total(2), 1);
        Check.due("given again", x.leg(0, 1, 6), true);
        Check.due("shared again", x.total(3), 1 << 6);
    }

    private static void legOfNoTensor() {
        NetworkOrders x = Nets.network(Nets.t(4), Nets.t(6));
        Check.due("-1", x.leg(-1, 0, 7), false);
        Check.due("2", x.leg(2, 0, 7), false);
        Check.due("2, NONE", x.leg(2, 0, NONE), false);
        Check.due("9", x.leg(9, 0, 7), false);
        Check.due("10", x.leg(10, 0, 7), false);
        for (int far : FAR) {
            Check.due("far", x.leg(far, 0, 7), false);
        }
        Check.due("nothing changed", x.open(), 1 << 4 | 1 << 6);
        x.clear();
        Check.due("gone", x.leg(0, 0, 7), false);
    }

    private static void legOfNoPlace() {
        NetworkOrders x = Nets.network(Nets.t(4, 5), Nets.t(0, 1, 2, 3, 6, 7), Nets.t());
        Check.due("-1", x.leg(0, -1, 9), false);
        Check.due("2 of two", x.leg(0, 2, 9), false);
        Check.due("2 of two, NONE", x.leg(0, 2, NONE), false);
        Check.due("6 of six", x.leg(1, 6, 9), false);
        Check.due("0 of none", x.leg(2, 0, 9), false);
        for (int far : FAR) {
            Check.due("far", x.leg(0, far, 9), false);
            Check.due("far of six", x.leg(1, far, 9), false);
        }
        Check.due("nothing changed", x.open(), 255);
        x.clear();
        x.tensor(1);
        Check.due("a place of a tensor that is gone", x.leg(0, 1, 9), false);
    }

    private static void legOfNoName() {
        NetworkOrders x = Nets.network(Nets.t(4));
        Check.due("-2", x.leg(0, 0, -2), false);
        Check.due("20", x.leg(0, 0, 20), false);
        Check.due("21", x.leg(0, 0, 21), false);
        for (int far : FAR) {
            Check.due("far", x.leg(0, 0, far), false);
        }
        Check.due("nothing changed", x.open(), 1 << 4);
    }

    private static void nameAtTwoOthers() {
        NetworkOrders x = Nets.network(Nets.t(4, 4), Nets.t(5), Nets.t(5), Nets.t(6, 7));
        Check.due("two of one tensor", x.leg(3, 0, 4), false);
        Check.due("two of two tensors", x.leg(3, 0, 5), false);
        Check.due("both in the very tensor", x.leg(0, 0, 5), false);
        Check.due("one other only", x.leg(3, 0, 7), true);
        Check.due("now at two", x.leg(1, 0, 7), false);
        NetworkOrders full = Nets.fullRing();
        full.leg(0, 0, NONE);
        for (int name = 1; name < 20; name++) {
            Check.due("all others are full", full.leg(0, 0, name), false);
        }
        Check.due("the one that became free", full.leg(0, 0, 0), true);
    }

    private static void nameAtThisPlaceAlready() {
        NetworkOrders x = Nets.network(Nets.t(4, 4), Nets.t(5), Nets.t(5));
        Check.due("a loop, first place", x.leg(0, 0, 4), true);
        Check.due("a loop, second place", x.leg(0, 1, 4), true);
        Check.due("between two, first", x.leg(1, 0, 5), true);
        Check.due("between two, second", x.leg(2, 0, 5), true);
        Check.due("counted once each", x.total(3), 1 << 4 | 1 << 5);
        Check.due("taken away", x.leg(1, 0, NONE), true);
        Check.due("at one other", x.leg(1, 0, 5), true);
        Check.due("nothing bare", x.total(2), 0);
    }

    private static void refusedLegsChangeNothing() {
        NetworkOrders x = Nets.network(Nets.t(4, 4), Nets.t(5, 6), Nets.t(5));
        int[][] refused = {{0, 0, 5}, {1, 1, 4}, {1, 1, 20}, {1, 1, -2}, {1, 2, 9}, {1, -1, 9}, {3, 0, 9}, {-1, 0, 9}};
        for (int[] call : refused) {
            Check.due("refused", x.leg(call[0], call[1], call[2]), false);
            Check.due("open stay", x.open(), 1 << 6);
            Check.due("shared stay", x.total(3), 1 << 4 | 1 << 5);
            Check.due("bare stay", x.total(2), 0);
            Check.due("cost stays", x.cost(), 4 + 2);
        }
    }

    // ---- promise 4

    private static void anEntryIsReplaced() {
        NetworkOrders x = new NetworkOrders();
        x.tensor(1);
        Check.due("before there is a leg", x.put(0, 1, 3, 4), true);
        x.leg(0, 0, 2);
        Check.due("real", x.value(1, 0), 3);
        Check.due("imaginary", x.value(1, 1), 4);
        Check.due("put again", x.put(0, 1, -9, 0), true);
        Check.due("replaced, real", x.value(1, 0), -9);
        Check.due("replaced, imaginary", x.value(1, 1), 0);
        Check.due("back to 0", x.put(0, 1, 0, 0), true);
        Check.due("0", x.value(1, 0), 0);
    }

    private static void entryOfNoTensor() {
        NetworkOrders x = Nets.network(Nets.t(), Nets.t());
        Check.due("-1", x.put(-1, 0, 1, 1), false);
        Check.due("2", x.put(2, 0, 1, 1), false);
        Check.due("10", x.put(10, 0, 1, 1), false);
        for (int far : FAR) {
            Check.due("far", x.put(far, 0, 1, 1), false);
        }
        x.clear();
        Check.due("gone", x.put(0, 0, 1, 1), false);
    }

    private static void entryOfNoIndex() {
        for (int places = 0; places <= 6; places++) {
            NetworkOrders x = new NetworkOrders();
            x.tensor(places);
            Check.due("the last", x.put(0, (1 << places) - 1, 1, 1), true);
            Check.due("behind the last", x.put(0, 1 << places, 1, 1), false);
            Check.due("-1", x.put(0, -1, 1, 1), false);
            for (int far : FAR) {
                Check.due("far", x.put(0, far, 1, 1), far >= 0 && far < 1 << places);
            }
        }
    }

    private static void realBeyond() {
        NetworkOrders x = Nets.network(Nets.t());
        Check.due("9", x.put(0, 0, 9, 0), true);
        Check.due("10", x.put(0, 0, 10, 0), false);
        Check.due("-9", x.put(0, 0, -9, 0), true);
        Check.due("-10", x.put(0, 0, -10, 0), false);
        for (int far : FAR) {
            Check.due("far", x.put(0, 0, far, 0), false);
        }
        Check.due("the last that was right", x.value(0, 0), -9);
    }

    private static void imaginaryBeyond() {
        NetworkOrders x = Nets.network(Nets.t());
        Check.due("9", x.put(0, 0, 0, 9), true);
        Check.due("10", x.put(0, 0, 0, 10), false);
        Check.due("-9", x.put(0, 0, 0, -9), true);
        Check.due("-10", x.put(0, 0, 0, -10), false);
        for (int far : FAR) {
            Check.due("far", x.put(0, 0, 0, far), false);
        }
        Check.due("the last that was right", x.value(0, 1), -9);
    }

    private static void refusedEntriesChangeNothing() {
        NetworkOrders x = Nets.network(Nets.t(2));
        x.put(0, 0, 4, 5);
        x.put(0, 1, 6, 7);
        int[][] refused = {{0, 0, 1, 10}, {0, 0, 10, 1}, {0, 1, 1, -10}, {0, 1, -10, 1}, {0, 2, 1, 1}, {0, -1, 1, 1},
            {1, 0, 1, 1}, {-1, 0, 1, 1}};
        for (int[] call : refused) {
            Check.due("refused", x.put(call[0], call[1], call[2], call[3]), false);
            Check.due("real stays", x.value(0, 0), 4);
            Check.due("imaginary stays", x.value(0, 1), 5);
            Check.due("real at 1 stays", x.value(1, 0), 6);
            Check.due("imaginary at 1 stays", x.value(1, 1), 7);
        }
    }

    // ---- promises 5 and 6

    private static void clearOfNothing() {
        NetworkOrders x = new NetworkOrders();
        x.clear();
        Check.due("tensors", x.total(0), 0);
        Nets.dueNotReady("cleared", x);
        x.clear();
        Check.due("tensors, cleared twice", x.total(0), 0);
        Check.due("the first", x.tensor(0), 0);
    }

    private static void clearOfAFullOne() {
        NetworkOrders x = Nets.fullRing();
        x.clear();
        Check.due("tensors", x.total(0), 0);
        Check.due("places", x.total(1), 0);
        Check.due("bare places", x.total(2), 0);
        Nets.dueNotReady("cleared", x);
        for (int i = 0; i < 10; i++) {
            Check.due("ten again", x.tensor(0), i);
        }
        Check.due("no eleventh", x.tensor(0), NONE);
        Check.due("of the new ones", x.cost(), 9);
    }

    private static void clearForgetsBarePlaces() {
        NetworkOrders x = new NetworkOrders();
        x.tensor(6);
        x.tensor(1);
        x.leg(1, 0, 3);
        x.clear();
        Check.due("places", x.total(1), 0);
        Check.due("bare places", x.total(2), 0);
        x.tensor(0);
        Check.due("ready", x.open(), 0);
        x.tensor(2);
        Check.due("bare places of the new ones", x.total(2), 2);
    }

    private static void clearFreesNames() {
        NetworkOrders x = Nets.fullRing();
        x.clear();
        x.tensor(6);
        x.tensor(6);
        Check.due("all places are bare", x.total(2), 12);
        for (int place = 0; place < 6; place++) {
            Check.due("a name that was twice", x.leg(0, place, place + 14), true);
            Check.due("and again", x.leg(1, place, place + 14), true);
        }
        Check.due("shared", x.total(3), 63 << 14);
    }

    private static void clearForgetsEntries() {
        NetworkOrders x = Nets.network(Nets.t(0, 1, 2, 3, 4, 5));
        x.put(0, 0, 1, 2);
        x.put(0, 63, 3, 4);
        x.clear();
        x.tensor(6);
        for (int place = 0; place < 6; place++) {
            x.leg(0, place, place);
        }
        Check.due("real at 0", x.value(0, 0), 0);
        Check.due("imaginary at 0", x.value(0, 1), 0);
        Check.due("real at 63", x.value(63, 0), 0);
        Check.due("imaginary at 63", x.value(63, 1), 0);
    }

    private static void clearForgetsOrders() {
        NetworkOrders x = Nets.fourWithEachOther();
        Check.due("cost before", x.cost(), 72);
        Check.due("cut before", x.cut(3), 1);
        Check.due("cost of the cut before", x.costOf(1), 72);
        x.clear();
        x.tensor(1);
        x.tensor(1);
        x.leg(0, 0, 0);
        x.leg(1, 0, 0);
        Check.due("cost", x.cost(), 2);
        Check.due("peak", x.peak(), 1);
        Check.due("step", x.step(0, 1), 2);
        Check.due("no second step", x.step(1, 0), NONE);
        Check.due("no second turn", x.greedy(1), NONE);
        Check.due("cut", x.cut(0), 1);
        Check.due("cost of the cut", x.costOf(1), 2);
    }

    private static void noneOpen() {
        Check.due("no legs", Nets.network(Nets.t()).open(), 0);
        Check.due("a loop", Nets.network(Nets.t(3, 3)).open(), 0);
        Check.due("all shared", Nets.fullRing().open(), 0);
    }

    private static void allOpen() {
        Check.due("all twenty", Nets.twentyOpen().open(), Nets.ALL_NAMES);
    }

    private static void eachNameIsABit() {
        NetworkOrders x = Nets.network(Nets.t(19, 0), Nets.t(10));
        Check.due("0, 10 and 19", x.open(), 1 | 1 << 10 | 1 << 19);
        Check.due("0 shared", x.leg(1, 0, 0), true);
        Check.due("19 alone", x.open(), 1 << 19);
    }

    private static void openOfWhatIsNotReady() {
        NetworkOrders x = new NetworkOrders();
        Check.due("no tensors", x.open(), NONE);
        x.tensor(2);
        Check.due("no legs", x.open(), NONE);
        x.leg(0, 0, 0);
        Check.due("one leg of two", x.open(), NONE);
        x.leg(0, 1, 1);
        Check.due("ready", x.open(), 3);
        x.leg(0, 1, NONE);
        Check.due("not ready again", x.open(), NONE);
        x.clear();
        Check.due("cleared", x.open(), NONE);
    }

    // ---- promise 15

    private static void totalOfTensors() {
        NetworkOrders x = new NetworkOrders();
        for (int i = 0; i <= 10; i++) {
            Check.due("so many", x.total(0), i);
            x.tensor(i % 7);
        }
        Check.due("ten at most", x.total(0), 10);
    }

    private static void totalOfPlaces() {
        NetworkOrders x = new NetworkOrders();
        for (int i = 0; i <= 10; i++) {
            Check.due("six each", x.total(1), 6 * i);
            x.tensor(6);
        }
        Check.due("sixty at most", x.total(1), 60);
        x.leg(9, 5, 0);
        Check.due("with or without a leg", x.total(1), 60);
    }

    private static void totalOfBarePlaces() {
        NetworkOrders x = new NetworkOrders();
        for (int i = 0; i < 10; i++) {
            x.tensor(6);
        }
        Check.due("sixty", x.total(2), 60);
        for (int i = 0; i < 40; i++) {
            Check.due("all names twice", x.leg(i / 6, i % 6, i / 2), true);
            Check.due("one less", x.total(2), 59 - i);
        }
        Check.due("no name is left", x.leg(9, 5, 0), false);
        Check.due("twenty stay bare", x.total(2), 20);
        x.leg(0, 0, NONE);
        Check.due("one more", x.total(2), 21);
        x.leg(0, 0, 0);
        Check.due("one less again", x.total(2), 20);
    }

    private static void totalOfSharedLegs() {
        Check.due("none", Nets.network(Nets.t(3)).total(3), 0);
        Check.due("all", Nets.fullRing().total(3), Nets.ALL_NAMES);
        Check.due("0 and 19", Nets.network(Nets.t(0, 19, 4), Nets.t(19, 0, 5)).total(3), 1 | 1 << 19);
        Check.due("no legs", Nets.network(Nets.t()).total(3), 0);
    }

    private static void totalOfSharedLegsNotReady() {
        Check.due("no tensors", new NetworkOrders().total(3), 0);
        NetworkOrders x = Nets.network(Nets.t(0, 1), Nets.t(1, 0));
        Check.due("ready", x.total(3), 3);
        x.tensor(1);
        Check.due("a bare place", x.total(3), 0);
        x.leg(2, 0, 2);
        Check.due("ready again", x.total(3), 3);
    }

    private static void totalOfNothing() {
        NetworkOrders x = Nets.fullRing();
        Check.due("-1", x.total(-1), NONE);
        Check.due("4", x.total(4), NONE);
        for (int far : FAR) {
            Check.due("far", x.total(far), NONE);
        }
        Check.due("-1, no tensors", new NetworkOrders().total(-1), NONE);
        Check.due("4, no tensors", new NetworkOrders().total(4), NONE);
    }
}
