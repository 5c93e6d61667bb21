/** The boundary cases of promises 13 and 14, and of the terms they use: one test for each sentence. */
public final class CutBoundaryTest {
    private static final int NONE = -1;

    public static void main(String[] args) {
        cut();
        cutRefused();
        costOf();
        costOfRefused();
        Check.end();
    }

    private static void cut() {
        Check.sentence("P13: 0 to 2 of them: none", CutBoundaryTest::noneIsCut);
        Check.sentence("P13: 0 to 2 of them: one", CutBoundaryTest::oneIsCut);
        Check.sentence("P13: 0 to 2 of them: two", CutBoundaryTest::twoAreCut);
        Check.sentence("P13: 0 to 2 of them: not three", CutBoundaryTest::threeAreNotCut);
        Check.sentence("P13: the fewest", CutBoundaryTest::fewestBeforeLeast);
        Check.sentence("P13: of several the least set, of one", CutBoundaryTest::leastSetOfOne);
        Check.sentence("P13: of several the least set, of two", CutBoundaryTest::leastSetOfTwo);
        Check.sentence("P13: SHARED LEGS, not OPEN ones", CutBoundaryTest::openLegsAreNotCut);
        Check.sentence("P13: SHARED LEGS, by one TENSOR", CutBoundaryTest::loopsHelpNobody);
        Check.sentence("P13: THE ORDER of what is left", CutBoundaryTest::anotherOrderBehindTheCut);
        Check.sentence("P13: is not above most", CutBoundaryTest::justMost);
        Check.sentence("P13: as the network is now", CutBoundaryTest::cutBehindAChange);
        Check.sentence("P13: changes nothing", CutBoundaryTest::cutChangesNothing);
    }

    private static void cutRefused() {
        Check.sentence("P13: NONE if it is not READY", CutBoundaryTest::cutNotReady);
        Check.sentence("P13: most is below 0", CutBoundaryTest::mostBelow0);
        Check.sentence("P13: most 0", CutBoundaryTest::most0);
        Check.sentence("P13: there is none such", CutBoundaryTest::noSuchCut);
    }

    private static void costOf() {
        Check.sentence("P14: 2^(how many) times, none", CutBoundaryTest::costOfNoCut);
        Check.sentence("P14: 2^(how many) times, one to all", CutBoundaryTest::costOfEachMore);
        Check.sentence("P14: 2^(how many) times, all twenty", CutBoundaryTest::costOfTwenty);
        Check.sentence("P14: THE COST of what is left", CutBoundaryTest::costOfAnotherOrder);
        Check.sentence("P14: as if these had not these PLACES", CutBoundaryTest::costAsIfWithoutPlaces);
        Check.sentence("P14: a LEG that is twice in one TENSOR", CutBoundaryTest::costOfALoop);
        Check.sentence("P14: one TENSOR", CutBoundaryTest::costOfOneTensor);
        Check.sentence("P14: changes nothing", CutBoundaryTest::costOfChangesNothing);
    }

    private static void costOfRefused() {
        Check.sentence("P14: NONE if it is not READY", CutBoundaryTest::costOfNotReady);
        Check.sentence("P14: one is not SHARED, OPEN", CutBoundaryTest::costOfOpenLegs);
        Check.sentence("P14: one is not SHARED, not there", CutBoundaryTest::costOfAbsentNames);
        Check.sentence("P14: one is not SHARED, no NAME", CutBoundaryTest::costOfNoNames);
    }

    // ---- promise 13

    private static NetworkOrders threeBetweenTwo() {
        return Nets.network(Nets.t(2, 5, 6), Nets.t(5, 2, 6));
    }

    private static void noneIsCut() {
        NetworkOrders x = threeBetweenTwo();
        Check.due("most is the peak", x.cut(3), 0);
        Check.due("most is above the peak", x.cut(4), 0);
        Check.due("most is far above", x.cut(Integer.MAX_VALUE), 0);
        Check.due("twenty open", Nets.twentyOpen().cut(20), 0);
    }

    private static void oneIsCut() {
        Check.due("one", threeBetweenTwo().cut(2), 1 << 2);
        Check.due("the last name", Nets.network(Nets.t(19), Nets.t(19)).cut(0), 1 << 19);
        Check.due("the first name", Nets.network(Nets.t(0), Nets.t(0)).cut(0), 1);
    }

    private static void twoAreCut() {
        Check.due("two", threeBetweenTwo().cut(1), 1 << 2 | 1 << 5);
        Check.due("first and last", Nets.network(Nets.t(0, 19), Nets.t(19, 0)).cut(0), 1 | 1 << 19);
        Check.due("the last two", Nets.network(Nets.t(18, 19), Nets.t(19, 18)).cut(0), 3 << 18);
        Check.due("the first two", Nets.network(Nets.t(0, 1), Nets.t(1, 0)).cut(0), 3);
    }

    private static void threeAreNotCut() {
        Check.due("three would do", threeBetweenTwo().cut(0), NONE);
        Check.due("three pairs", Nets.network(Nets.t(0), Nets.t(1), Nets.t(2), Nets.t(0), Nets.t(1), Nets.t(2)).cut(0),
                NONE);
        Check.due("two pairs", Nets.network(Nets.t(0), Nets.t(1), Nets.t(0), Nets.t(1)).cut(0), 3);
    }

    /** Both great ones have name 18, the set of 0 and 3 (that is 9) would do as well. */
    private static void fewestBeforeLeast() {
        NetworkOrders x = Nets.network(Nets.t(0, 1, 2, 18), Nets.t(0), Nets.t(1), Nets.t(2),
                Nets.t(18, 3, 4, 5), Nets.t(3), Nets.t(4), Nets.t(5));
        Check.due("none, if none is needed", x.cut(4), 0);
        Check.due("one, though two are less", x.cut(3), 1 << 18);
        x.leg(0, 3, 17);
        Check.due("two, if one is not enough", x.cut(3), 1 | 1 << 3);
    }

    private static void leastSetOfOne() {
        Check.due("not by places", Nets.network(Nets.t(9, 2), Nets.t(9, 2)).cut(1), 1 << 2);
        Check.due("of four with each other", Nets.fourWithEachOther().cut(3), 1);
    }

    /** What is the least set is told by its greater name: {1, 2} is 6 and {0, 4} is 17. */
    private static void leastSetOfTwo() {
        Check.due("a ring of four", Nets.network(Nets.t(0, 1), Nets.t(0, 2), Nets.t(1, 4), Nets.t(2, 4)).cut(1), 6);
        Check.due("of four with each other", Nets.fourWithEachOther().cut(2), 1 << 2 | 1 << 3);
        Check.due("a triangle", Nets.network(Nets.t(7, 6), Nets.t(7, 3), Nets.t(6, 3)).cut(1), 1 << 3 | 1 << 6);
        Check.due("any two", Nets.network(Nets.t(3, 2, 1, 0), Nets.t(0, 1), Nets.t(2, 3)).cut(2), 3);
    }

    private static void openLegsAreNotCut() {
        Check.due("the shared one", Nets.network(Nets.t(0, 7), Nets.t(7)).cut(1), 1 << 7);
        Check.due("the open one stays", Nets.network(Nets.t(0, 7), Nets.t(7)).cut(0), NONE);
        Check.due("open ones alone", Nets.network(Nets.t(0, 1)).cut(1), NONE);
        Check.due("both open ones stay", Nets.network(Nets.t(0, 5), Nets.t(5, 1)).cut(1), NONE);
    }

    private static void loopsHelpNobody() {
        NetworkOrders x = Nets.network(Nets.t(0, 0, 4, 9), Nets.t(4, 9, 1, 1));
        Check.due("loops are no legs", x.cut(2), 0);
        Check.due("one, not a loop", x.cut(1), 1 << 4);
        Check.due("two, no loops", x.cut(0), 1 << 4 | 1 << 9);
        Check.due("loops alone", Nets.network(Nets.t(1, 1, 3, 3)).cut(0), 0);
    }

    /** The order before it, less leg 0, would still make a set of four legs. */
    private static void anotherOrderBehindTheCut() {
        NetworkOrders x = Nets.fourWithEachOther();
        Check.due("step 0 before", x.step(0, 0), 4);
        Check.due("peak before", x.peak(), 4);
        Check.due("the order behind the cut", x.cut(3), 1);
        NetworkOrders left = Nets.network(Nets.t(1, 2), Nets.t(3, 4), Nets.t(1, 3, 5), Nets.t(2, 4, 5));
        Check.due("peak of what is left", left.peak(), 3);
    }

    private static void justMost() {
        NetworkOrders x = Nets.network(Nets.t(0, 1, 2, 3, 4, 5), Nets.t(0, 1, 2, 3, 4, 5));
        Check.due("6", x.cut(6), 0);
        Check.due("5", x.cut(5), 1);
        Check.due("4", x.cut(4), 3);
        Check.due("3", x.cut(3), NONE);
        NetworkOrders all = Nets.network(Nets.t(0, 1, 9), Nets.t(2, 3, 9));
        Check.due("of all together, 4", all.cut(4), 0);
        Check.due("of all together, 3", all.cut(3), NONE);
    }

    private static void cutBehindAChange() {
        NetworkOrders x = threeBetweenTwo();
        Check.due("before", x.cut(2), 1 << 2);
        x.leg(0, 0, 19);
        x.leg(1, 1, 19);
        Check.due("another name", x.cut(2), 1 << 5);
        x.leg(1, 2, NONE);
        Check.due("a bare place", x.cut(2), NONE);
        x.leg(1, 2, 4);
        Check.due("two open ones", x.cut(2), 1 << 5);
        Check.due("two open ones, 1", x.cut(1), NONE);
        x.clear();
        x.tensor(1);
        x.leg(0, 0, 5);
        Check.due("cleared", x.cut(0), NONE);
        x.tensor(1);
        x.leg(1, 0, 5);
        Check.due("shared", x.cut(0), 1 << 5);
        Check.due("no cut is needed", x.cut(1), 0);
        x.leg(1, 0, 6);
        Check.due("no cut helps", x.cut(1), NONE);
        NetworkOrders y = Nets.network(Nets.t(2, 5), Nets.t(2, 5));
        Check.due("one helps", y.cut(1), 1 << 2);
        y.leg(1, 1, 7);
        Check.due("it does not help any more", y.cut(1), NONE);
    }

    private static void cutChangesNothing() {
        NetworkOrders x = Nets.fourWithEachOther();
        Nets.putAll(x, 0, 1, 1, 1, 1, 1, 1, 1, 1);
        for (int most = -1; most <= 4; most++) {
            x.cut(most);
            Check.due("cost", x.cost(), 72);
            Check.due("peak", x.peak(), 4);
            Check.due("step", x.step(2, 1), 14);
            Check.due("greedy", x.greedy(0), 0);
            Check.due("shared", x.total(3), 63);
            Check.due("places", x.total(1), 12);
            Check.due("cost of a cut", x.costOf(33), 80);
        }
    }

    private static void cutNotReady() {
        NetworkOrders x = new NetworkOrders();
        Check.due("no tensors", x.cut(0), NONE);
        Check.due("no tensors, far", x.cut(Integer.MAX_VALUE), NONE);
        x.tensor(1);
        Check.due("a bare place", x.cut(6), NONE);
        x.leg(0, 0, 0);
        Check.due("ready", x.cut(6), 0);
        x.clear();
        Check.due("cleared", x.cut(6), NONE);
    }

    private static void mostBelow0() {
        NetworkOrders x = Nets.network(Nets.t());
        Check.due("-1", x.cut(-1), NONE);
        Check.due("-2", x.cut(-2), NONE);
        Check.due("far below", x.cut(Integer.MIN_VALUE), NONE);
        Check.due("-1 of a ring", Nets.fullRing().cut(-1), NONE);
    }

    private static void most0() {
        Check.due("no legs", Nets.network(Nets.t(), Nets.t()).cut(0), 0);
        Check.due("one shared", Nets.network(Nets.t(8), Nets.t(8)).cut(0), 1 << 8);
        Check.due("one open", Nets.network(Nets.t(8)).cut(0), NONE);
    }

    private static void noSuchCut() {
        NetworkOrders x = Nets.fullRing();
        Check.due("ten of four legs, 4", x.cut(4), 0);
        Check.due("ten of four legs, 3", x.cut(3), NONE);
        Check.due("ten of four legs, 0", x.cut(0), NONE);
        Check.due("one tensor", Nets.network(Nets.t(0, 1, 2, 3, 4, 5)).cut(5), NONE);
        Check.due("twenty open", Nets.twentyOpen().cut(19), NONE);
        Check.due("four with each other", Nets.fourWithEachOther().cut(1), NONE);
    }

    // ---- promise 14

    private static void costOfNoCut() {
        Check.due("one tensor", Nets.network(Nets.t(1, 2)).costOf(0), 0);
        Check.due("two without legs", Nets.network(Nets.t(), Nets.t()).costOf(0), 1);
        Check.due("a ring", Nets.fullRing().costOf(0), 528);
        Check.due("twenty open", Nets.twentyOpen().costOf(0), 256 + 4096 + (1 << 20));
    }

    /** Two with the same six legs: what is saved by each cut is paid for by it. */
    private static void costOfEachMore() {
        NetworkOrders x = Nets.network(Nets.t(0, 1, 2, 3, 4, 5), Nets.t(0, 1, 2, 3, 4, 5), Nets.t());
        for (int cut = 0; cut < 64; cut++) {
            Check.due("two, and one without legs", x.costOf(cut), 64 + (1 << Integer.bitCount(cut)));
        }
    }

    private static void costOfTwenty() {
        NetworkOrders x = Nets.fullRing();
        Check.due("all twenty", x.costOf(Nets.ALL_NAMES), 9 << 20);
        Check.due("one bond of two legs", x.costOf(3), 4 * (8 * 16 + 4));
        Check.due("the last bond", x.costOf(3 << 18), 4 * (8 * 16 + 4));
    }

    private static void costOfAnotherOrder() {
        NetworkOrders x = Nets.fourWithEachOther();
        Check.due("one of four with each other", x.costOf(1), 2 * (16 + 16 + 4));
        Check.due("a ring is left", x.costOf(1 | 1 << 5), 4 * (8 + 8 + 4));
        Check.due("a ring is left", x.costOf(1 << 2 | 1 << 3), 4 * (8 + 8 + 4));
        Check.due("a triangle is left", x.costOf(7), 8 * (8 + 4 + 1));
    }

    private static void costAsIfWithoutPlaces() {
        NetworkOrders x = Nets.network(Nets.t(0, 1), Nets.t(1, 2), Nets.t(2, 0, 19));
        Check.due("all shared ones", x.costOf(7), 8 * Nets.network(Nets.t(), Nets.t(), Nets.t(19)).cost());
        Check.due("one", x.costOf(1), 2 * Nets.network(Nets.t(1), Nets.t(1, 2), Nets.t(2, 19)).cost());
        Check.due("all shared ones, the cost", x.costOf(7), 8 * (1 + 2));
        Check.due("one, the cost", x.costOf(1), 2 * (4 + 4));
    }

    private static void costOfALoop() {
        NetworkOrders x = Nets.network(Nets.t(6, 6, 1), Nets.t(1, 2));
        Check.due("nothing", x.costOf(0), 4);
        Check.due("the loop", x.costOf(1 << 6), 2 * 4);
        Check.due("the loop and the other one", x.costOf(1 << 6 | 1 << 1), 4 * 2);
    }

    private static void costOfOneTensor() {
        NetworkOrders x = Nets.network(Nets.t(3, 3, 4, 4, 5, 5));
        Check.due("nothing", x.costOf(0), 0);
        Check.due("one loop", x.costOf(1 << 3), 0);
        Check.due("all loops", x.costOf(7 << 3), 0);
        Check.due("no leg of it", x.costOf(1), NONE);
    }

    private static void costOfChangesNothing() {
        NetworkOrders x = Nets.fourWithEachOther();
        Check.due("cost before", x.cost(), 72);
        Check.due("a cut", x.costOf(63), 64 * 3);
        Check.due("refused", x.costOf(64), NONE);
        Check.due("cost", x.cost(), 72);
        Check.due("peak", x.peak(), 4);
        Check.due("shared", x.total(3), 63);
        Check.due("cut", x.cut(3), 1);
        Check.due("the same again", x.costOf(63), 64 * 3);
        x.leg(0, 0, 9);
        Check.due("not shared any more", x.costOf(1), NONE);
        x.leg(1, 0, 9);
        Check.due("by its new name", x.costOf(1 << 9), 72);
    }

    private static void costOfNotReady() {
        NetworkOrders x = new NetworkOrders();
        Check.due("no tensors", x.costOf(0), NONE);
        x.tensor(1);
        x.tensor(1);
        x.leg(0, 0, 3);
        Check.due("a bare place", x.costOf(0), NONE);
        x.leg(1, 0, 3);
        Check.due("ready", x.costOf(1 << 3), 2);
        x.tensor(1);
        Check.due("bare again", x.costOf(1 << 3), NONE);
        x.clear();
        Check.due("cleared", x.costOf(0), NONE);
    }

    private static void costOfOpenLegs() {
        NetworkOrders x = Nets.network(Nets.t(0, 1), Nets.t(1, 19));
        Check.due("shared", x.costOf(1 << 1), 2 * 4);
        Check.due("open", x.costOf(1), NONE);
        Check.due("open, the last", x.costOf(1 << 19), NONE);
        Check.due("one open, one shared", x.costOf(1 | 1 << 1), NONE);
        Check.due("all", x.costOf(1 | 1 << 1 | 1 << 19), NONE);
    }

    private static void costOfAbsentNames() {
        NetworkOrders x = Nets.network(Nets.t(1), Nets.t(1));
        for (int name = 0; name < 20; name++) {
            Check.due("alone", x.costOf(1 << name), name == 1 ? 2 : NONE);
            Check.due("with one that is shared", x.costOf(1 << name | 1 << 1), name == 1 ? 2 : NONE);
        }
    }

    private static void costOfNoNames() {
        NetworkOrders x = Nets.fullRing();
        for (int bit = 20; bit < 32; bit++) {
            Check.due("alone", x.costOf(1 << bit), NONE);
            Check.due("with all names", x.costOf(1 << bit | Nets.ALL_NAMES), NONE);
        }
        Check.due("-1", x.costOf(-1), NONE);
        Check.due("far below", x.costOf(Integer.MIN_VALUE), NONE);
        Check.due("far above", x.costOf(Integer.MAX_VALUE), NONE);
    }
}
