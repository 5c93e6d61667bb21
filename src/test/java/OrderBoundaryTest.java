/** The boundary cases of promises 9 to 12, and of the terms they use: one test for each sentence. */
public final class OrderBoundaryTest {
    private static final int NONE = -1;
    private static final int[] FAR = {Integer.MIN_VALUE, Integer.MIN_VALUE + 1, Integer.MIN_VALUE + 99,
        Integer.MIN_VALUE + 100, Integer.MIN_VALUE + 108, -108, -101, -100, -99, -33, -32, -31, -2, 31, 32, 33, 64, 99,
        200, 1 << 20, 1 << 30, Integer.MAX_VALUE - 100, Integer.MAX_VALUE - 1, Integer.MAX_VALUE};

    public static void main(String[] args) {
        sets();
        order();
        peak();
        step();
        greedyTerms();
        greedy();
        Check.end();
    }

    private static void sets() {
        Check.sentence("the LEGS that are there just once in it", OrderBoundaryTest::legsOnceInASet);
        Check.sentence("(those that are twice in one TENSOR it has not)", OrderBoundaryTest::loopsAreNoLegsOfASet);
        Check.sentence("2^(how many LEGS one of both has, or both)", OrderBoundaryTest::costOfOneJoin);
    }

    private static void order() {
        Check.sentence("THE ORDER (of one: nothing is done)", OrderBoundaryTest::orderOfOne);
        Check.sentence("the first one with its least TENSOR", OrderBoundaryTest::leastTensorInTheFirstPart);
        Check.sentence("all COSTS together are least", OrderBoundaryTest::leastOfAllCosts);
        Check.sentence("of several first parts the least number, one TENSOR", OrderBoundaryTest::leastPartOfEquals);
        Check.sentence("of several first parts the least number, two TENSORS", OrderBoundaryTest::leastPairOfEquals);
        Check.sentence("STEPS of the first part, of the second one, then itself", OrderBoundaryTest::stepsInTurn);
        Check.sentence("P9: All COSTS, ten TENSORS", OrderBoundaryTest::costOfTen);
        Check.sentence("P9: All COSTS, all LEGS OPEN", OrderBoundaryTest::costOfTwentyOpen);
        Check.sentence("P9: All COSTS, as the network is now", OrderBoundaryTest::costBehindAChange);
        Check.sentence("P9: NONE if it is not READY", OrderBoundaryTest::costNotReady);
    }

    private static void peak() {
        Check.sentence("THE PEAK: of a TENSOR", OrderBoundaryTest::peakOfATensor);
        Check.sentence("THE PEAK: of a set that a STEP makes", OrderBoundaryTest::peakOfAStepOnTheWay);
        Check.sentence("THE PEAK: of the set that the last STEP makes", OrderBoundaryTest::peakOfTheLastStep);
        Check.sentence("THE PEAK: no LEGS", OrderBoundaryTest::peakWithoutLegs);
        Check.sentence("P10: of THE ORDER, not of another", OrderBoundaryTest::peakOfTheOrder);
        Check.sentence("P10: NONE likewise", OrderBoundaryTest::peakNotReady);
    }

    private static void step() {
        Check.sentence("P11: STEP i, first and last of ten", OrderBoundaryTest::stepsOfTen);
        Check.sentence("P11: side 0: the first part, 1: the second one", OrderBoundaryTest::bothSides);
        Check.sentence("P11: STEP i, as the network is now", OrderBoundaryTest::stepsBehindAChange);
        Check.sentence("P11: NONE if there is none such, too small", OrderBoundaryTest::stepTooSmall);
        Check.sentence("P11: NONE if there is none such, too large", OrderBoundaryTest::stepTooLarge);
        Check.sentence("P11: NONE if there is none such, side", OrderBoundaryTest::stepOfNoSide);
        Check.sentence("P11: NONE if there is none such, one TENSOR", OrderBoundaryTest::stepOfOneTensor);
        Check.sentence("P11: NONE if there is none such, not READY", OrderBoundaryTest::stepNotReady);
    }

    private static void greedyTerms() {
        Check.sentence("GREEDY: 2^(the LEGS of both together as one set)", OrderBoundaryTest::growthOfWhatIsMade);
        Check.sentence("GREEDY: less 2^(the LEGS of the one)", OrderBoundaryTest::growthLessTheOne);
        Check.sentence("GREEDY: less 2^(of the other)", OrderBoundaryTest::growthLessTheOther);
        Check.sentence("GREEDY: each counts once", OrderBoundaryTest::eachCountsOnce);
        Check.sentence("GREEDY: is least, not the COST", OrderBoundaryTest::leastGrowthNotLeastCost);
        Check.sentence("GREEDY: the lesser number first, the least first", OrderBoundaryTest::lesserNumberLeads);
        Check.sentence("GREEDY: then the other one", OrderBoundaryTest::otherNumberFollows);
        Check.sentence("GREEDY: TENSORS, then what is made", OrderBoundaryTest::madeThingsAreNumbered);
        Check.sentence("GREEDY: a LEG that is twice in one TENSOR", OrderBoundaryTest::loopsDoNotGrow);
        Check.sentence("GREEDY: again and again, nothing SHARED", OrderBoundaryTest::greedyOfTwentyOpen);
    }

    private static void greedy() {
        Check.sentence("P12: what NONE: all COSTS", OrderBoundaryTest::greedyCosts);
        Check.sentence("P12: the first and the last turn of ten", OrderBoundaryTest::greedyOfTen);
        Check.sentence("P12: GREEDY, as the network is now", OrderBoundaryTest::greedyBehindAChange);
        Check.sentence("P12: no such turn, too large", OrderBoundaryTest::turnTooLarge);
        Check.sentence("P12: no such turn, 100 + too large", OrderBoundaryTest::otherTurnTooLarge);
        Check.sentence("P12: no such turn, too small", OrderBoundaryTest::turnTooSmall);
        Check.sentence("P12: no such turn, one TENSOR", OrderBoundaryTest::greedyOfOne);
        Check.sentence("P12: NONE if it is not READY", OrderBoundaryTest::greedyNotReady);
    }

    private static void dueStep(NetworkOrders x, int i, int first, int second) {
        Check.due("step " + i + ", first part", x.step(i, 0), first);
        Check.due("step " + i + ", second part", x.step(i, 1), second);
    }

    private static void dueTurn(NetworkOrders x, int turn, int lesser, int other) {
        Check.due("turn " + turn + ", lesser", x.greedy(turn), lesser);
        Check.due("turn " + turn + ", other", x.greedy(100 + turn), other);
    }

    // ---- sets and their legs

    private static void legsOnceInASet() {
        Check.due("one of three is shared", Nets.network(Nets.t(1, 2), Nets.t(2, 3)).peak(), 2);
        Check.due("all are shared", Nets.network(Nets.t(1), Nets.t(1), Nets.t()).cost(), 1 + 2);
        Check.due("none is shared", Nets.network(Nets.t(1), Nets.t(2)).peak(), 2);
    }

    private static void loopsAreNoLegsOfASet() {
        Check.due("peak of a loop", Nets.network(Nets.t(1, 1)).peak(), 0);
        Check.due("peak of three loops", Nets.network(Nets.t(1, 1, 2, 2, 3, 3)).peak(), 0);
        Check.due("cost of two loops", Nets.network(Nets.t(1, 1), Nets.t(2, 2)).cost(), 1);
        Check.due("greedy costs of two loops", Nets.network(Nets.t(1, 1), Nets.t(2, 2)).greedy(NONE), 1);
        Check.due("a loop beside a leg", Nets.network(Nets.t(1, 1, 4), Nets.t(4)).cost(), 2);
    }

    private static void costOfOneJoin() {
        Check.due("none has a leg", Nets.network(Nets.t(), Nets.t()).cost(), 1);
        Check.due("the first has one", Nets.network(Nets.t(0), Nets.t()).cost(), 2);
        Check.due("the second has one", Nets.network(Nets.t(), Nets.t(19)).cost(), 2);
        Check.due("both have the same one", Nets.network(Nets.t(7), Nets.t(7)).cost(), 2);
        Check.due("each has another one", Nets.network(Nets.t(7), Nets.t(8)).cost(), 4);
        Check.due("both have the same six",
                Nets.network(Nets.t(0, 1, 2, 3, 4, 5), Nets.t(5, 4, 3, 2, 1, 0)).cost(), 64);
        Check.due("each has another six", Nets.twelveOpen().cost(), 4096);
    }

    // ---- the order

    private static void orderOfOne() {
        NetworkOrders x = Nets.network(Nets.t(0, 1, 2, 3, 4, 5));
        Check.due("cost", x.cost(), 0);
        Check.due("peak", x.peak(), 6);
        Check.due("no step", x.step(0, 0), NONE);
        Check.due("no step, second part", x.step(0, 1), NONE);
    }

    private static void leastTensorInTheFirstPart() {
        NetworkOrders x = Nets.network(Nets.t(1, 2), Nets.t(2, 3), Nets.t(3));
        dueStep(x, 0, 2, 4);
        dueStep(x, 1, 1, 6);
        NetworkOrders y = Nets.network(Nets.t(3), Nets.t(1, 2), Nets.t(2, 3));
        dueStep(y, 0, 1, 4);
        dueStep(y, 1, 5, 2);
    }

    private static void leastOfAllCosts() {
        NetworkOrders x = Nets.network(Nets.t(0), Nets.t(0, 1, 2, 3), Nets.t(1), Nets.t(2), Nets.t(3));
        Check.due("greedy is dearer", x.greedy(NONE), 16 + 8 + 4 + 2);
        Check.due("two rows first", x.cost(), 4 + 16 + 4 + 2);
    }

    private static void leastPartOfEquals() {
        NetworkOrders x = Nets.network(Nets.t(), Nets.t(), Nets.t(), Nets.t());
        dueStep(x, 0, 4, 8);
        dueStep(x, 1, 2, 12);
        dueStep(x, 2, 1, 14);
        NetworkOrders triangle = Nets.network(Nets.t(0, 1), Nets.t(1, 2), Nets.t(2, 0));
        Check.due("triangle, cost", triangle.cost(), 12);
        dueStep(triangle, 0, 2, 4);
        dueStep(triangle, 1, 1, 6);
    }

    /** A pair from the three great ones and a pair with the small one: 3 of {3, 5, 9} is the least. */
    private static void leastPairOfEquals() {
        NetworkOrders x = Nets.twentyOpen();
        dueStep(x, 0, 1, 2);
        dueStep(x, 1, 4, 8);
        dueStep(x, 2, 3, 12);
    }

    /** 0 = 2 = 4 - 1 = 3: three from the one end, two from the other one. */
    private static void stepsInTurn() {
        NetworkOrders x = Nets.network(Nets.t(0, 1), Nets.t(8, 5, 6, 7), Nets.t(0, 1, 2, 3), Nets.t(5, 6, 7),
                Nets.t(2, 3, 8));
        Check.due("cost", x.cost(), 16 + 8 + 16 + 2);
        dueStep(x, 0, 1, 4);
        dueStep(x, 1, 5, 16);
        dueStep(x, 2, 2, 8);
        dueStep(x, 3, 21, 10);
        dueStep(x, 4, NONE, NONE);
    }

    private static void costOfTen() {
        Check.due("a ring", Nets.fullRing().cost(), 8 * 64 + 16);
        NetworkOrders x = new NetworkOrders();
        for (int i = 0; i < 10; i++) {
            x.tensor(0);
            Check.due("without legs", x.cost(), i);
        }
    }

    private static void costOfTwentyOpen() {
        Check.due("twenty open", Nets.twentyOpen().cost(), 256 + 4096 + (1 << 20));
    }

    private static void costBehindAChange() {
        NetworkOrders x = Nets.network(Nets.t(1, 2), Nets.t(3, 4));
        Check.due("nothing shared", x.cost(), 16);
        x.leg(1, 0, 2);
        Check.due("one shared", x.cost(), 8);
        x.leg(1, 1, 1);
        Check.due("both shared", x.cost(), 4);
        x.tensor(0);
        Check.due("a third one", x.cost(), 4 + 1);
        x.put(0, 0, 1, 1);
        Check.due("an entry costs nothing", x.cost(), 4 + 1);
    }

    private static void costNotReady() {
        NetworkOrders x = new NetworkOrders();
        Check.due("no tensors", x.cost(), NONE);
        x.tensor(1);
        Check.due("a bare place", x.cost(), NONE);
        x.leg(0, 0, 0);
        Check.due("ready", x.cost(), 0);
        x.leg(0, 0, NONE);
        Check.due("bare again", x.cost(), NONE);
        x.clear();
        Check.due("cleared", x.cost(), NONE);
    }

    // ---- the peak

    private static void peakOfATensor() {
        Check.due("alone", Nets.network(Nets.t(0, 1, 2, 3, 4, 5)).peak(), 6);
        Check.due("the first", Nets.network(Nets.t(0, 1, 2), Nets.t(0, 1), Nets.t(2)).peak(), 3);
        Check.due("the last", Nets.network(Nets.t(2), Nets.t(0, 1), Nets.t(0, 1, 2)).peak(), 3);
        Check.due("two alike", Nets.network(Nets.t(1, 2, 3), Nets.t(1, 2, 3)).peak(), 3);
    }

    /** Each tensor has three legs and all together none; two of them together have four. */
    private static void peakOfAStepOnTheWay() {
        NetworkOrders x = Nets.fourWithEachOther();
        Check.due("peak", x.peak(), 4);
        Check.due("cost", x.cost(), 32 + 32 + 8);
        dueStep(x, 0, 4, 8);
        dueStep(x, 1, 2, 12);
        dueStep(x, 2, 1, 14);
    }

    private static void peakOfTheLastStep() {
        Check.due("three rows", Nets.network(Nets.t(1), Nets.t(2), Nets.t(3)).peak(), 3);
        Check.due("twenty open", Nets.twentyOpen().peak(), 20);
        Check.due("two with a leg in common", Nets.network(Nets.t(1, 2, 3), Nets.t(1, 4, 5)).peak(), 4);
    }

    private static void peakWithoutLegs() {
        Check.due("one", Nets.network(Nets.t()).peak(), 0);
        Check.due("two", Nets.network(Nets.t(), Nets.t()).peak(), 0);
        Check.due("loops", Nets.network(Nets.t(4, 4), Nets.t(5, 5, 6, 6)).peak(), 0);
    }

    /** Two rows first cost least, though the set of two rows has two legs that greedy never has. */
    private static void peakOfTheOrder() {
        NetworkOrders x = Nets.network(Nets.t(1), Nets.t(2), Nets.t(1, 2, 3, 4), Nets.t(3), Nets.t(4));
        Check.due("peak", x.peak(), 4);
        Check.due("cost", x.cost(), 4 + 16 + 4 + 2);
        NetworkOrders chain = Nets.network(Nets.t(1, 2), Nets.t(3, 4), Nets.t(2, 3), Nets.t(4));
        Check.due("from the end on, cost", chain.cost(), 4 + 4 + 4);
        Check.due("from the end on, peak", chain.peak(), 2);
    }

    private static void peakNotReady() {
        NetworkOrders x = new NetworkOrders();
        Check.due("no tensors", x.peak(), NONE);
        x.tensor(1);
        Check.due("a bare place", x.peak(), NONE);
        x.leg(0, 0, 0);
        Check.due("ready", x.peak(), 1);
        x.tensor(2);
        Check.due("bare again", x.peak(), NONE);
        x.clear();
        Check.due("cleared", x.peak(), NONE);
    }

    // ---- promise 11

    /** All orders along the ring cost the same, so each first part is the least tensor alone. */
    private static void stepsOfTen() {
        NetworkOrders x = Nets.fullRing();
        dueStep(x, 0, 256, 512);
        for (int i = 1; i < 8; i++) {
            int first = 1 << 8 - i;
            dueStep(x, i, first, 1024 - 2 * first);
        }
        dueStep(x, 8, 1, 1022);
        dueStep(x, 9, NONE, NONE);
    }

    private static void bothSides() {
        NetworkOrders x = Nets.network(Nets.t(), Nets.t());
        Check.due("0", x.step(0, 0), 1);
        Check.due("1", x.step(0, 1), 2);
    }

    private static void stepsBehindAChange() {
        NetworkOrders x = Nets.network(Nets.t(1, 2), Nets.t(2, 3), Nets.t(3));
        dueStep(x, 0, 2, 4);
        dueStep(x, 1, 1, 6);
        x.leg(1, 1, 4);
        x.leg(2, 0, 1);
        dueStep(x, 0, 1, 4);
        dueStep(x, 1, 5, 2);
        x.tensor(0);
        dueStep(x, 2, 7, 8);
    }

    private static void stepTooSmall() {
        NetworkOrders x = Nets.fullRing();
        Check.due("-1", x.step(-1, 0), NONE);
        Check.due("-1, side 1", x.step(-1, 1), NONE);
        for (int far : FAR) {
            if (far < 0) {
                Check.due("far", x.step(far, 0), NONE);
            }
        }
    }

    private static void stepTooLarge() {
        for (int count = 2; count <= 10; count++) {
            NetworkOrders x = new NetworkOrders();
            for (int i = 0; i < count; i++) {
                x.tensor(0);
            }
            Check.due("the last", x.step(count - 2, 0), 1);
            Check.due("behind the last", x.step(count - 1, 0), NONE);
            Check.due("behind the last, side 1", x.step(count - 1, 1), NONE);
            Check.due("two behind the last", x.step(count, 0), NONE);
            for (int far : FAR) {
                Check.due("far", x.step(far, 1), NONE);
            }
        }
    }

    private static void stepOfNoSide() {
        NetworkOrders x = Nets.fullRing();
        Check.due("-1", x.step(0, -1), NONE);
        Check.due("2", x.step(0, 2), NONE);
        Check.due("2, last", x.step(8, 2), NONE);
        Check.due("both wrong", x.step(9, 2), NONE);
        for (int far : FAR) {
            Check.due("far", x.step(0, far), NONE);
        }
    }

    private static void stepOfOneTensor() {
        Check.due("no legs", Nets.network(Nets.t()).step(0, 0), NONE);
        Check.due("a leg", Nets.network(Nets.t(1)).step(0, 1), NONE);
        NetworkOrders x = Nets.network(Nets.t(1), Nets.t(1));
        Check.due("two", x.step(0, 0), 1);
        x.clear();
        x.tensor(0);
        Check.due("one again", x.step(0, 0), NONE);
    }

    private static void stepNotReady() {
        NetworkOrders x = new NetworkOrders();
        Check.due("no tensors", x.step(0, 0), NONE);
        x.tensor(0);
        x.tensor(0);
        Check.due("ready", x.step(0, 0), 1);
        x.tensor(1);
        Check.due("a bare place", x.step(0, 0), NONE);
        Check.due("a bare place, side 1", x.step(1, 1), NONE);
        x.leg(2, 0, 3);
        Check.due("ready again", x.step(1, 0), 1 | 2);
    }

    // ---- greedy

    /** 1 and 3 leave two legs of five: 4 - 16 - 16; 0 and 2 leave none of one: 1 - 2 - 2. */
    private static void growthOfWhatIsMade() {
        NetworkOrders x = Nets.network(Nets.t(5), Nets.t(0, 1, 2, 3), Nets.t(5), Nets.t(0, 1, 2, 4));
        dueTurn(x, 0, 1, 3);
        dueTurn(x, 1, 0, 2);
        dueTurn(x, 2, 4, 5);
        Check.due("costs", x.greedy(NONE), 32 + 2 + 4);
    }

    /** 0 and 2: 8 - 16 - 2, the others: -1. Without the first one's legs 1 and 2 would lead. */
    private static void growthLessTheOne() {
        NetworkOrders x = Nets.network(Nets.t(0, 1, 2, 3), Nets.t(), Nets.t(0));
        dueTurn(x, 0, 0, 2);
        dueTurn(x, 1, 1, 3);
    }

    /** 0 and 2: 8 - 2 - 16, the others: -1. Without the second one's legs 0 and 1 would lead. */
    private static void growthLessTheOther() {
        NetworkOrders x = Nets.network(Nets.t(0), Nets.t(), Nets.t(0, 1, 2, 3));
        dueTurn(x, 0, 0, 2);
        dueTurn(x, 1, 1, 3);
    }

    /** What is made counts no more, and what is joined no more, than once. */
    private static void eachCountsOnce() {
        // 0 and 2: 1 - 2 - 2, 1 and 3: 8 - 8 - 4; with what is made twice: -2 and 4
        NetworkOrders x = Nets.network(Nets.t(9), Nets.t(0, 1, 2), Nets.t(9), Nets.t(0, 3));
        dueTurn(x, 0, 1, 3);
        // 0 and 2: 1 - 2 - 2, 1 and 3: 16 - 8 - 8; with what is joined twice: -7 and -16
        NetworkOrders y = Nets.network(Nets.t(9), Nets.t(0, 1, 2), Nets.t(9), Nets.t(0, 3, 4));
        dueTurn(y, 0, 0, 2);
    }

    /** Joining 0 and 2 costs 2, joining 1 and 3 costs 8: but three legs gone are more than one. */
    private static void leastGrowthNotLeastCost() {
        NetworkOrders x = Nets.network(Nets.t(9), Nets.t(0, 1, 2), Nets.t(9), Nets.t(0, 1, 2));
        dueTurn(x, 0, 1, 3);
        dueTurn(x, 1, 0, 2);
        dueTurn(x, 2, 4, 5);
        Check.due("costs", x.greedy(NONE), 8 + 2 + 1);
    }

    private static void lesserNumberLeads() {
        NetworkOrders x = Nets.network(Nets.t(0), Nets.t(1), Nets.t(1), Nets.t(0));
        dueTurn(x, 0, 0, 3);
        dueTurn(x, 1, 1, 2);
        dueTurn(x, 2, 4, 5);
    }

    private static void otherNumberFollows() {
        NetworkOrders x = Nets.network(Nets.t(0, 1), Nets.t(0), Nets.t(1));
        dueTurn(x, 0, 0, 1);
        dueTurn(x, 1, 2, 3);
        NetworkOrders y = Nets.network(Nets.t(), Nets.t(), Nets.t(), Nets.t());
        dueTurn(y, 0, 0, 1);
        dueTurn(y, 1, 2, 3);
        dueTurn(y, 2, 4, 5);
    }

    private static void madeThingsAreNumbered() {
        // 1 and 2 make 3, which has leg 1 as 0 has
        NetworkOrders x = Nets.network(Nets.t(1), Nets.t(1, 5, 6, 7), Nets.t(5, 6, 7));
        dueTurn(x, 0, 1, 2);
        dueTurn(x, 1, 0, 3);
        Check.due("costs", x.greedy(NONE), 16 + 2);
    }

    /** The loops of 0 and 1 count nowhere: 0 and 1 grow by 4 - 2 - 2, 0 and 2 by 1 - 2 - 2. */
    private static void loopsDoNotGrow() {
        NetworkOrders x = Nets.network(Nets.t(3, 0, 0), Nets.t(4, 1, 1), Nets.t(3), Nets.t(4));
        dueTurn(x, 0, 0, 2);
        dueTurn(x, 1, 1, 3);
        dueTurn(x, 2, 4, 5);
        Check.due("costs", x.greedy(NONE), 2 + 2 + 1);
    }

    private static void greedyOfTwentyOpen() {
        NetworkOrders x = Nets.twentyOpen();
        dueTurn(x, 0, 0, 3);
        dueTurn(x, 1, 1, 2);
        dueTurn(x, 2, 4, 5);
        Check.due("costs", x.greedy(NONE), 256 + 4096 + (1 << 20));
    }

    private static void greedyCosts() {
        Check.due("one", Nets.network(Nets.t(0, 1, 2, 3, 4, 5)).greedy(NONE), 0);
        Check.due("two without legs", Nets.network(Nets.t(), Nets.t()).greedy(NONE), 1);
        Check.due("two of six", Nets.twelveOpen().greedy(NONE), 4096);
        Check.due("ten", Nets.fullRing().greedy(NONE), 528);
    }

    private static void greedyOfTen() {
        NetworkOrders x = Nets.fullRing();
        for (int turn = 0; turn < 9; turn++) {
            dueTurn(x, turn, 2 * turn, 2 * turn + 1);
        }
        dueTurn(x, 9, NONE, NONE);
    }

    private static void greedyBehindAChange() {
        NetworkOrders x = Nets.network(Nets.t(0), Nets.t(0), Nets.t(1), Nets.t(1));
        dueTurn(x, 0, 0, 1);
        dueTurn(x, 1, 2, 3);
        Check.due("costs", x.greedy(NONE), 2 + 2 + 1);
        x.leg(1, 0, 2);
        x.leg(3, 0, 0);
        x.leg(1, 0, 1);
        dueTurn(x, 0, 0, 3);
        dueTurn(x, 1, 1, 2);
        x.tensor(0);
        dueTurn(x, 2, 4, 5);
        dueTurn(x, 3, 6, 7);
        Check.due("costs of five", x.greedy(NONE), 2 + 2 + 1 + 1);
    }

    private static void turnTooLarge() {
        for (int count = 2; count <= 10; count++) {
            NetworkOrders x = new NetworkOrders();
            for (int i = 0; i < count; i++) {
                x.tensor(0);
            }
            Check.due("the last", x.greedy(count - 2), 2 * count - 4);
            for (int what = count - 1; what < 100; what++) {
                Check.due("behind the last", x.greedy(what), NONE);
            }
        }
    }

    private static void otherTurnTooLarge() {
        for (int count = 2; count <= 10; count++) {
            NetworkOrders x = new NetworkOrders();
            for (int i = 0; i < count; i++) {
                x.tensor(0);
            }
            Check.due("100", x.greedy(100), 1);
            Check.due("the last", x.greedy(100 + count - 2), 2 * count - 3);
            for (int what = 100 + count - 1; what < 220; what++) {
                Check.due("behind the last", x.greedy(what), NONE);
            }
        }
    }

    private static void turnTooSmall() {
        NetworkOrders x = Nets.fullRing();
        Check.due("-2", x.greedy(-2), NONE);
        Check.due("99", x.greedy(99), NONE);
        for (int far : FAR) {
            Check.due("far", x.greedy(far), NONE);
        }
    }

    private static void greedyOfOne() {
        NetworkOrders x = Nets.network(Nets.t(1));
        Check.due("costs", x.greedy(NONE), 0);
        Check.due("turn 0", x.greedy(0), NONE);
        Check.due("turn 0, other", x.greedy(100), NONE);
    }

    private static void greedyNotReady() {
        NetworkOrders x = new NetworkOrders();
        Check.due("no tensors", x.greedy(NONE), NONE);
        x.tensor(1);
        x.tensor(0);
        Check.due("a bare place, costs", x.greedy(NONE), NONE);
        Check.due("a bare place, turn 0", x.greedy(0), NONE);
        Check.due("a bare place, turn 0, other", x.greedy(100), NONE);
        x.leg(0, 0, 0);
        Check.due("ready, costs", x.greedy(NONE), 2);
        Check.due("ready, turn 0", x.greedy(0), 0);
        Check.due("ready, turn 0, other", x.greedy(100), 1);
        x.clear();
        Check.due("cleared", x.greedy(0), NONE);
    }
}
