import java.util.Arrays;
import java.util.NoSuchElementException;

/**
 * Networks of tensors with exact entries: what they are all together, and the orders, cuts and
 * slopes that belong to them. Sets of names and sets of tensors are held as bits of an int.
 */
public final class NetworkOrders {
    public static final int NONE = -1;

    private static final int MOST_TENSORS = 10;
    private static final int MOST_PLACES = 6;
    private static final int MOST_ENTRIES = 1 << MOST_PLACES;
    private static final int SETS = 1 << MOST_TENSORS;
    private static final int NAMES = 20;
    private static final int MOST_PART = 9;
    private static final int MOST_PEAK = 12;
    private static final int OTHERS_FROM = 100;
    private static final int ABOVE_ANY_GROWTH = 1 << 30;

    private final Tensor[] tensors;
    private final int[] uses;
    private final int[] legsOfOne;
    private final int[] cutPeaks;
    private final Order whole;
    private final Order left;
    private final GreedyRun greedyRun;
    private final Contraction contraction;
    private int count;
    private int allPlaces;
    private int barePlaces;
    private boolean wholeKnown;
    private int leftKnownFor;

    public NetworkOrders() {
        tensors = new Tensor[MOST_TENSORS];
        for (int i = 0; i < MOST_TENSORS; i++) {
            tensors[i] = new Tensor();
        }
        uses = new int[NAMES];
        legsOfOne = new int[MOST_TENSORS];
        cutPeaks = new int[NAMES * NAMES];
        whole = new Order();
        left = new Order();
        greedyRun = new GreedyRun();
        contraction = new Contraction();
        forgetOrders();
    }

    public int tensor(int places) {
        if (places < 0 || places > MOST_PLACES || count >= MOST_TENSORS) {
            return NONE;
        }
        tensors[count].makeNew(places);
        count++;
        allPlaces += places;
        barePlaces += places;
        forgetOrders();
        return count - 1;
    }

    public boolean leg(int tensor, int place, int name) {
        if (!isTensor(tensor) || place < 0 || place >= tensors[tensor].places
                || name < NONE || name >= NAMES) {
            return false;
        }
        int before = tensors[tensor].names[place];
        if (name == before) {
            return true;
        }
        if (name != NONE && uses[name] >= 2) {
            return false;
        }
        countUse(before, -1);
        countUse(name, 1);
        tensors[tensor].setName(place, name);
        forgetOrders();
        return true;
    }

    public boolean put(int tensor, int index, int real, int imaginary) {
        if (!isEntry(tensor, index) || !isPart(real) || !isPart(imaginary)) {
            return false;
        }
        tensors[tensor].real[index] = real;
        tensors[tensor].imaginary[index] = imaginary;
        return true;
    }

    public void clear() {
        count = 0;
        allPlaces = 0;
        barePlaces = 0;
        Arrays.fill(uses, 0);
        forgetOrders();
    }

    public int open() {
        return isReady() ? namesUsed(1) : NONE;
    }

    public long value(int open, int part) throws NoSuchElementException, ArithmeticException {
        refuseUnknown(open, part);
        refuseHighPeak();
        return contracted(NONE, NONE, open, part);
    }

    public long slope(int tensor, int index, int open, int part)
            throws NoSuchElementException, ArithmeticException {
        refuseUnknown(open, part);
        if (!isEntry(tensor, index)) {
            throw new NoSuchElementException("no such tensor or index");
        }
        refuseHighPeak();
        return contracted(tensor, index, open, part);
    }

    public int cost() {
        return isReady() ? orderOfAll().allCosts : NONE;
    }

    public int peak() {
        return isReady() ? orderOfAll().mostLegs : NONE;
    }

    public int step(int i, int side) {
        if (!isReady() || i < 0 || i >= count - 1 || side < 0 || side > 1) {
            return NONE;
        }
        Order order = orderOfAll();
        int made = order.made[i];
        int first = order.firsts[made];
        return side == 0 ? first : made ^ first;
    }

    public int greedy(int what) {
        if (!isReady()) {
            return NONE;
        }
        takeLegs(0);
        greedyRun.joinAll(legsOfOne, count);
        if (what == NONE) {
            return greedyRun.allCosts;
        }
        int turns = count - 1;
        if (what >= 0 && what < turns) {
            return greedyRun.lesser[what];
        }
        if (what >= OTHERS_FROM && what < OTHERS_FROM + turns) {
            return greedyRun.other[what - OTHERS_FROM];
        }
        return NONE;
    }

    public int cut(int most) {
        if (!isReady() || most < 0) {
            return NONE;
        }
        if (orderOfAll().mostLegs <= most) {
            return 0;
        }
        int between = namesBetweenTensors();
        int one = leastSingleCut(between, most);
        return one != NONE ? one : leastDoubleCut(between, most);
    }

    public int costOf(int cut) {
        if (!isReady() || (cut & ~namesUsed(2)) != 0) {
            return NONE;
        }
        Order order = cut == 0 ? orderOfAll() : orderWhenCut(cut);
        return order.allCosts << Integer.bitCount(cut);
    }

    public int total(int what) {
        switch (what) {
            case 0:
                return count;
            case 1:
                return allPlaces;
            case 2:
                return barePlaces;
            case 3:
                return isReady() ? namesUsed(2) : 0;
            default:
                return NONE;
        }
    }

    private boolean isReady() {
        return count > 0 && barePlaces == 0;
    }

    private boolean isTensor(int tensor) {
        return tensor >= 0 && tensor < count;
    }

    private boolean isEntry(int tensor, int index) {
        return isTensor(tensor) && index >= 0 && index < 1 << tensors[tensor].places;
    }

    private static boolean isPart(int part) {
        return part >= -MOST_PART && part <= MOST_PART;
    }

    /** A place gains (change 1) or loses (change -1) a name; gaining or losing NONE bares it. */
    private void countUse(int name, int change) {
        if (name == NONE) {
            barePlaces += change;
        } else {
            uses[name] += change;
        }
    }

    private int namesUsed(int times) {
        int set = 0;
        for (int name = 0; name < NAMES; name++) {
            if (uses[name] == times) {
                set |= 1 << name;
            }
        }
        return set;
    }

    /** A leg twice in one tensor is left out: no set of tensors has it, so no order knows it. */
    private int namesBetweenTensors() {
        int set = 0;
        for (int i = 0; i < count; i++) {
            set |= tensors[i].legs;
        }
        return set & namesUsed(2);
    }

    private void forgetOrders() {
        wholeKnown = false;
        leftKnownFor = NONE;
        Arrays.fill(cutPeaks, NONE);
    }

    private void takeLegs(int cut) {
        for (int i = 0; i < count; i++) {
            legsOfOne[i] = tensors[i].legs & ~cut;
        }
    }

    private void findOrder(Order order, int cut) {
        takeLegs(cut);
        greedyRun.joinAll(legsOfOne, count);
        order.find(legsOfOne, count, greedyRun.allCosts);
    }

    private Order orderOfAll() {
        if (!wholeKnown) {
            findOrder(whole, 0);
            wholeKnown = true;
        }
        return whole;
    }

    private Order orderWhenCut(int cut) {
        if (leftKnownFor != cut) {
            findOrder(left, cut);
            leftKnownFor = cut;
        }
        return left;
    }

    private int leastSingleCut(int between, int most) {
        for (int name = 0; name < NAMES; name++) {
            if (isIn(name, between) && isLowWhenCut(name, name, most)) {
                return 1 << name;
            }
        }
        return NONE;
    }

    /** The greater name leads, since it weighs more in the number of the set. */
    private int leastDoubleCut(int between, int most) {
        for (int high = 1; high < NAMES; high++) {
            for (int low = 0; low < high && isIn(high, between); low++) {
                if (isIn(low, between) && isLowWhenCut(high, low, most)) {
                    return 1 << high | 1 << low;
                }
            }
        }
        return NONE;
    }

    /** Peaks are kept until a leg changes, since one cut asks for up to 210 of them. */
    private boolean isLowWhenCut(int high, int low, int most) {
        int cut = 1 << high | 1 << low;
        if (!areTensorsLow(cut, most)) {
            return false;
        }
        int slot = high * NAMES + low;
        if (cutPeaks[slot] == NONE) {
            cutPeaks[slot] = orderWhenCut(cut).mostLegs;
        }
        return cutPeaks[slot] <= most;
    }

    /** Spares the search for an order where none could help. */
    private boolean areTensorsLow(int cut, int most) {
        for (int i = 0; i < count; i++) {
            if (Integer.bitCount(tensors[i].legs & ~cut) > most) {
                return false;
            }
        }
        return true;
    }

    private void refuseUnknown(int open, int part) {
        if (!isReady()) {
            throw new NoSuchElementException("the network is not ready");
        }
        if (part < 0 || part > 1) {
            throw new NoSuchElementException("no such part");
        }
        if (open < 0 || open >= 1 << Integer.bitCount(namesUsed(1))) {
            throw new NoSuchElementException("no such values of the open legs");
        }
    }

    private void refuseHighPeak() {
        if (orderOfAll().mostLegs > MOST_PEAK) {
            throw new ArithmeticException("the peak is too high");
        }
    }

    /**
     * The value, or, of a tensor and an index, the slope: a value is linear in each entry, so a
     * slope is the value that stands when the tensor's only entry is a 1 at this index.
     */
    private long contracted(int tensor, int index, int open, int part) {
        int openNames = namesUsed(1);
        int ones = spread(open, openNames);
        Order order = orderOfAll();
        contraction.begin(order, count, openNames);
        for (int i = 0; i < count; i++) {
            contraction.load(i, tensors[i], ones, i == tensor ? index : NONE);
        }
        contraction.joinAll(order, count);
        return part == 0 ? contraction.resultReal() : contraction.resultImaginary();
    }

    private static boolean isIn(int element, int set) {
        return (set >> element & 1) == 1;
    }

    /** Bit j of bits goes to the j-th name of the set. */
    private static int spread(int bits, int set) {
        int names = 0;
        int j = 0;
        for (int name = 0; name < NAMES; name++) {
            if (isIn(name, set)) {
                names |= (bits >> j & 1) << name;
                j++;
            }
        }
        return names;
    }

    /** What spread undoes: the j-th name of the set gives bit j. */
    private static int gather(int names, int set) {
        int bits = 0;
        int j = 0;
        for (int name = 0; name < NAMES; name++) {
            if (isIn(name, set)) {
                bits |= (names >> name & 1) << j;
                j++;
            }
        }
        return bits;
    }

    /** One tensor; its rows are made once and used again after clear. */
    private static final class Tensor {
        private final int[] names = new int[MOST_PLACES];
        private final int[] real = new int[MOST_ENTRIES];
        private final int[] imaginary = new int[MOST_ENTRIES];
        private int places;
        private int legs;

        private void makeNew(int newPlaces) {
            places = newPlaces;
            legs = 0;
            Arrays.fill(names, NONE);
            Arrays.fill(real, 0);
            Arrays.fill(imaginary, 0);
        }

        private void setName(int place, int name) {
            names[place] = name;
            legs = 0;
            for (int i = 0; i < places; i++) {
                if (names[i] != NONE) {
                    legs ^= 1 << names[i];
                }
            }
        }

        /** The names of the places whose value at this index is the bit that is asked for. */
        private int namesWithBit(int index, int bit) {
            int set = 0;
            for (int place = 0; place < places; place++) {
                if ((index >> place & 1) == bit && names[place] != NONE) {
                    set |= 1 << names[place];
                }
            }
            return set;
        }
    }

    /** The order of least cost; its rows are numbered by sets of tensors. */
    private static final class Order {
        private final int[] legs = new int[SETS];
        private final int[] costs = new int[SETS];
        private final int[] firsts = new int[SETS];
        private final int[] made = new int[MOST_TENSORS];
        private final int[] waiting = new int[MOST_TENSORS + 1];
        private int allCosts;
        private int mostLegs;

        /** The bound is what some order costs: a set that only dearer orders make is left out. */
        private void find(int[] legsOfOne, int count, int bound) {
            int all = (1 << count) - 1;
            for (int set = 1; set <= all; set++) {
                int rest = set & (set - 1);
                legs[set] = legs[rest] ^ legsOfOne[Integer.numberOfTrailingZeros(set)];
                if (rest == 0) {
                    costs[set] = 0;
                } else if (set != all && isTooDear(set, bound)) {
                    costs[set] = bound + 1;
                } else {
                    partInTwo(set, rest, bound);
                }
            }
            allCosts = costs[all];
            listSteps(all, count);
            findMostLegs(count);
        }

        /** Whoever makes the set pays for its legs at least, and again to join it with the rest. */
        private boolean isTooDear(int set, int bound) {
            return 2 << Integer.bitCount(legs[set]) > bound;
        }

        private void partInTwo(int set, int rest, int bound) {
            int least = set ^ rest;
            int lowest = bound + 1;
            int bestFirst = least;
            int more = 0;
            for (int ways = (1 << Integer.bitCount(rest)) - 1; ways > 0; ways--) {
                int first = least | more;
                int second = rest ^ more;
                int sum = costs[first] + costs[second];
                if (sum < lowest) {
                    sum += 1 << Integer.bitCount(legs[first] | legs[second]);
                    if (sum < lowest) {
                        lowest = sum;
                        bestFirst = first;
                    }
                }
                // This is the next greater subset of rest: so the least part leads.
                more = (more - rest) & rest;
            }
            costs[set] = lowest;
            firsts[set] = bestFirst;
        }

        /** From the last step back to the first one: a set, its second part, its first part. */
        private void listSteps(int all, int count) {
            int at = count - 1;
            int top = 0;
            waiting[0] = all;
            for (int visit = 0; visit < 2 * count - 1; visit++) {
                int set = waiting[top];
                top--;
                if ((set & (set - 1)) != 0) {
                    at--;
                    made[at] = set;
                    waiting[top + 1] = firsts[set];
                    waiting[top + 2] = set ^ firsts[set];
                    top += 2;
                }
            }
        }

        private void findMostLegs(int count) {
            mostLegs = 0;
            for (int i = 0; i < count; i++) {
                mostLegs = Math.max(mostLegs, Integer.bitCount(legs[1 << i]));
            }
            for (int i = 0; i < count - 1; i++) {
                mostLegs = Math.max(mostLegs, Integer.bitCount(legs[made[i]]));
            }
        }
    }

    /** Joins, turn by turn, the two things that seem best just then. */
    private static final class GreedyRun {
        private final int[] legs = new int[2 * MOST_TENSORS];
        private final int[] sizes = new int[2 * MOST_TENSORS];
        private final int[] lesser = new int[MOST_TENSORS];
        private final int[] other = new int[MOST_TENSORS];
        private int gone;
        private int allCosts;

        private void joinAll(int[] legsOfOne, int count) {
            gone = 0;
            allCosts = 0;
            for (int i = 0; i < count; i++) {
                addThing(i, legsOfOne[i]);
            }
            for (int turn = 0; turn < count - 1; turn++) {
                choose(turn, count + turn);
                int one = lesser[turn];
                int two = other[turn];
                allCosts += 1 << Integer.bitCount(legs[one] | legs[two]);
                addThing(count + turn, legs[one] ^ legs[two]);
                gone |= 1 << one | 1 << two;
            }
        }

        private void addThing(int number, int legsOfThing) {
            legs[number] = legsOfThing;
            sizes[number] = 1 << Integer.bitCount(legsOfThing);
        }

        /** The lesser number leads and only less growth wins, so the first of equals stays. */
        private void choose(int turn, int things) {
            int least = ABOVE_ANY_GROWTH;
            for (int one = 0; one < things; one++) {
                for (int two = one + 1; two < things && !isIn(one, gone); two++) {
                    int size = 1 << Integer.bitCount(legs[one] ^ legs[two]);
                    int growth = size - sizes[one] - sizes[two];
                    if (growth < least && !isIn(two, gone)) {
                        least = growth;
                        lesser[turn] = one;
                        other[turn] = two;
                    }
                }
            }
        }
    }

    /**
     * Puts two by two together while the open legs have fixed values. What a set of tensors is
     * together stands in a run of the rows; bit j of a position in it is the value of the set's
     * j-th leg that is not open.
     */
    private static final class Contraction {
        private final int[] starts = new int[MOST_TENSORS];
        private final int[] bonds = new int[MOST_TENSORS];
        private final int[] movesFirst = new int[NAMES + 1];
        private final int[] movesSecond = new int[NAMES + 1];
        private final int[] movesMade = new int[NAMES + 1];
        private long[] real = new long[MOST_ENTRIES];
        private long[] imaginary = new long[MOST_ENTRIES];
        private int openNames;
        private int used;

        private void begin(Order order, int count, int open) {
            openNames = open;
            used = 0;
            int need = 0;
            for (int i = 0; i < count; i++) {
                bonds[i] = order.legs[1 << i] & ~open;
                need += 1 << Integer.bitCount(bonds[i]);
            }
            for (int i = 0; i < count - 1; i++) {
                need += 1 << Integer.bitCount(order.legs[order.made[i]] & ~open);
            }
            makeRoom(need);
        }

        /** Doubles at least, so that all rows an object ever makes stay in proportion to the last. */
        private void makeRoom(int need) {
            if (need > real.length) {
                int length = Math.max(need, 2 * real.length);
                real = new long[length];
                imaginary = new long[length];
                return;
            }
            for (int i = 0; i < need; i++) {
                real[i] = 0;
                imaginary[i] = 0;
            }
        }

        private int take(int bondsOfSet) {
            int start = used;
            used += 1 << Integer.bitCount(bondsOfSet);
            return start;
        }

        /** With an index given, the tensor counts as if it were 1 there and 0 elsewhere. */
        private void load(int number, Tensor tensor, int ones, int index) {
            starts[number] = take(bonds[number]);
            if (index != NONE) {
                add(number, tensor, ones, index, 1, 0);
                return;
            }
            for (int i = 0; i < 1 << tensor.places; i++) {
                add(number, tensor, ones, i, tensor.real[i], tensor.imaginary[i]);
            }
        }

        /** An entry counts if it has one value for each leg, and for the open ones the fixed one. */
        private void add(int number, Tensor tensor, int ones, int index, int re, int im) {
            int high = tensor.namesWithBit(index, 1);
            int low = tensor.namesWithBit(index, 0);
            if ((high & low) == 0 && (high & openNames) == (ones & (high | low))) {
                int at = starts[number] + gather(high, bonds[number]);
                real[at] += re;
                imaginary[at] += im;
            }
        }

        /** Sets that are there at once have no common tensor: the least tensor tells each. */
        private void joinAll(Order order, int count) {
            for (int i = 0; i < count - 1; i++) {
                int set = order.made[i];
                int first = order.firsts[set];
                joinTwo(Integer.numberOfTrailingZeros(first),
                        Integer.numberOfTrailingZeros(set ^ first));
            }
        }

        /** Counts through all values of the legs of both; each carry moves all three positions. */
        private void joinTwo(int first, int second) {
            int both = bonds[first] | bonds[second];
            int kept = bonds[first] ^ bonds[second];
            int start = take(kept);
            findMoves(movesFirst, both, bonds[first]);
            findMoves(movesSecond, both, bonds[second]);
            findMoves(movesMade, both, kept);
            int a = starts[first];
            int b = starts[second];
            int c = start;
            int turns = 1 << Integer.bitCount(both);
            for (int turn = 1; turn <= turns; turn++) {
                real[c] += real[a] * real[b] - imaginary[a] * imaginary[b];
                imaginary[c] += real[a] * imaginary[b] + imaginary[a] * real[b];
                int carry = Integer.numberOfTrailingZeros(turn);
                a += movesFirst[carry];
                b += movesSecond[carry];
                c += movesMade[carry];
            }
            starts[first] = start;
            bonds[first] = kept;
        }

        /** Moves[k]: how far a position goes when bit k of the count becomes 1 and all below it 0. */
        private static void findMoves(int[] moves, int both, int own) {
            int k = 0;
            int weight = 1;
            int below = 0;
            for (int name = 0; name < NAMES; name++) {
                if (isIn(name, both)) {
                    int gain = isIn(name, own) ? weight : 0;
                    moves[k] = gain - below;
                    below += gain;
                    weight += gain;
                    k++;
                }
            }
            moves[k] = -below;
        }

        private long resultReal() {
            return real[starts[0]];
        }

        private long resultImaginary() {
            return imaginary[starts[0]];
        }
    }
}
