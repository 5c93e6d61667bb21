import java.util.ArrayList;
import java.util.HashMap;
import java.util.List;
import java.util.Map;
import java.util.TreeMap;

/** The document's words as plainly as can be, with no thought of speed; it shares no code. */
final class Reference {
    static final int NONE = -1;

    private static final class Thing {
        final int number;
        final List<Integer> tensors = new ArrayList<>();

        Thing(int number) {
            this.number = number;
        }
    }

    private static final class Best {
        int legs;
        long cost;
        int first;
    }

    private final List<int[]> names = new ArrayList<>();
    private final List<long[][]> entries = new ArrayList<>();

    int tensor(int places) {
        if (places < 0 || places > 6 || names.size() == 10) {
            return NONE;
        }
        int[] row = new int[places];
        java.util.Arrays.fill(row, NONE);
        names.add(row);
        entries.add(new long[1 << places][2]);
        return names.size() - 1;
    }

    boolean leg(int tensor, int place, int name) {
        if (tensor < 0 || tensor >= names.size() || place < 0 || place >= names.get(tensor).length
                || name < -1 || name > 19) {
            return false;
        }
        int others = 0;
        for (int t = 0; t < names.size(); t++) {
            for (int p = 0; p < names.get(t).length; p++) {
                if ((t != tensor || p != place) && names.get(t)[p] == name) {
                    others++;
                }
            }
        }
        if (name != NONE && others >= 2) {
            return false;
        }
        names.get(tensor)[place] = name;
        return true;
    }

    boolean put(int tensor, int index, int real, int imaginary) {
        if (tensor < 0 || tensor >= names.size() || index < 0 || index >= entries.get(tensor).length
                || real < -9 || real > 9 || imaginary < -9 || imaginary > 9) {
            return false;
        }
        entries.get(tensor)[index] = new long[] {real, imaginary};
        return true;
    }

    void clear() {
        names.clear();
        entries.clear();
    }

    private boolean ready() {
        return !names.isEmpty() && total(2) == 0;
    }

    /** How often each name is in these tensors, less the places with names that are cut. */
    private Map<Integer, Integer> uses(int set, int cut) {
        Map<Integer, Integer> uses = new TreeMap<>();
        for (int t = 0; t < names.size(); t++) {
            for (int name : names.get(t)) {
                if ((set >> t & 1) == 1 && name != NONE && (cut >> name & 1) == 0) {
                    uses.merge(name, 1, Integer::sum);
                }
            }
        }
        return uses;
    }

    private int withUses(int set, int cut, int times) {
        int found = 0;
        for (Map.Entry<Integer, Integer> use : uses(set, cut).entrySet()) {
            if (use.getValue() == times) {
                found |= 1 << use.getKey();
            }
        }
        return found;
    }

    private int all() {
        return (1 << names.size()) - 1;
    }

    int open() {
        return ready() ? withUses(all(), 0, 1) : NONE;
    }

    int total(int what) {
        int places = 0;
        int bare = 0;
        for (int[] row : names) {
            for (int name : row) {
                places++;
                bare += name == NONE ? 1 : 0;
            }
        }
        int[] totals = {names.size(), places, bare, bare == 0 ? withUses(all(), 0, 2) : 0};
        return what < 0 || what > 3 ? NONE : totals[what];
    }

    // ---- orders

    private Best best(int set, int cut, Map<Integer, Best> known) {
        if (known.containsKey(set)) {
            return known.get(set);
        }
        Best best = new Best();
        best.legs = withUses(set, cut, 1);
        if (Integer.bitCount(set) > 1) {
            best.cost = Long.MAX_VALUE;
            for (int first = set - 1; first > 0; first--) {
                if ((first & set) == first && (first & Integer.lowestOneBit(set)) != 0) {
                    Best one = best(first, cut, known);
                    Best other = best(set - first, cut, known);
                    long cost = one.cost + other.cost + (1L << Integer.bitCount(one.legs | other.legs));
                    if (cost <= best.cost) {
                        best.cost = cost;
                        best.first = first;
                    }
                }
            }
        }
        known.put(set, best);
        return best;
    }

    private void steps(int set, Map<Integer, Best> known, List<int[]> into) {
        if (Integer.bitCount(set) > 1) {
            int first = known.get(set).first;
            steps(first, known, into);
            steps(set - first, known, into);
            into.add(new int[] {first, set - first});
        }
    }

    private List<int[]> steps(int cut) {
        Map<Integer, Best> known = new HashMap<>();
        best(all(), cut, known);
        List<int[]> steps = new ArrayList<>();
        steps(all(), known, steps);
        return steps;
    }

    private int peak(int cut) {
        int peak = 0;
        for (int t = 0; t < names.size(); t++) {
            peak = Math.max(peak, Integer.bitCount(withUses(1 << t, cut, 1)));
        }
        for (int[] step : steps(cut)) {
            peak = Math.max(peak, Integer.bitCount(withUses(step[0] + step[1], cut, 1)));
        }
        return peak;
    }

    int cost() {
        return ready() ? (int) best(all(), 0, new HashMap<>()).cost : NONE;
    }

    int peak() {
        return ready() ? peak(0) : NONE;
    }

    int step(int i, int side) {
        if (!ready() || side < 0 || side > 1) {
            return NONE;
        }
        List<int[]> steps = steps(0);
        return i < 0 || i >= steps.size() ? NONE : steps.get(i)[side];
    }

    int costOf(int cut) {
        if (!ready() || (cut & ~total(3)) != 0) {
            return NONE;
        }
        return (int) (best(all(), cut, new HashMap<>()).cost * (1L << Integer.bitCount(cut)));
    }

    int cut(int most) {
        if (!ready() || most < 0) {
            return NONE;
        }
        int shared = total(3);
        for (int size = 0; size <= 2; size++) {
            for (int cut = 0; cut < 1 << 20; cut++) {
                if (Integer.bitCount(cut) == size && (cut & ~shared) == 0 && peak(cut) <= most) {
                    return cut;
                }
            }
        }
        return NONE;
    }

    int greedy(int what) {
        if (!ready()) {
            return NONE;
        }
        List<Thing> things = new ArrayList<>();
        for (int t = 0; t < names.size(); t++) {
            Thing thing = new Thing(t);
            thing.tensors.add(t);
            things.add(thing);
        }
        List<int[]> turns = new ArrayList<>();
        long costs = 0;
        for (int next = names.size(); things.size() > 1; next++) {
            Thing[] two = chosen(things);
            costs += 1L << Integer.bitCount(legs(two[0].tensors) | legs(two[1].tensors));
            turns.add(new int[] {two[0].number, two[1].number});
            Thing made = new Thing(next);
            made.tensors.addAll(two[0].tensors);
            made.tensors.addAll(two[1].tensors);
            things.remove(two[0]);
            things.remove(two[1]);
            things.add(made);
        }
        if (what == NONE) {
            return (int) costs;
        }
        int turn = what >= 100 ? what - 100 : what;
        return turn < 0 || turn >= turns.size() ? NONE : turns.get(turn)[what >= 100 ? 1 : 0];
    }

    private int legs(List<Integer> tensors) {
        int set = 0;
        for (int t : tensors) {
            set |= 1 << t;
        }
        return withUses(set, 0, 1);
    }

    private Thing[] chosen(List<Thing> things) {
        Thing[] two = null;
        long least = 0;
        for (int i = 0; i < things.size(); i++) {
            for (int j = i + 1; j < things.size(); j++) {
                List<Integer> both = new ArrayList<>(things.get(i).tensors);
                both.addAll(things.get(j).tensors);
                long growth = (1L << Integer.bitCount(legs(both)))
                        - (1L << Integer.bitCount(legs(things.get(i).tensors)))
                        - (1L << Integer.bitCount(legs(things.get(j).tensors)));
                if (two == null || growth < least) {
                    least = growth;
                    two = new Thing[] {things.get(i), things.get(j)};
                }
            }
        }
        return two;
    }

    // ---- values

    private boolean known(int open, int part) {
        return ready() && part >= 0 && part <= 1 && open >= 0
                && open < 1L << Integer.bitCount(withUses(all(), 0, 1));
    }

    long value(int open, int part) {
        if (!known(open, part)) {
            return Check.NO_SUCH;
        }
        return peak(0) > 12 ? Check.ARITHMETIC : sum(open)[part];
    }

    long slope(int tensor, int index, int open, int part) {
        if (!known(open, part) || tensor < 0 || tensor >= names.size() || index < 0
                || index >= entries.get(tensor).length) {
            return Check.NO_SUCH;
        }
        if (peak(0) > 12) {
            return Check.ARITHMETIC;
        }
        long before = sum(open)[part];
        entries.get(tensor)[index][0]++;
        long after = sum(open)[part];
        entries.get(tensor)[index][0]--;
        return after - before;
    }

    private long[] sum(int open) {
        int[] values = new int[20];
        int bit = 0;
        List<Integer> shared = new ArrayList<>();
        for (Map.Entry<Integer, Integer> use : uses(all(), 0).entrySet()) {
            if (use.getValue() == 1) {
                values[use.getKey()] = open >> bit & 1;
                bit++;
            } else {
                shared.add(use.getKey());
            }
        }
        long[] sum = new long[2];
        for (int turn = 0; turn < 1 << shared.size(); turn++) {
            for (int i = 0; i < shared.size(); i++) {
                values[shared.get(i)] = turn >> i & 1;
            }
            long[] product = product(values);
            sum[0] += product[0];
            sum[1] += product[1];
        }
        return sum;
    }

    private long[] product(int[] values) {
        long real = 1;
        long imaginary = 0;
        for (int t = 0; t < names.size(); t++) {
            int index = 0;
            for (int place = 0; place < names.get(t).length; place++) {
                index += values[names.get(t)[place]] << place;
            }
            long[] entry = entries.get(t)[index];
            long newReal = real * entry[0] - imaginary * entry[1];
            imaginary = real * entry[1] + imaginary * entry[0];
            real = newReal;
        }
        return new long[] {real, imaginary};
    }
}
