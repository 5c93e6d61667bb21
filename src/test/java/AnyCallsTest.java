import java.util.NoSuchElementException;
import java.util.Random;

/** Runs of 512 calls with any arguments: nothing but the document's exceptions, refusals change nothing. */
public final class AnyCallsTest {
    private static final int[] ODD = {Integer.MIN_VALUE, Integer.MIN_VALUE + 1, -101, -100, -10, -9, -2, -1, 0, 1,
        2, 3, 5, 6, 7, 9, 10, 11, 19, 20, 31, 32, 33, 63, 64, 65, 99, 100, 101, 108, 109, 110, 1023, 1024, 4095,
        4096, (1 << 20) - 1, 1 << 20, 1 << 30, Integer.MAX_VALUE - 1, Integer.MAX_VALUE};
    private static final Random RANDOM = new Random(512);

    public static void main(String[] args) {
        for (int run = 0; run < 300; run++) {
            NetworkOrders x = new NetworkOrders();
            for (int call = 0; call < 512; call++) {
                try {
                    anyCall(x, RANDOM.nextInt(24), run % 3 == 0);
                } catch (RuntimeException e) {
                    Check.due("run " + run + " call " + call + " threw " + e, 1, 0);
                }
            }
        }
        refusalsChangeNothing();
        Check.end();
    }

    /** Mostly a number near the one that is right, so that networks become ready. */
    private static int some(int below, boolean odd) {
        return RANDOM.nextInt(odd ? 4 : 20) == 0 ? ODD[RANDOM.nextInt(ODD.length)] : RANDOM.nextInt(below);
    }

    private static void anyCall(NetworkOrders x, int kind, boolean odd) {
        if (kind == 0) {
            x.tensor(some(7, odd));
        } else if (kind == 1 && RANDOM.nextInt(8) == 0) {
            x.clear();
        } else if (kind < 10) {
            x.leg(some(10, odd), some(6, odd), some(20, odd));
        } else if (kind < 12) {
            x.put(some(10, odd), some(64, odd), some(10, odd), some(10, odd));
        } else if (kind == 12) {
            if (x.total(2) > 0) {
                nameBarePlaces(x);
            }
        } else {
            ask(x, kind, odd);
        }
    }

    private static void nameBarePlaces(NetworkOrders x) {
        for (int t = 0; t < x.total(0); t++) {
            for (int p = 0; p < 6; p++) {
                for (int tries = 0; tries < 4 && x.total(2) > 0; tries++) {
                    x.leg(t, p, RANDOM.nextInt(20));
                }
            }
        }
    }

    private static void ask(NetworkOrders x, int kind, boolean odd) {
        switch (kind) {
            case 13: x.open(); break;
            case 14: x.cost(); break;
            case 15: x.peak(); break;
            case 16: x.step(some(9, odd), some(2, odd)); break;
            case 17: x.greedy(some(9, odd)); break;
            case 18: x.greedy(100 + some(9, odd)); break;
            case 19: x.cut(some(7, odd)); break;
            case 20: x.costOf(some(1 << 20, odd) & x.total(3)); break;
            case 21: x.total(some(4, odd)); break;
            case 22: value(x, some(8, odd), some(2, odd)); break;
            default: slope(x, some(10, odd), some(16, odd), some(8, odd), some(2, odd)); break;
        }
    }

    private static void value(NetworkOrders x, int open, int part) {
        boolean known = known(x, open, part);
        try {
            x.value(open, part);
            Check.due("value answers", known && x.peak() <= 12, true);
        } catch (NoSuchElementException e) {
            Check.due("value finds nothing", known, false);
        } catch (ArithmeticException e) {
            Check.due("value is too large", known && x.peak() > 12, true);
        }
    }

    private static void slope(NetworkOrders x, int tensor, int index, int open, int part) {
        boolean known = known(x, open, part);
        try {
            x.slope(tensor, index, open, part);
            Check.due("slope answers", known && x.peak() <= 12 && tensor < x.total(0) && index < 64, true);
        } catch (NoSuchElementException e) {
            Check.due("slope finds nothing", known && index == 0 && tensor >= 0 && tensor < x.total(0), false);
        } catch (ArithmeticException e) {
            Check.due("slope is too large", known && x.peak() > 12, true);
        }
    }

    private static boolean known(NetworkOrders x, int open, int part) {
        return x.open() != -1 && (part == 0 || part == 1) && open >= 0 && open < 1 << Integer.bitCount(x.open());
    }

    /** All that can be seen of a small network, as one text. */
    private static String look(NetworkOrders x) {
        StringBuilder seen = new StringBuilder();
        for (int i = 0; i < 4; i++) {
            seen.append(x.total(i)).append(' ').append(x.greedy(i)).append(' ').append(x.step(i, 0)).append(' ');
        }
        for (int open = 0; open < 1 << Integer.bitCount(x.open()); open++) {
            seen.append(x.value(open, 0)).append(' ').append(x.value(open, 1)).append(' ');
        }
        return seen.append(x.open()).append(' ').append(x.cost()).append(' ').append(x.cut(1)).toString();
    }

    private static void refusalsChangeNothing() {
        NetworkOrders x = new NetworkOrders();
        x.tensor(2);
        x.tensor(3);
        int[][] legs = {{0, 0, 3}, {0, 1, 5}, {1, 0, 5}, {1, 1, 19}, {1, 2, 3}};
        for (int[] leg : legs) {
            x.leg(leg[0], leg[1], leg[2]);
        }
        for (int i = 0; i < 8; i++) {
            x.put(0, i, i + 1, -i);
            x.put(1, i, 3 - i, i);
        }
        String before = look(x);
        for (int odd : ODD) {
            if (odd < 0 || odd > 6) {
                Check.due("tensor refused", x.tensor(odd), -1);
            }
            if (odd < -1 || odd > 19) {
                Check.due("name refused", x.leg(0, 0, odd), false);
            }
            if (odd < 0 || odd > 2) {
                Check.due("place refused", x.leg(1, odd, 7), false);
                Check.due("tensor of a leg refused", x.leg(odd, 0, 7), false);
                Check.due("tensor of an entry refused", x.put(odd, 0, 7, 7), false);
            }
            if (odd < 0 || odd > 7) {
                Check.due("index refused", x.put(1, odd, 7, 7), false);
            }
            if (odd < -9 || odd > 9) {
                Check.due("real refused", x.put(1, 0, odd, 7), false);
                Check.due("imaginary refused", x.put(1, 0, 7, odd), false);
            }
        }
        Check.due("third place of a name refused", x.leg(1, 1, 3), false);
        Check.due("nothing changed", look(x).equals(before), true);
    }
}
