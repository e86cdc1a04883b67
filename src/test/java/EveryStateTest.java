import java.util.ArrayList;
import java.util.Arrays;
import java.util.BitSet;
import java.util.HashMap;
import java.util.List;
import java.util.Map;
import java.util.TreeMap;

/**
 * FEWEST, TOTAL, NEXT, AT ONCE, WITH A LIE of every GOAL, in every state that can be known of up to four THINGS, and
 * in every seventh of five (in all, if it is called with 1), against strategies found once for all states.
 */
public final class EveryStateTest extends Due {
    private static final int MOST_ORDERS = 120;
    private static final int LIAR_ORDERS = 6;

    private final int n;
    private final boolean twins;
    private final List<int[]> orders = new ArrayList<>();
    private final List<int[]> pairs = new ArrayList<>();
    /** For each pair the ORDERS by which the balance says 0, 1, 2. */
    private final List<BitSet[]> saying = new ArrayList<>();
    /** What can be LEFT, and the tellings by which it is. */
    private final Map<BitSet, String> states = new HashMap<>();
    private final List<BitSet> found = new ArrayList<>();
    private int[] values;
    private Map<BitSet, int[]> worst;
    private Map<BitSet, int[]> sums;

    private EveryStateTest(int n, boolean twins) {
        this.n = n;
        this.twins = twins;
        TreeMap<String, int[]> sorted = new TreeMap<>();
        for (int tuple = 0; tuple < Math.pow(Math.max(n, 1), n); tuple++) {
            int[] order = orderOf(tuple);
            if (twins || Arrays.stream(order).distinct().count() == n) {
                sorted.put(Arrays.toString(order), order);
            }
        }
        orders.addAll(sorted.values());
        for (int a = 0; a < n; a++) {
            for (int b = a + 1; b < n; b++) {
                pairs.add(new int[] {a, b});
                BitSet[] by = {new BitSet(), new BitSet(), new BitSet()};
                for (int i = 0; i < orders.size(); i++) {
                    by[said(orders.get(i), a, b)].set(i);
                }
                saying.add(by);
            }
        }
        findStates();
    }

    /** The PLACES of THINGS whose weights are the digits of a number. */
    private int[] orderOf(int tuple) {
        int[] digits = new int[n];
        for (int i = 0; i < n; i++) {
            digits[i] = tuple % n;
            tuple /= n;
        }
        int[] order = new int[n];
        for (int i = 0; i < n; i++) {
            for (int digit : digits) {
                order[i] += digit > digits[i] ? 1 : 0;
            }
        }
        return order;
    }

    private static int said(int[] order, int a, int b) {
        return order[a] < order[b] ? 1 : order[a] > order[b] ? 2 : 0;
    }

    private void findStates() {
        BitSet all = new BitSet();
        all.set(0, orders.size());
        keep(all, "");
        for (int i = 0; i < found.size(); i++) {
            for (int pair = 0; pair < pairs.size(); pair++) {
                for (int said = 0; said < 3; said++) {
                    int[] two = pairs.get(pair);
                    String telling = " " + (char) ('a' + two[0]) + "=><".charAt(said) + (char) ('a' + two[1]);
                    keep(part(found.get(i), pair, said), states.get(found.get(i)) + telling);
                }
            }
        }
    }

    private void keep(BitSet state, String tellings) {
        if (states.putIfAbsent(state, tellings) == null) {
            found.add(state);
        }
    }

    private BitSet part(BitSet state, int pair, int said) {
        BitSet part = (BitSet) state.clone();
        part.and(saying.get(pair)[said]);
        return part;
    }

    private int valueOf(int[] order, int goal, int p) {
        int value = 0;
        for (int thing = 0; thing < n; thing++) {
            value = goal == 0 ? 10 * value + order[thing] : value + (order[thing] == p ? 1 << thing : 0);
        }
        return goal == 2 ? order[p] : value;
    }

    private boolean isKnown(BitSet state) {
        return state.stream().map(i -> values[i]).distinct().count() <= 1;
    }

    /** What is needed, in the worst case or by all together, and the first two to begin with. */
    private int[] best(BitSet state, boolean sum) {
        if (isKnown(state)) {
            return new int[] {0, NONE};
        }
        Map<BitSet, int[]> memory = sum ? sums : worst;
        int[] best = memory.get(state);
        if (best != null) {
            return best;
        }
        best = new int[] {FAR, NONE};
        for (int pair = 0; pair < pairs.size(); pair++) {
            int most = 0;
            int together = state.cardinality();
            boolean parts = true;
            for (int said = 0; said < 3 && parts; said++) {
                BitSet part = part(state, pair, said);
                parts = !part.equals(state);
                int needed = parts ? best(part, sum)[0] : 0;
                most = Math.max(most, needed);
                together += needed;
            }
            int needed = sum ? together : most + 1;
            if (parts && needed < best[0]) {
                best = new int[] {needed, 10 * pairs.get(pair)[0] + pairs.get(pair)[1]};
            }
        }
        memory.put(state, best);
        return best;
    }

    private int atOnce(BitSet state) {
        int best = NONE;
        for (int set = 0; set < 1 << pairs.size(); set++) {
            boolean fewer = best == NONE || Integer.bitCount(set) < Integer.bitCount(best);
            if (fewer && isEnough(state, set)) {
                best = set;
            }
        }
        return best;
    }

    private boolean isEnough(BitSet state, int set) {
        Map<Integer, Integer> known = new HashMap<>();
        for (int i = state.nextSetBit(0); i >= 0; i = state.nextSetBit(i + 1)) {
            int answers = 0;
            for (int pair = 0; pair < pairs.size(); pair++) {
                int[] two = pairs.get(pair);
                answers = 3 * answers + ((set >> pair & 1) == 1 ? said(orders.get(i), two[0], two[1]) : 0);
            }
            Integer other = known.put(answers, values[i]);
            if (other != null && other != values[i]) {
                return false;
            }
        }
        return true;
    }

    /** Of each ORDER how many answers were not so by it: with two of them it is out. */
    private int withALie(int[] left, String lies, Map<String, Integer> memory) {
        BitSet can = new BitSet();
        for (int i = 0; i < left.length; i++) {
            can.set(left[i], lies.charAt(i) < '2');
        }
        if (isKnown(can)) {
            return 0;
        }
        Integer known = memory.get(lies);
        if (known != null) {
            return known;
        }
        int best = 99;
        for (int[] two : pairs) {
            int most = 0;
            for (int said = 0; said < 3; said++) {
                StringBuilder then = new StringBuilder(lies);
                for (int i = 0; i < left.length; i++) {
                    boolean lie = said(orders.get(left[i]), two[0], two[1]) != said && lies.charAt(i) < '2';
                    then.setCharAt(i, (char) (lies.charAt(i) + (lie ? 1 : 0)));
                }
                most = Math.max(most, then.toString().equals(lies) ? 99 : withALie(left, then.toString(), memory));
            }
            best = Math.min(best, most + 1);
        }
        memory.put(lies, best);
        return best;
    }

    private int trusty(BitSet state) {
        if (state.cardinality() > LIAR_ORDERS) {
            return -2;
        }
        int[] left = state.stream().toArray();
        int needed = withALie(left, "0".repeat(left.length), new HashMap<>());
        return needed > 12 ? -2 : needed;
    }

    private void check(BitSet state, int goal, int p, int turn) {
        HeavierRow x = town((twins ? "twins;" : "") + FIVE.substring(0, FIVE.length() / 5 * n));
        tell(x, states.get(state));
        sentence(n + (twins ? " twins" : "") + states.get(state) + ", goal " + goal + " " + p);
        boolean spent = state.cardinality() > MOST_ORDERS;
        int[] least = spent ? new int[] {-2, -2} : best(state, false);
        int[] whole = spent ? least : best(state, true);
        for (int call = 0; call < 4; call++) {
            int which = turn % 2 == 0 ? call : 3 - call;
            if (which < 2) {
                due("total " + which, x.total(goal, p, which, 0), whole[which]);
            } else {
                due(which == 2 ? "fewest" : "next", which == 2 ? x.fewest(goal, p, 0) : x.next(goal, p, 0), least[which - 2]);
            }
        }
        due("trusty", x.trusty(goal, p, 0), trusty(state));
        if (turn % 3 == 0 || n < 5) {
            due("at once", x.atOnce(goal, p, 0), spent ? -2 : atOnce(state));
        }
    }

    private void run(int goal, int p, int step) {
        values = orders.stream().mapToInt(order -> valueOf(order, goal, p)).toArray();
        worst = new HashMap<>();
        sums = new HashMap<>();
        for (int i = 0; i < found.size(); i += n < 5 ? 1 : step) {
            check(found.get(i), goal, p, i);
        }
    }

    public static void main(String[] args) {
        int step = args.length > 0 ? Integer.parseInt(args[0]) : 7;
        for (int n = 0; n <= 5; n++) {
            for (int twins = 0; twins < 2; twins++) {
                EveryStateTest test = new EveryStateTest(n, twins == 1);
                test.run(0, 0, step);
                for (int p = 0; p < 5; p++) {
                    test.run(1, p, step);
                    if (p < n) {
                        test.run(2, p, step);
                    }
                }
            }
        }
        finish("EveryStateTest");
    }
}
