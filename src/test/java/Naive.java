import java.util.ArrayList;
import java.util.Arrays;
import java.util.Collections;
import java.util.HashMap;
import java.util.HashSet;
import java.util.List;
import java.util.Map;
import java.util.Set;
import java.util.TreeMap;
import java.util.TreeSet;

/** The document once more, in the plainest way, with the Java library: what FuzzTest compares with. */
final class Naive {
    static final int NONE = -1;

    static final class Fault extends RuntimeException {
        final int what;
        final int place;
        Fault(int what, int place) {
            super(null, null, false, false);
            this.what = what;
            this.place = place;
        }
    }

    record Token(String text, int place, boolean good) { }

    static final class Part {
        int first, second;
        Part down, up, even;
    }

    static final class Text {
        List<String> names = new ArrayList<>();
        List<Integer> weights = new ArrayList<>();
        boolean twins;
        int sticks;
        List<Integer> row = new ArrayList<>();
        List<String> planNames = new ArrayList<>();
        List<Part> plans = new ArrayList<>();
        int twos;
        int n() {
            return names.size();
        }
    }

    static final Set<String> OWN = Set.of("thing", "weighs", "twins", "sticks", "row", "plan", "done");

    static List<Token> tokens(String s) {
        List<Token> list = new ArrayList<>();
        int i = 0;
        while (i < s.length()) {
            char c = s.charAt(i);
            if (c == ' ' || c == '\n') {
                i++;
                continue;
            }
            int j = i + 1;
            boolean good;
            if (c >= 'a' && c <= 'z') {
                while (j < s.length() && s.charAt(j) >= 'a' && s.charAt(j) <= 'z') {
                    j++;
                }
                good = j - i <= 8;
            } else if (c >= '0' && c <= '9') {
                while (j < s.length() && s.charAt(j) >= '0' && s.charAt(j) <= '9') {
                    j++;
                }
                good = j - i <= 4 && !(j < s.length() && s.charAt(j) >= 'a' && s.charAt(j) <= 'z');
            } else {
                good = ";()/".indexOf(c) >= 0;
            }
            list.add(new Token(s.substring(i, j), i, good));
            i = j;
        }
        list.add(new Token("", s.length(), true));
        return list;
    }

    static final class Parser {
        final List<Token> list;
        int at = 0;
        final Text text = new Text();
        boolean sticksTold;
        boolean rowTold;

        Parser(String s) {
            list = tokens(s);
        }

        Token look() {
            Token t = list.get(at);
            if (!t.good()) {
                throw new Fault(1, t.place());
            }
            return t;
        }

        Token take() {
            Token t = look();
            at++;
            return t;
        }

        void need(String word) {
            Token t = look();
            if (!t.text().equals(word)) {
                throw new Fault(2, t.place());
            }
            at++;
        }

        boolean nameAhead() {
            Token t = list.get(at);
            return t.good() && t.text().matches("[a-z]+") && !OWN.contains(t.text());
        }

        Token name() {
            Token t = look();
            if (!nameAhead()) {
                throw new Fault(2, t.place());
            }
            at++;
            return t;
        }

        int number(int least, int most) {
            Token t = look();
            if (!t.text().matches("[0-9]+")) {
                throw new Fault(2, t.place());
            }
            int v = Integer.parseInt(t.text());
            if (v < least || v > most) {
                throw new Fault(4, t.place());
            }
            at++;
            return v;
        }

        Text parse() {
            while (!look().text().isEmpty()) {
                Token line = take();
                boolean many = switch (line.text()) {
                    case "thing" -> text.n() == 5;
                    case "twins" -> text.twins;
                    case "sticks" -> sticksTold;
                    case "row" -> rowTold;
                    case "plan" -> text.plans.size() == 3;
                    default -> true;
                };
                if (many) {
                    throw new Fault(2, line.place());
                }
                line(line.text());
                need(";");
            }
            for (int i = 0; i < text.n(); i++) {
                if (!text.row.contains(i)) {
                    text.row.add(i);
                }
            }
            return text;
        }

        void line(String sort) {
            if (sort.equals("thing")) {
                Token name = name();
                if (text.names.contains(name.text())) {
                    throw new Fault(3, name.place());
                }
                need("weighs");
                text.weights.add(number(1, 999));
                text.names.add(name.text());
            } else if (sort.equals("twins")) {
                text.twins = true;
            } else if (sort.equals("sticks")) {
                text.sticks = number(0, 99);
                sticksTold = true;
            } else if (sort.equals("row")) {
                rowTold = true;
                do {
                    Token name = name();
                    int thing = text.names.indexOf(name.text());
                    if (thing < 0) {
                        throw new Fault(5, name.place());
                    }
                    if (text.row.contains(thing)) {
                        throw new Fault(3, name.place());
                    }
                    text.row.add(thing);
                } while (!look().text().equals(";"));
            } else {
                Token name = name();
                if (text.planNames.contains(name.text())) {
                    throw new Fault(3, name.place());
                }
                text.plans.add(part(0));
                text.planNames.add(name.text());
            }
        }

        Part part(int within) {
            Token t = look();
            if (within > 10) {
                throw new Fault(2, t.place());
            }
            if (t.text().equals("done")) {
                at++;
                return null;
            }
            if (nameAhead() && text.twos == 60) {
                throw new Fault(2, t.place());
            }
            Token a = name();
            if (!text.names.contains(a.text())) {
                throw new Fault(5, a.place());
            }
            Token b = name();
            if (b.text().equals(a.text())) {
                throw new Fault(3, b.place());
            }
            if (!text.names.contains(b.text())) {
                throw new Fault(5, b.place());
            }
            Part p = new Part();
            p.first = text.names.indexOf(a.text());
            p.second = text.names.indexOf(b.text());
            text.twos++;
            need("(");
            p.down = part(within + 1);
            need("/");
            p.up = part(within + 1);
            if (look().text().equals("/")) {
                at++;
                p.even = part(within + 1);
            }
            need(")");
            return p;
        }
    }

    record Weighing(int first, int second, int said, int toldAt, int order, int untoldAt) { }

    static final class State implements Cloneable {
        List<Weighing> weighings = new ArrayList<>();
        List<int[]> wet = new ArrayList<>();
        int[] hidden = new int[0];
        int seed, time, calls;
        State copy() {
            State s = new State();
            s.weighings.addAll(weighings);
            s.wet.addAll(wet);
            s.hidden = hidden.clone();
            s.seed = seed;
            s.time = time;
            s.calls = calls;
            return s;
        }
    }

    StringBuilder tape = new StringBuilder();
    Text text = new Text();
    int faultWhat = 0, faultPlace = NONE;
    State state = new State();
    State[] boxes = new State[3];
    List<Integer> shelf = new ArrayList<>();
    List<int[]> all;

    Naive() {
        all = allOrders();
    }

    int n() {
        return text.n();
    }

    int feed(int a, int b, int c, int d, int e) {
        if (tape.length() + 20 > 1200) {
            return NONE;
        }
        for (int x : new int[] {a, b, c, d, e}) {
            tape.append((char) (x >>> 24)).append((char) (x >> 16 & 255));
            tape.append((char) (x >> 8 & 255)).append((char) (x & 255));
        }
        return tape.length();
    }

    int end(int n) {
        if (n < 0 || n > tape.length()) {
            return NONE;
        }
        tape.setLength(n);
        return n;
    }

    int street() {
        String s = tape.toString();
        tape.setLength(0);
        try {
            text = new Parser(s).parse();
            faultWhat = 0;
            faultPlace = NONE;
        } catch (Fault f) {
            faultWhat = f.what;
            faultPlace = f.place;
            return NONE;
        }
        int time = state.time;
        state = new State();
        state.time = time;
        state.hidden = text.weights.stream().mapToInt(x -> x).toArray();
        shelf.clear();
        Arrays.fill(boxes, null);
        all = allOrders();
        return n();
    }

    int fault(int what) {
        return what == 0 ? faultWhat : what == 1 ? faultPlace : NONE;
    }

    boolean heaps(int f, int s) {
        int full = (1 << n()) - 1;
        return f != 0 && s != 0 && (f & s) == 0 && (f & ~full) == 0 && (s & ~full) == 0;
    }

    static int sum(int bits, int[] w) {
        int sum = 0;
        for (int i = 0; i < w.length; i++) {
            sum += (bits >> i & 1) * w[i];
        }
        return sum;
    }

    int says(int f, int s, int[] w) {
        int d = sum(f, w) - sum(s, w);
        return Math.abs(d) <= text.sticks ? 0 : d > 0 ? 1 : 2;
    }

    int weigh(int f, int s) {
        if (!heaps(f, s)) {
            return NONE;
        }
        int said = says(f, s, state.hidden);
        return told(f, s, said) == NONE ? NONE : said;
    }

    int told(int f, int s, int said) {
        if (!heaps(f, s) || said < 0 || said > 2 || state.weighings.size() == 60) {
            return NONE;
        }
        state.weighings.add(new Weighing(f, s, said, state.time, state.calls++, -1));
        return state.weighings.size() - 1;
    }

    int weighing(int w, int what) {
        if (w < 0 || w >= state.weighings.size() || what < 0 || what > 3) {
            return NONE;
        }
        Weighing x = state.weighings.get(w);
        return new int[] {x.first, x.second, x.said, x.untoldAt >= 0 ? 1 : 0}[what];
    }

    int wet() {
        if (n() < 2 || state.wet.size() == 40) {
            return NONE;
        }
        state.seed = (state.seed * 137 + 71) % 1000;
        int d = state.seed % (n() - 1);
        List<Integer> row = new ArrayList<>();
        for (int i = 0; i < n(); i++) {
            row.add(i);
        }
        row.sort((x, y) -> state.hidden[x] != state.hidden[y] ? state.hidden[y] - state.hidden[x] : x - y);
        int x = row.get(d);
        int y = row.get(d + 1);
        int w = state.hidden[x];
        state.hidden[x] = state.hidden[y];
        state.hidden[y] = w;
        state.wet.add(new int[] {state.time, state.calls++});
        return d;
    }

    boolean untell(int w) {
        if (w < 0 || w >= state.weighings.size() || state.weighings.get(w).untoldAt >= 0) {
            return false;
        }
        Weighing x = state.weighings.get(w);
        state.weighings.set(w, new Weighing(x.first, x.second, x.said, x.toldAt, x.order, state.time));
        return true;
    }

    int later(int by) {
        if (by < 0 || by > 1000 || state.time + by > 100000) {
            return NONE;
        }
        return state.time += by;
    }

    List<Weighing> counting(int k, boolean single) {
        List<Weighing> list = new ArrayList<>();
        for (Weighing w : state.weighings) {
            boolean counts = w.toldAt <= k && !(w.untoldAt >= 0 && w.untoldAt <= k);
            for (int[] day : state.wet) {
                counts &= !(day[1] > w.order && k >= day[0]);
            }
            if (single) {
                counts &= Integer.bitCount(w.first) == 1 && Integer.bitCount(w.second) == 1;
            }
            if (counts) {
                list.add(w);
            }
        }
        return list;
    }

    /** All orders are ranks of some weights: tuples of 0 .. n - 1. */
    List<int[]> allOrders() {
        int n = n();
        TreeSet<List<Integer>> set = new TreeSet<>((x, y) -> {
            for (int i = 0; i < x.size(); i++) {
                if (!x.get(i).equals(y.get(i))) {
                    return x.get(i) - y.get(i);
                }
            }
            return 0;
        });
        int tuples = (int) Math.round(Math.pow(n, n));
        for (int t = 0; t < tuples; t++) {
            int[] w = new int[n];
            int rest = t;
            for (int i = 0; i < n; i++) {
                w[i] = rest % n;
                rest /= n;
            }
            List<Integer> places = new ArrayList<>();
            for (int i = 0; i < n; i++) {
                int heavier = 0;
                for (int j = 0; j < n; j++) {
                    heavier += w[j] > w[i] ? 1 : 0;
                }
                places.add(heavier);
            }
            if (text.twins || new HashSet<>(places).size() == n) {
                set.add(places);
            }
        }
        List<int[]> list = new ArrayList<>();
        for (List<Integer> p : set) {
            list.add(p.stream().mapToInt(x -> x).toArray());
        }
        return list;
    }

    static int said(int[] o, int a, int b) {
        return o[a] < o[b] ? 1 : o[a] > o[b] ? 2 : 0;
    }

    static int thing(int heap) {
        return Integer.numberOfTrailingZeros(heap);
    }

    int misses(int[] o, int k) {
        int m = 0;
        for (Weighing w : counting(k, true)) {
            m += said(o, thing(w.first), thing(w.second)) != w.said ? 1 : 0;
        }
        return m;
    }

    List<int[]> leftOrders(int lies, int k) {
        List<int[]> list = new ArrayList<>();
        for (int[] o : all) {
            if (misses(o, k) <= lies) {
                list.add(o);
            }
        }
        return list;
    }

    void shelve(int[] row) {
        shelf.clear();
        for (int x : row) {
            shelf.add(x);
        }
    }

    int left(int lies, int k) {
        shelf.clear();
        if (lies < 0 || lies > 60) {
            return NONE;
        }
        List<int[]> l = leftOrders(lies, k);
        if (!l.isEmpty()) {
            shelve(l.get(0));
        }
        return l.size();
    }

    int struck(int k) {
        int best = Integer.MAX_VALUE;
        for (int[] o : all) {
            if (misses(o, k) < best) {
                best = misses(o, k);
                shelve(o);
            }
        }
        return best;
    }

    boolean thingOk(int t) {
        return t >= 0 && t < n();
    }

    int place(int t, boolean most, int k) {
        List<int[]> l = leftOrders(0, k);
        if (!thingOk(t) || l.isEmpty()) {
            return NONE;
        }
        List<Integer> places = new ArrayList<>();
        for (int[] o : l) {
            places.add(o[t]);
        }
        return most ? Collections.max(places) : Collections.min(places);
    }

    int stand(int place, boolean some, int k) {
        List<int[]> l = leftOrders(0, k);
        if (place < 0 || place > 4 || l.isEmpty()) {
            return NONE;
        }
        int bits = 0;
        for (int t = 0; t < n(); t++) {
            int c = 0;
            for (int[] o : l) {
                c += o[t] == place ? 1 : 0;
            }
            if (some ? c > 0 : c == l.size()) {
                bits |= 1 << t;
            }
        }
        return bits;
    }

    /** -2 if not sure. */
    static int sure(List<int[]> l, int a, int b) {
        Set<Integer> s = new HashSet<>();
        for (int[] o : l) {
            s.add(said(o, a, b));
        }
        return s.size() == 1 ? s.iterator().next() : -2;
    }

    int surely(int a, int b, int k) {
        List<int[]> l = leftOrders(0, k);
        if (!thingOk(a) || !thingOk(b) || a == b || l.isEmpty()) {
            return NONE;
        }
        return sure(l, a, b);
    }

    boolean goalOk(int goal, int p) {
        return goal == 0 || goal == 1 && p >= 0 && p <= 4 || goal == 2 && thingOk(p);
    }

    int value(int[] o, int goal, int p) {
        if (goal == 2) {
            return o[p];
        }
        int v = 0;
        for (int t = 0; t < o.length; t++) {
            v = goal == 0 ? v * 10 + o[t] : v + (o[t] == p ? 1 << t : 0);
        }
        return v;
    }

    boolean known(List<int[]> l, int goal, int p) {
        for (int[] o : l) {
            if (value(o, goal, p) != value(l.get(0), goal, p)) {
                return false;
            }
        }
        return true;
    }

    static String key(List<int[]> l) {
        StringBuilder s = new StringBuilder();
        for (int[] o : l) {
            for (int x : o) {
                s.append((char) ('0' + x));
            }
            s.append(' ');
        }
        return s.toString();
    }

    List<List<int[]>> parts(List<int[]> l, int a, int b) {
        List<List<int[]>> parts = List.of(new ArrayList<>(), new ArrayList<>(), new ArrayList<>());
        for (int[] o : l) {
            parts.get(said(o, a, b)).add(o);
        }
        return parts;
    }

    /** The least worst case, or the least sum; and the first two that begin it. */
    int[] strategy(List<int[]> l, int goal, int p, boolean sum, Map<String, int[]> memo) {
        if (known(l, goal, p)) {
            return new int[] {0, NONE};
        }
        String key = key(l);
        int[] found = memo.get(key);
        if (found != null) {
            return found;
        }
        int best = Integer.MAX_VALUE;
        int next = NONE;
        int n = l.get(0).length;
        for (int a = 0; a < n; a++) {
            for (int b = a + 1; b < n; b++) {
                int worst = 0;
                int whole = l.size();
                boolean useless = false;
                for (List<int[]> part : parts(l, a, b)) {
                    useless |= part.size() == l.size();
                    if (!useless && !part.isEmpty()) {
                        int v = strategy(part, goal, p, sum, memo)[0];
                        worst = Math.max(worst, v);
                        whole += v;
                    }
                }
                int v = sum ? whole : 1 + worst;
                if (!useless && v < best) {
                    best = v;
                    next = 10 * a + b;
                }
            }
        }
        int[] result = {best, next};
        memo.put(key, result);
        return result;
    }

    int fewest(int goal, int p, int k) {
        if (!goalOk(goal, p)) {
            return NONE;
        }
        List<int[]> l = leftOrders(0, k);
        return l.size() > 120 ? -2 : strategy(l, goal, p, false, new HashMap<>())[0];
    }

    int next(int goal, int p, int k) {
        if (!goalOk(goal, p)) {
            return NONE;
        }
        List<int[]> l = leftOrders(0, k);
        return l.size() > 120 ? -2 : strategy(l, goal, p, false, new HashMap<>())[1];
    }

    int total(int goal, int p, int what, int k) {
        if (!goalOk(goal, p) || what < 0 || what > 1) {
            return NONE;
        }
        List<int[]> l = leftOrders(0, k);
        return l.size() > 120 ? -2 : strategy(l, goal, p, true, new HashMap<>())[what];
    }

    int atOnce(int goal, int p, int k) {
        if (!goalOk(goal, p)) {
            return NONE;
        }
        List<int[]> l = leftOrders(0, k);
        if (l.size() > 120) {
            return -2;
        }
        List<int[]> pairs = new ArrayList<>();
        for (int a = 0; a < n(); a++) {
            for (int b = a + 1; b < n(); b++) {
                pairs.add(new int[] {a, b});
            }
        }
        for (int size = 0; size <= pairs.size(); size++) {
            for (int set = 0; set < 1 << pairs.size(); set++) {
                if (Integer.bitCount(set) == size && enough(l, set, pairs, goal, p)) {
                    return set;
                }
            }
        }
        return NONE;
    }

    boolean enough(List<int[]> l, int set, List<int[]> pairs, int goal, int p) {
        Map<String, Integer> values = new HashMap<>();
        for (int[] o : l) {
            StringBuilder s = new StringBuilder();
            for (int i = 0; i < pairs.size(); i++) {
                if ((set >> i & 1) == 1) {
                    s.append(said(o, pairs.get(i)[0], pairs.get(i)[1]));
                }
            }
            Integer old = values.put(s.toString(), value(o, goal, p));
            if (old != null && old != value(o, goal, p)) {
                return false;
            }
        }
        return true;
    }

    int answers(int goal, int p, int what, int k) {
        List<int[]> l = leftOrders(0, k);
        if (!goalOk(goal, p) || what < 0 || what > 2 || l.isEmpty()) {
            return NONE;
        }
        TreeMap<Integer, Integer> map = new TreeMap<>();
        for (int[] o : l) {
            map.merge(value(o, goal, p), 1, Integer::sum);
        }
        int most = Collections.max(map.values());
        for (Map.Entry<Integer, Integer> e : map.entrySet()) {
            if (e.getValue() == most) {
                return what == 0 ? map.size() : what == 1 ? most : e.getKey();
            }
        }
        return NONE;
    }

    int judged(int plan, int goal, int p, int what, int k) {
        if (plan < 0 || plan >= text.plans.size() || !goalOk(goal, p) || what < 0 || what > 2) {
            return NONE;
        }
        Map<String, List<int[]>> ends = new HashMap<>();
        int most = 0;
        int sum = 0;
        for (int[] o : leftOrders(0, k)) {
            StringBuilder path = new StringBuilder();
            Part at = text.plans.get(plan);
            while (at != null) {
                int s = said(o, at.first, at.second);
                path.append(s);
                at = s == 1 ? at.down : s == 2 ? at.up : at.even;
            }
            most = Math.max(most, path.length());
            sum += path.length();
            ends.computeIfAbsent(path.toString(), x -> new ArrayList<>()).add(o);
        }
        int unknown = 0;
        for (List<int[]> end : ends.values()) {
            unknown += known(end, goal, p) ? 0 : end.size();
        }
        return new int[] {unknown, most, sum}[what];
    }

    int trusty(int goal, int p, int k) {
        if (!goalOk(goal, p)) {
            return NONE;
        }
        List<int[]> l = leftOrders(0, k);
        if (l.size() > 6) {
            return -2;
        }
        int all = (1 << l.size()) - 1;
        for (int depth = 0; depth <= 12; depth++) {
            if (trust(l, all, 0, depth, goal, p, new HashMap<>())) {
                return depth;
            }
        }
        return -2;
    }

    /** Can so many weighings more be enough? */
    boolean trust(List<int[]> l, int clean, int lied, int depth, int goal, int p, Map<Integer, Boolean> memo) {
        List<int[]> possible = new ArrayList<>();
        for (int i = 0; i < l.size(); i++) {
            if (((clean | lied) >> i & 1) == 1) {
                possible.add(l.get(i));
            }
        }
        if (known(possible, goal, p)) {
            return true;
        }
        if (depth == 0) {
            return false;
        }
        int key = (clean * 64 + lied) * 16 + depth;
        if (memo.containsKey(key)) {
            return memo.get(key);
        }
        boolean can = false;
        for (int a = 0; a < n() && !can; a++) {
            for (int b = a + 1; b < n() && !can; b++) {
                boolean good = true;
                for (int s = 0; s < 3 && good; s++) {
                    int c = 0;
                    int d = 0;
                    for (int i = 0; i < l.size(); i++) {
                        boolean truth = said(l.get(i), a, b) == s;
                        if ((clean >> i & 1) == 1) {
                            c |= truth ? 1 << i : 0;
                            d |= truth ? 0 : 1 << i;
                        }
                        if ((lied >> i & 1) == 1 && truth) {
                            d |= 1 << i;
                        }
                    }
                    good = trust(l, c, d, depth - 1, goal, p, memo);
                }
                can = good;
            }
        }
        memo.put(key, can);
        return can;
    }

    int odds(int a, int b, int what, int k) {
        if (!thingOk(a) || !thingOk(b) || a == b || what < 0 || what > 1) {
            return NONE;
        }
        List<int[]> l = leftOrders(0, k);
        int c = 0;
        for (int[] o : l) {
            c += o[a] < o[b] ? 1 : 0;
        }
        return what == 0 ? c : l.size();
    }

    int evenest(int k) {
        List<int[]> l = leftOrders(0, k);
        if (n() < 2 || l.isEmpty()) {
            return NONE;
        }
        int best = -1;
        int two = NONE;
        for (int a = 0; a < n(); a++) {
            for (int b = a + 1; b < n(); b++) {
                int m = Math.min(odds(a, b, 0, k), odds(b, a, 0, k));
                if (m > best) {
                    best = m;
                    two = 10 * a + b;
                }
            }
        }
        return two;
    }

    int covers(int k) {
        shelf.clear();
        List<int[]> l = leftOrders(0, k);
        if (l.isEmpty()) {
            return NONE;
        }
        for (int a = 0; a < n(); a++) {
            for (int b = 0; b < n(); b++) {
                if (a == b || sure(l, a, b) != 1) {
                    continue;
                }
                boolean between = false;
                for (int c = 0; c < n(); c++) {
                    between |= c != a && c != b && sure(l, a, c) == 1 && sure(l, c, b) == 1;
                }
                if (!between) {
                    shelf.add(10 * a + b);
                }
            }
        }
        return shelf.size();
    }

    int sits(int t, int what, int k) {
        List<int[]> l = leftOrders(0, k);
        if (!thingOk(t) || what < 0 || what > 1 || l.isEmpty()) {
            return NONE;
        }
        int bits = 0;
        for (int o = 0; o < n(); o++) {
            if (o != t && sure(l, t, o) == (what == 0 ? 1 : 2)) {
                bits |= 1 << o;
            }
        }
        return bits;
    }

    int led(int t, int other, int k) {
        if (!thingOk(t) || !thingOk(other)) {
            return NONE;
        }
        int c = 0;
        for (Weighing w : counting(k, true)) {
            int both = w.first | w.second;
            c += (both >> t & 1) == 1 && (both >> other & 1) == 1 ? 1 : 0;
        }
        return c;
    }

    int[] clerksOrder() {
        int[] o = new int[n()];
        for (int i = 0; i < n(); i++) {
            o[text.row.get(i)] = i;
        }
        return o;
    }

    int doubts(int k) {
        return misses(clerksOrder(), k);
    }

    int twins(int t, int k) {
        List<int[]> l = leftOrders(0, k);
        if (!thingOk(t) || l.isEmpty()) {
            return NONE;
        }
        int bits = 0;
        for (int o = 0; o < n(); o++) {
            if (o != t && sure(l, t, o) == 0) {
                bits |= 1 << o;
            }
        }
        return bits;
    }

    int ladder(boolean loose, int k) {
        List<int[]> l = leftOrders(0, k);
        if (l.isEmpty()) {
            return NONE;
        }
        for (int size = n(); size > 0; size--) {
            for (int set = 0; set < 1 << n(); set++) {
                boolean good = Integer.bitCount(set) == size;
                for (int a = 0; a < n() && good; a++) {
                    for (int b = a + 1; b < n() && good; b++) {
                        if ((set >> a & 1) == 1 && (set >> b & 1) == 1) {
                            int s = sure(l, a, b);
                            good = loose ? s == -2 : s == 1 || s == 2;
                        }
                    }
                }
                if (good) {
                    return set;
                }
            }
        }
        return 0;
    }

    int bound(int k) {
        int c = leftOrders(0, k).size();
        if (c == 0) {
            return NONE;
        }
        int n = 0;
        while (Math.pow(text.twins ? 3 : 2, n) < c) {
            n++;
        }
        return n;
    }

    int swapped(int m, int what) {
        if (m < 0 || m > 2 || what < 0 || what > 2) {
            return NONE;
        }
        Map<String, int[]> orders = new TreeMap<>();
        int[] o = clerksOrder();
        orders.put(Arrays.toString(o), o);
        for (int i = 0; i + 1 < n() && m > 0; i++) {
            int[] x = exchange(i);
            orders.put(Arrays.toString(x), x);
            for (int j = i + 2; j + 1 < n() && m > 1; j++) {
                int[] y = x.clone();
                y[text.row.get(j)] = j + 1;
                y[text.row.get(j + 1)] = j;
                orders.put(Arrays.toString(y), y);
            }
        }
        List<int[]> l = new ArrayList<>(orders.values());
        return what == 2 ? l.size() : strategy(l, 0, 0, false, new HashMap<>())[what];
    }

    int[] exchange(int place) {
        int[] o = clerksOrder();
        o[text.row.get(place)] = place + 1;
        o[text.row.get(place + 1)] = place;
        return o;
    }

    int clerk(int place) {
        return place >= 0 && place < n() ? text.row.get(place) : NONE;
    }

    List<int[]> fitting(int k) {
        List<int[]> list = new ArrayList<>();
        List<Weighing> counting = counting(k, false);
        int[] w = new int[n()];
        Arrays.fill(w, 1);
        while (true) {
            boolean so = true;
            for (Weighing x : counting) {
                so = so && says(x.first, x.second, w) == x.said;
            }
            if (so) {
                list.add(w.clone());
            }
            int i = n() - 1;
            while (i >= 0 && w[i] == 6) {
                w[i--] = 1;
            }
            if (i < 0) {
                return list;
            }
            w[i]++;
        }
    }

    int weights(int k) {
        shelf.clear();
        List<int[]> l = fitting(k);
        if (!l.isEmpty()) {
            shelve(l.get(0));
        }
        return l.size();
    }

    int weight(int t, boolean most, int k) {
        List<int[]> l = fitting(k);
        if (!thingOk(t) || l.isEmpty()) {
            return NONE;
        }
        int best = l.get(0)[t];
        for (int[] w : l) {
            best = most ? Math.max(best, w[t]) : Math.min(best, w[t]);
        }
        return best;
    }

    int could(int f, int s, int k) {
        if (!heaps(f, s)) {
            return NONE;
        }
        int bits = 0;
        for (int[] w : fitting(k)) {
            bits |= 1 << says(f, s, w);
        }
        return bits;
    }

    int stones(int w, boolean both) {
        shelf.clear();
        if (w < 1 || w > 40) {
            return NONE;
        }
        for (int size = 1;; size++) {
            int[] row = new int[size];
            long start = both ? 1L << 45 : 1L;
            if (stonesFrom(row, 0, w, both)) {
                shelve(row);
                return size;
            }
        }
    }

    boolean stonesFrom(int[] row, int at, int w, boolean both) {
        if (at == row.length) {
            Set<Integer> sums = new HashSet<>(List.of(0));
            for (int s : row) {
                Set<Integer> more = new HashSet<>(sums);
                for (int x : sums) {
                    more.add(x + s);
                    if (both) {
                        more.add(x - s);
                    }
                }
                sums = more;
            }
            for (int x = 1; x <= w; x++) {
                if (!sums.contains(x)) {
                    return false;
                }
            }
            return true;
        }
        for (int s = at == 0 ? 1 : row[at - 1]; s <= 2 * w; s++) {
            row[at] = s;
            if (stonesFrom(row, at + 1, w, both)) {
                return true;
            }
        }
        return false;
    }

    int heaps(int what, int k, boolean ask) {
        List<int[]> l = fitting(k);
        if (what < 0 || what > 2 || n() < 2 || l.isEmpty()) {
            return NONE;
        }
        int[] best = null;
        for (int f = 1; f < 1 << n(); f++) {
            for (int s = 1; s < 1 << n(); s++) {
                if ((f & s) == 0) {
                    int[] c = new int[3];
                    for (int[] w : l) {
                        c[says(f, s, w)]++;
                    }
                    int worst = Math.max(c[0], Math.max(c[1], c[2]));
                    if (best == null || worst < best[2]) {
                        best = new int[] {f, s, worst};
                    }
                }
            }
        }
        return best[what];
    }

    int lies(int i) {
        return i >= 0 && i < shelf.size() ? shelf.get(i) : NONE;
    }

    int image(int box) {
        if (box < 0 || box > 2) {
            return NONE;
        }
        boxes[box] = state.copy();
        return state.weighings.size();
    }

    int back(int box) {
        if (box < 0 || box > 2 || boxes[box] == null) {
            return NONE;
        }
        state = boxes[box].copy();
        return state.weighings.size();
    }

    int about(int what) {
        int[] all = {n(), text.twins ? 1 : 0, text.sticks, state.weighings.size(), state.time, tape.length(),
            shelf.size(), text.plans.size(), text.twos, state.wet.size()};
        return what >= 0 && what < all.length ? all[what] : NONE;
    }
}
