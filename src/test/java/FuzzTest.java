/** Runs of calls, made by a counter's rest alone, on HeavierRow and on Naive: each answer must be the same. */
public final class FuzzTest {
    private static final int MOST_CALLS = 512;
    /** More than one text with all that is looked at behind it takes, and than one question. */
    private static final int A_TEXT = 110;
    private static final int A_QUESTION = 15;

    private long seed;
    private int wrong;
    private int used;
    private long calls;
    private HeavierRow x;
    private Naive y;
    private StringBuilder log = new StringBuilder();

    private static final String[] NAMES = {"a", "b", "c", "d", "e", "stone", "longname", "zz", "f"};
    private static final String[] SCRAPS = {"thing", "weighs", "twins", "sticks", "row", "plan", "done", "a", "b",
        "zzz", "0", "7", "1000", "12345", "9z", ";", "(", ")", "/", "A", "toolongword", " ", "\n", "\t", "\u00ff", "-"};

    private int rest(int n) {
        seed = seed * 6364136223846793005L + 1442695040888963407L;
        return (int) ((seed >>> 33) % n);
    }

    private void due(String call, int got, int want) {
        calls++;
        used++;
        log.append(call).append(" = ").append(want).append('\n');
        if (got != want) {
            wrong++;
            if (wrong < 6) {
                System.out.println(log + "but answered " + got);
            }
        }
    }

    private String part(int depth, int things) {
        if (depth == 0 || rest(5) == 0) {
            return "done";
        }
        int a = rest(things);
        int b = (a + 1 + rest(things - 1)) % things;
        String s = NAMES[a] + " " + NAMES[b] + "(" + part(depth - 1, things) + "/" + part(depth - 1, things);
        return s + (rest(2) == 0 ? "/" + part(depth - 1, things) : "") + ")";
    }

    private String text() {
        StringBuilder s = new StringBuilder();
        int things = rest(8) == 0 ? rest(3) : 2 + rest(4);
        boolean early = rest(2) == 0;
        if (rest(2) == 0) {
            s.append("twins;");
        }
        for (int i = 0; i < things; i++) {
            int weight = rest(3) == 0 ? 1 + rest(999) : 1 + rest(7);
            s.append(rest(3) == 0 ? "\nthing " : " thing ").append(NAMES[i]).append(" weighs ").append(weight).append(";");
            if (early && i == 1) {
                s.append(" row ").append(NAMES[1]).append(";");
            }
        }
        if (!early && rest(2) == 0 && things > 0) {
            s.append("row");
            int at = rest(things);
            int count = 1 + rest(things);
            for (int i = 0; i < count; i++) {
                s.append(' ').append(NAMES[(at + i * (things == 5 ? 2 : 1)) % things]);
            }
            s.append(";");
        }
        if (rest(3) == 0) {
            s.append("sticks").append(rest(3) == 0 ? rest(120) : rest(3)).append(';');
        }
        for (int plans = things < 2 ? 0 : rest(4); plans > 0; plans--) {
            s.append(" plan ").append(NAMES[rest(3) == 0 ? rest(9) : plans]).append(' ').append(part(1 + rest(4), things)).append(';');
        }
        return s.toString();
    }

    private String mutated(String text) {
        StringBuilder s = new StringBuilder(text);
        for (int i = rest(3); i >= 0; i--) {
            int at = rest(s.length() + 1);
            int act = rest(3);
            if (act == 0) {
                s.insert(at, SCRAPS[rest(SCRAPS.length)]);
            } else if (act == 1 && at < s.length()) {
                s.delete(at, Math.min(s.length(), at + 1 + rest(9)));
            } else if (at < s.length()) {
                s.setCharAt(at, " ;/()a9z".charAt(rest(8)));
            }
        }
        return s.toString();
    }

    private void tell(String text) {
        log.append(text).append('\n');
        int bytes = Math.min(text.length(), 1200);
        for (int at = 0; at < bytes; at += 20) {
            int[] five = new int[5];
            for (int i = 0; i < 20; i++) {
                int sign = at + i < bytes ? text.charAt(at + i) : 32;
                five[i / 4] = five[i / 4] << 8 | sign;
            }
            due("feed", x.feed(five[0], five[1], five[2], five[3], five[4]),
                y.feed(five[0], five[1], five[2], five[3], five[4]));
        }
        due("end", x.end(bytes), y.end(bytes));
        due("street", x.street(), y.street());
        for (int what = -1; what < 3; what++) {
            due("fault " + what, x.fault(what), y.fault(what));
        }
        everything();
    }

    private void everything() {
        for (int what = -1; what < 11; what++) {
            due("about " + what, x.about(what), y.about(what));
        }
        for (int place = -1; place < 6; place++) {
            due("clerk " + place, x.clerk(place), y.clerk(place));
        }
        shelf();
    }

    private void shelf() {
        for (int i = -1; i < 8; i++) {
            due("lies " + i, x.lies(i), y.lies(i));
        }
    }

    private int heap() {
        return rest(10) == 0 ? rest(40) - 2 : 1 << rest(Math.max(1, y.n()));
    }

    private int bigHeap() {
        return rest(12) == 0 ? rest(40) - 2 : 1 + rest(Math.max(1, (1 << y.n()) - 1));
    }

    private int thing() {
        return rest(12) == 0 ? rest(8) - 2 : rest(Math.max(1, y.n()));
    }

    private int time() {
        return rest(3) == 0 ? rest(y.state.time + 3) - 1 : y.state.time;
    }

    private void act() {
        int f = rest(3) == 0 ? bigHeap() : heap();
        int s = rest(3) == 0 ? bigHeap() & ~f : heap();
        switch (rest(10)) {
            case 0, 1, 2 -> due("weigh " + f + " " + s, x.weigh(f, s), y.weigh(f, s));
            case 3, 4 -> {
                int said = rest(12) == 0 ? rest(5) - 1 : rest(3);
                due("told " + f + " " + s + " " + said, x.told(f, s, said), y.told(f, s, said));
            }
            case 5 -> {
                int w = rest(y.state.weighings.size() + 2) - 1;
                due("untell " + w, x.untell(w) ? 1 : 0, y.untell(w) ? 1 : 0);
                for (int what = -1; what < 5; what++) {
                    due("weighing " + w + " " + what, x.weighing(w, what), y.weighing(w, what));
                }
            }
            case 6 -> {
                int by = rest(8) == 0 ? rest(1300) - 100 : rest(3);
                due("later " + by, x.later(by), y.later(by));
            }
            case 7 -> due("wet", x.wet(), y.wet());
            case 8 -> {
                int box = rest(5) - 1;
                due("image " + box, x.image(box), y.image(box));
            }
            default -> {
                int box = rest(5) - 1;
                due("back " + box, x.back(box), y.back(box));
            }
        }
    }

    private void ask() {
        int k = time();
        int t = thing();
        int u = thing();
        int goal = rest(15) == 0 ? rest(6) - 1 : rest(3);
        int p = goal == 2 ? t : rest(8) == 0 ? rest(8) - 1 : rest(5);
        int what = rest(10) == 0 ? rest(6) - 2 : rest(3);
        boolean flag = rest(2) == 0;
        String of = " " + goal + " " + p + " " + what + " at " + k;
        switch (rest(29)) {
            case 0 -> {
                int m = rest(3) == 0 ? rest(64) - 2 : rest(3);
                due("left " + m + " at " + k, x.left(m, k), y.left(m, k));
                shelf();
            }
            case 1 -> {
                due("struck at " + k, x.struck(k), y.struck(k));
                shelf();
            }
            case 2 -> due("place " + t + flag + k, x.place(t, flag, k), y.place(t, flag, k));
            case 3 -> due("stand " + p + flag + k, x.stand(p, flag, k), y.stand(p, flag, k));
            case 4 -> due("surely " + t + " " + u + " " + k, x.surely(t, u, k), y.surely(t, u, k));
            case 5, 6 -> due("fewest" + of, x.fewest(goal, p, k), y.fewest(goal, p, k));
            case 7, 8 -> due("next" + of, x.next(goal, p, k), y.next(goal, p, k));
            case 9 -> due("total" + of, x.total(goal, p, what, k), y.total(goal, p, what, k));
            case 10 -> due("atOnce" + of, x.atOnce(goal, p, k), y.atOnce(goal, p, k));
            case 11 -> due("answers" + of, x.answers(goal, p, what, k), y.answers(goal, p, what, k));
            case 12, 13 -> {
                int plan = rest(6) == 0 ? rest(6) - 2 : rest(3);
                due("judged " + plan + of, x.judged(plan, goal, p, what, k), y.judged(plan, goal, p, what, k));
            }
            case 14, 15 -> due("trusty" + of, x.trusty(goal, p, k), y.trusty(goal, p, k));
            case 16 -> due("odds " + t + u + of, x.odds(t, u, what, k), y.odds(t, u, what, k));
            case 17 -> due("evenest " + k, x.evenest(k), y.evenest(k));
            case 18 -> {
                due("covers " + k, x.covers(k), y.covers(k));
                shelf();
            }
            case 19 -> due("sits " + t + of, x.sits(t, what, k), y.sits(t, what, k));
            case 20 -> due("led " + t + u + k, x.led(t, u, k), y.led(t, u, k));
            case 21 -> due("doubts " + k, x.doubts(k), y.doubts(k));
            case 22 -> due("twins " + t + " " + k, x.twins(t, k), y.twins(t, k));
            case 23 -> due("ladder " + flag + k, x.ladder(flag, k), y.ladder(flag, k));
            case 24 -> due("bound " + k, x.bound(k), y.bound(k));
            case 25 -> due("swapped " + p + " " + what, x.swapped(p, what), y.swapped(p, what));
            case 26 -> {
                int w = rest(16) - 1;
                due("stones " + w + flag, x.stones(w, flag), y.stones(w, flag));
                shelf();
            }
            default -> weights(k, t, flag, what);
        }
    }

    private void weights(int k, int t, boolean flag, int what) {
        switch (rest(4)) {
            case 0 -> {
                due("weights " + k, x.weights(k), y.weights(k));
                shelf();
            }
            case 1 -> due("weight " + t + flag + k, x.weight(t, flag, k), y.weight(t, flag, k));
            case 2 -> {
                int f = bigHeap();
                int s = bigHeap() & (rest(8) == 0 ? -1 : ~f);
                due("could " + f + " " + s + " " + k, x.could(f, s, k), y.could(f, s, k));
            }
            default -> due("heaps " + what + " " + k, x.heaps(what, k), y.heaps(what, k, true));
        }
    }

    private void begin(String kind, int number) {
        x = new HeavierRow();
        y = new Naive();
        used = 0;
        log.setLength(0);
        log.append(kind).append(number).append('\n');
    }

    private void run(int number) {
        seed = number * 7919L + 17;
        for (int i = 0; i < 5; i++) {
            rest(2);
        }
        begin("run ", number);
        int streets = 1 + rest(3);
        for (int i = 0; used + A_TEXT < MOST_CALLS; i++) {
            if (i % (150 / streets) == 0) {
                String text = text();
                tell(rest(4) == 0 ? mutated(text) : text);
            } else if (rest(3) == 0) {
                act();
            } else {
                ask();
            }
        }
        for (int i = 0; used + A_QUESTION < MOST_CALLS; i++) {
            ask();
        }
    }

    /** Texts alone: many more faults than whole runs would meet. */
    private void runTexts(int number) {
        seed = number * 104729L + 5;
        for (int i = 0; i < 20; i++) {
            if (i == 0 || used + A_TEXT >= MOST_CALLS) {
                begin("texts ", number);
            }
            tell(mutated(text()));
        }
    }

    public static void main(String[] args) {
        FuzzTest t = new FuzzTest();
        int from = args.length > 1 ? Integer.parseInt(args[1]) : 0;
        int runs = args.length > 0 ? Integer.parseInt(args[0]) : 400;
        for (int i = from; i < from + runs && t.wrong == 0; i++) {
            t.run(i);
            t.runTexts(i);
        }
        System.out.println("FuzzTest: " + t.calls + " answers, " + t.wrong + " wrong");
        if (t.wrong != 0) {
            System.exit(1);
        }
    }
}
