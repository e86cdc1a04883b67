/** The edges that promises 35 to 40 and part 4 of the terms name: weights that fit, heaps, stones, what lies there. */
public final class WeightEdgesTest extends Due {

    private static String things(int n) {
        return FIVE.substring(0, FIVE.length() / 5 * n);
    }

    private static HeavierRow town(String text, int... weighings) {
        HeavierRow x = town(text);
        for (int i = 0; i + 2 < weighings.length; i += 3) {
            due("told", x.told(weighings[i], weighings[i + 1], weighings[i + 2]), i / 3);
        }
        return x;
    }

    private static void counts() {
        sentence("part 4: whole numbers 1 .. 6 for all THINGS");
        int all = 1;
        int[][] first = {{}, {1}, {1, 1}, {1, 1, 1}, {1, 1, 1, 1}, {1, 1, 1, 1, 1}};
        for (int n = 0; n <= 5; n++) {
            HeavierRow x = town(things(n));
            due("weights of " + n, x.weights(0), all);
            shelf(x, first[n]);
            for (int thing = 0; thing < n; thing++) {
                due("the least", x.weight(thing, false, 0), 1);
                due("the most", x.weight(thing, true, 0), 6);
            }
            all *= 6;
        }
        sentence("part 4: a hidden weight may be above 6");
        HeavierRow x = town("thing a weighs 999;thing b weighs 1;");
        x.weigh(1, 2);
        due("a above b", x.weights(0), 15);
        sentence("part 4: the least is 1, the most 6");
        x = town(FIVE, 1, 2, 1, 2, 4, 1, 4, 8, 1, 8, 16, 1);
        due("five unlike ones of six", x.weights(0), 6);
        shelf(x, 5, 4, 3, 2, 1);
        due("a at least", x.weight(0, false, 0), 5);
        due("a at most", x.weight(0, true, 0), 6);
        due("e at least", x.weight(4, false, 0), 1);
        due("e at most", x.weight(4, true, 0), 2);
        x = town("sticks 4;" + things(2), 2, 1, 1);
        due("one is above one by 5", x.weights(0), 1);
        shelf(x, 1, 6);
        due("a", x.weight(0, true, 0), 1);
        due("b", x.weight(1, false, 0), 6);
        x = town("sticks 5;" + things(2), 1, 2, 1);
        due("none is above one by 6", x.weights(0), 0);
        shelf(x);
        x = town("sticks 5;" + things(2), 1, 2, 0);
        due("all are within 5", x.weights(0), 36);
        x = town("sticks 99;" + things(5), 15, 16, 0);
        due("nothing goes down by 99", x.weights(0), 7776);
        sentence("part 4: HEAPS, too");
        x = town("sticks 1;" + things(5), 30, 1, 2);
        due("a above four by 2", x.weights(0), 1);
        shelf(x, 6, 1, 1, 1, 1);
        x = town("sticks 2;" + things(5), 30, 1, 2);
        due("a above four by 3", x.weights(0), 0);
        x = town("sticks 22;" + things(5), 30, 1, 1);
        due("four above a by 23", x.weights(0), 1);
        shelf(x, 1, 6, 6, 6, 6);
        x = town("sticks 23;" + things(5), 15, 16, 1);
        due("four above e by 24", x.weights(0), 0);
    }

    private static void sticks() {
        sentence("part 4: by sticks as told");
        int[] heavier = {15, 10, 6, 3, 1, 0};
        for (int sticks = 0; sticks < heavier.length; sticks++) {
            String text = "sticks " + sticks + ";" + things(2);
            due("heavier by more than " + sticks, town(text, 1, 2, 1).weights(0), heavier[sticks]);
            due("lighter by more than " + sticks, town(text, 1, 2, 2).weights(0), heavier[sticks]);
            due("within " + sticks, town(text, 1, 2, 0).weights(0), 36 - 2 * heavier[sticks]);
            due("what can be said", town(text).could(1, 2, 0), heavier[sticks] > 0 ? 7 : 1);
        }
        sentence("part 4: the balance sticks; what can be of ORDERS does not");
        HeavierRow x = town("sticks 3;" + things(2), 1, 2, 0);
        due("WEIGHTS", x.weights(0), 36 - 6);
        due("ORDERS", x.left(0, 0), 0);
        sentence("35: the first: THING 0's counts most, less first");
        x = town(ABC, 6, 1, 0);
        due("b and c are a", x.weights(0), 15);
        shelf(x, 2, 1, 1);
        x = town(ABC, 1, 2, 1);
        due("a above b", x.weights(0), 90);
        shelf(x, 2, 1, 1);
        x = town(ABC, 4, 3, 1);
        due("c above a and b", x.weights(0), 20);
        shelf(x, 1, 1, 3);
    }

    private static void none() {
        sentence("35: behind 0: nothing lies there; 36, 39: NONE without WEIGHTS");
        HeavierRow x = town(ABC, 1, 2, 1);
        x.stones(40, true);
        x.told(2, 1, 1);
        due("weights", x.weights(0), 0);
        shelf(x);
        for (int thing = 0; thing < 3; thing++) {
            due("weight", x.weight(thing, false, 0), NONE);
            due("weight", x.weight(thing, true, 0), NONE);
            due("heaps", x.heaps(thing, 0), NONE);
        }
        sentence("37: without WEIGHTS the balance can say nothing");
        due("could", x.could(1, 2, 0), 0);
        due("could", x.could(3, 4, 0), 0);
        sentence("36: NONE if there is none such THING");
        x = town(ABC);
        int[] noThings = {-1, 3, 4, 5, 31, 32, 33, FAR, LOW};
        for (int thing : noThings) {
            due("weight(" + thing + ")", x.weight(thing, false, 0), NONE);
            due("weight(" + thing + ")", x.weight(thing, true, 0), NONE);
        }
        due("of nothing", new HeavierRow().weight(0, true, 0), NONE);
        sentence("37: NONE if one can't be");
        int[][] bad = {{0, 1}, {1, 0}, {0, 0}, {1, 1}, {3, 2}, {5, 7}, {8, 1}, {1, 8}, {-1, 1}, {1, -2}, {1, FAR},
            {LOW, 1}, {1, LOW}, {1, 1 << 16}};
        for (int[] heaps : bad) {
            due("could(" + heaps[0] + ", " + heaps[1] + ")", x.could(heaps[0], heaps[1], 0), NONE);
        }
        due("of nothing", new HeavierRow().could(1, 2, 0), NONE);
    }

    private static void could() {
        sentence("part 4: COULD (as bits: 1 EVEN, 2 the first, 4 the second)");
        HeavierRow x = town(ABC);
        due("all", x.could(1, 2, 0), 7);
        due("two against one", x.could(3, 4, 0), 7);
        x = town(things(4));
        due("three against one", x.could(7, 8, 0), 7);
        due("one against three", x.could(1, 14, 0), 7);
        x = town(things(4) + "sticks 2;");
        due("1 + 1 + 1 against 6", x.could(7, 8, 0), 7);
        x = town(things(4) + "sticks 3;");
        due("6 isn't above three by 4", x.could(7, 8, 0), 3);
        due("6 isn't above three by 4", x.could(8, 7, 0), 5);
        x = town(ABC, 1, 2, 1, 2, 4, 1);
        due("the first alone", x.could(1, 4, 0), 2);
        due("the second alone", x.could(4, 1, 0), 4);
        due("a against b and c", x.could(1, 6, 0), 7);
        x = town(ABC, 1, 2, 0);
        due("EVEN alone", x.could(1, 2, 0), 1);
        due("not EVEN", x.could(5, 2, 0), 2);
        due("not EVEN", x.could(2, 5, 0), 4);
        x = town("sticks 1;" + ABC, 1, 2, 0);
        due("EVEN or the second", x.could(5, 2, 0), 3);
    }

    private static void best(HeavierRow x, String what, int first, int second, int left) {
        due("the first of " + what, x.heaps(0, 0), first);
        due("the second of " + what, x.heaps(1, 0), second);
        due("left of " + what, x.heaps(2, 0), left);
    }

    private static void heaps() {
        sentence("39: NONE with less than two THINGS, or for another what");
        for (int what = -1; what < 4; what++) {
            due("no thing", new HeavierRow().heaps(what, 0), NONE);
            due("one thing", town(things(1)).heaps(what, 0), NONE);
        }
        HeavierRow x = town(things(2));
        int[] bad = {-1, 3, 4, -2, FAR, LOW};
        for (int what : bad) {
            due("heaps(" + what + ")", x.heaps(what, 0), NONE);
        }
        sentence("part 4: the most WEIGHTS that can be left are fewest; of like ones the least first, then the least second");
        best(x, "two", 1, 2, 15);
        best(town("sticks 5;" + things(2)), "two that are EVEN", 1, 2, 36);
        best(town(ABC), "three: a against b as good as any", 1, 2, 90);
        best(town(ABC, 1, 2, 0), "a and b even: a against c", 1, 4, 15);
        best(town(ABC, 2, 4, 0), "b and c even: a against b", 1, 2, 15);
        best(town(things(2), 1, 2, 1), "a heavier: nothing is parted", 1, 2, 15);
        best(town("sticks 4;" + things(2), 1, 2, 1), "one row of WEIGHTS", 1, 2, 1);
        best(town("sticks 1;" + things(5), 30, 1, 2), "one row of WEIGHTS of five", 1, 2, 1);
        best(town(FIVE, 1, 2, 0, 2, 4, 0, 4, 8, 0, 7, 16, 2), "1 1 1 1 and 4 .. 6: the last two HEAPS of all", 15, 16, 2);
        x = town(ABC, 2, 1, 1, 1, 4, 0);
        best(x, "b above a and c that are EVEN: b against both", 2, 5, 6);
    }

    /** Told at 5, a HEAP among it, a wet day at 7: what is due at 4 and 7 is one thing, at 5 and 6 the other. */
    private static void known() {
        sentence("part 4: all WEIGHINGS that count as known at k");
        HeavierRow x = town(ABC);
        x.later(5);
        x.told(1, 6, 1);
        x.later(2);
        x.wet();
        int[] at = {LOW, -1, 4, 5, 6, 7, FAR};
        for (int k : at) {
            boolean told = k == 5 || k == 6;
            due("weights at " + k, x.weights(k), told ? 20 : 216);
            shelf(x, told ? 3 : 1, 1, 1);
            due("least at " + k, x.weight(0, false, k), told ? 3 : 1);
            due("most at " + k, x.weight(1, true, k), told ? 4 : 6);
            due("could at " + k, x.could(1, 2, k), told ? 2 : 7);
            due("could at " + k, x.could(1, 6, k), told ? 2 : 7);
            due("first at " + k, x.heaps(0, k), told ? 2 : 1);
            due("second at " + k, x.heaps(1, k), told ? 4 : 2);
            due("left at " + k, x.heaps(2, k), told ? 7 : 90);
        }
        sentence("part 4: not UNTOLD ones");
        x = town(ABC, 1, 2, 1, 2, 4, 1);
        due("weights", x.weights(0), 20);
        x.untell(1);
        due("weights", x.weights(0), 90);
        x.untell(0);
        due("weights", x.weights(0), 216);
        sentence("part 4: 60 WEIGHINGS");
        x = town(ABC);
        for (int i = 0; i < 59; i++) {
            x.told(1 + i % 2, 4, 1);
        }
        due("a and b above c", x.weights(0), 55);
        x.told(4, 3, 1);
        due("the sixtieth counts", x.weights(0), 0);
    }

    /** Each call by itself tells of what counts now, whatever was asked ahead of it. */
    private static void askedAgain() {
        sentence("36, 37, 39: by WEIGHTS of what counts as known at k");
        HeavierRow x = town("sticks 1;" + ABC, 6, 1, 2);
        due("a at least", x.weight(0, false, 0), 4);
        due("a at least, ahead of all", x.weight(0, false, -1), 1);
        due("b at most", x.weight(1, true, 0), 3);
        due("b at most, ahead of all", x.weight(1, true, -1), 6);
        due("left", x.heaps(2, 0), 8);
        due("left, ahead of all", x.heaps(2, -1), 96);
        due("a at least", x.weight(0, false, 0), 4);
        due("could", x.could(2, 4, 0), 7);
        due("left", x.heaps(2, 0), 8);
        due("weights", x.weights(0), 10);
        sentence("36: as many WEIGHINGS as ahead, but others");
        x = town(ABC, 1, 2, 1);
        due("a at least", x.weight(0, false, 0), 2);
        x.untell(0);
        x.told(2, 1, 1);
        due("a at least", x.weight(0, false, 0), 1);
        due("b at least", x.weight(1, false, 0), 2);
        x.untell(1);
        x.told(2, 1, 2);
        due("a at least", x.weight(0, false, 0), 2);
        x.untell(2);
        x.told(2, 4, 2);
        due("c at least", x.weight(2, false, 0), 2);
        x.untell(3);
        x.told(1, 4, 2);
        due("b at least", x.weight(1, false, 0), 1);
        x.untell(4);
        due("c at least", x.weight(2, false, 0), 1);
        sentence("36: by sticks and THINGS of another STREET");
        x = town(things(2), 1, 2, 1);
        due("a at least", x.weight(0, false, 0), 2);
        due("left", x.heaps(2, 0), 15);
        feed(x, "sticks 3;" + things(2));
        x.street();
        x.told(1, 2, 1);
        due("a at least", x.weight(0, false, 0), 5);
        due("left", x.heaps(2, 0), 3);
        feed(x, "sticks 3;" + things(3));
        x.street();
        x.told(1, 2, 1);
        due("c at most", x.weight(2, true, 0), 6);
        due("weights", x.weights(0), 18);
        feed(x, "");
        x.street();
        due("weights", x.weights(0), 1);
    }

    private static void stones(int w, boolean both, int... row) {
        HeavierRow x = new HeavierRow();
        due("stones(" + w + ", " + both + ")", x.stones(w, both), row.length == 0 ? NONE : row.length);
        shelf(x, row);
    }

    private static void stones() {
        sentence("38: NONE if w can't be (1 .. 40); behind NONE: nothing lies there");
        int[] bad = {0, 41, -1, 42, -40, FAR, LOW, FAR / 2 + 1};
        HeavierRow x = new HeavierRow();
        for (int w : bad) {
            for (int both = 0; both < 2; both++) {
                x.stones(7, false);
                shelf(x, 1, 2, 4);
                due("stones(" + w + ")", x.stones(w, both == 1), NONE);
                shelf(x);
            }
        }
        sentence("part 4: the fewest stones; of like ones the first row (none less than the one ahead)");
        stones(1, false, 1);
        stones(1, true, 1);
        stones(2, false, 1, 1);
        stones(2, true, 1, 1);
        stones(3, false, 1, 2);
        stones(3, true, 1, 2);
        stones(4, false, 1, 1, 2);
        stones(4, true, 1, 3);
        stones(5, false, 1, 1, 3);
        stones(5, true, 1, 1, 3);
        stones(7, false, 1, 2, 4);
        stones(8, false, 1, 1, 2, 4);
        stones(13, true, 1, 3, 9);
        stones(14, true, 1, 1, 3, 9);
        stones(15, false, 1, 2, 4, 8);
        stones(16, false, 1, 1, 2, 4, 8);
        stones(31, false, 1, 2, 4, 8, 16);
        stones(32, false, 1, 1, 2, 4, 8, 16);
        stones(39, false, 1, 1, 2, 5, 10, 20);
        stones(40, false, 1, 1, 3, 5, 10, 20);
        stones(40, true, 1, 3, 9, 27);
    }

    private static void lies() {
        sentence("40: NONE if there is none such");
        HeavierRow x = town(ABC);
        int[] bad = {-1, 0, 1, FAR, LOW};
        for (int i : bad) {
            due("lies(" + i + ") of nothing", x.lies(i), NONE);
        }
        x.stones(40, false);
        int[] none = {-1, 6, 7, 24, 32, FAR, LOW};
        for (int i : none) {
            due("lies(" + i + ") of six", x.lies(i), NONE);
        }
        due("lies(0)", x.lies(0), 1);
        due("lies(5)", x.lies(5), 20);
        sentence("40: what lies there is what came last, and nothing of what lay there");
        x.left(0, 0);
        shelf(x, 0, 1, 2);
        x.stones(40, true);
        x.struck(0);
        shelf(x, 0, 1, 2);
        x.stones(40, true);
        x.weights(0);
        shelf(x, 1, 1, 1);
        x.stones(40, true);
        x.covers(0);
        shelf(x);
        x.told(4, 2, 1);
        x.stones(40, true);
        x.covers(0);
        shelf(x, 21);
        x.stones(2, true);
        shelf(x, 1, 1);
        sentence("4: nothing lies there then");
        x.street();
        shelf(x);
    }

    public static void main(String[] args) {
        counts();
        sticks();
        none();
        could();
        heaps();
        known();
        askedAgain();
        stones();
        lies();
        finish("WeightEdgesTest");
    }
}
