import java.util.function.IntUnaryOperator;

/** The edges that promises 12 to 34 and parts 2 and 3 of the terms name: orders, goals, strategies, the clerk's row. */
public final class OrderEdgesTest extends Due {
    private static final int[] NO_THINGS = {-1, 3, 4, 5, 31, 32, 33, 64, -32, FAR, LOW};
    private static final int[] NO_PLACES = {-1, 5, 6, 31, 32, 36, -5, FAR, LOW};
    private static final int[] NO_WHATS = {-1, 3, 4, -2, FAR, LOW};
    private static final String PLAN = "plan q a b(done/done);";

    private static HeavierRow town(String text, String tellings) {
        HeavierRow x = town(text);
        tell(x, tellings);
        return x;
    }

    private static String things(int n) {
        return FIVE.substring(0, FIVE.length() / 5 * n);
    }

    /** Told at 5, untold at 7: what is due at 4 and 7 is one thing, at 5 and 6 the other. */
    private static void knownAt(HeavierRow x, String what, IntUnaryOperator ask, int ahead, int told) {
        int[] at = {LOW, -1, 0, 4, 5, 6, 7, 8, FAR};
        for (int k : at) {
            due(what + " as known at " + k, ask.applyAsInt(k), k == 5 || k == 6 ? told : ahead);
        }
    }

    private static HeavierRow toldAtFive(String text, String tellings) {
        HeavierRow x = town(text);
        x.later(5);
        tell(x, tellings);
        x.later(2);
        for (int i = 0; i < x.about(3); i++) {
            x.untell(i);
        }
        return x;
    }

    private static void asKnown() {
        sentence("part 2: as known at k");
        HeavierRow x = toldAtFive(ABC + PLAN + "row c;", "a>b b>c");
        knownAt(x, "left", k -> x.left(0, k), 6, 1);
        knownAt(x, "least place", k -> x.place(1, false, k), 0, 1);
        knownAt(x, "most place", k -> x.place(1, true, k), 2, 1);
        knownAt(x, "stand in all", k -> x.stand(0, false, k), 0, 1);
        knownAt(x, "stand in some", k -> x.stand(0, true, k), 7, 1);
        knownAt(x, "surely", k -> x.surely(0, 2, k), -2, 1);
        knownAt(x, "fewest", k -> x.fewest(0, 0, k), 3, 0);
        knownAt(x, "next", k -> x.next(0, 0, k), 1, NONE);
        knownAt(x, "total", k -> x.total(0, 0, 0, k), 16, 0);
        knownAt(x, "its next", k -> x.total(0, 0, 1, k), 1, NONE);
        knownAt(x, "at once", k -> x.atOnce(0, 0, k), 7, 0);
        knownAt(x, "answers", k -> x.answers(0, 0, 0, k), 6, 1);
        knownAt(x, "the answer", k -> x.answers(2, 2, 2, k), 0, 2);
        knownAt(x, "judged", k -> x.judged(0, 0, 0, 0, k), 6, 0);
        knownAt(x, "trusty", k -> x.trusty(0, 0, k), 6, 0);
        HeavierRow y = toldAtFive(ABC + PLAN + "row c;", "a>b b>c");
        knownAt(y, "odds", k -> y.odds(0, 1, 0, k), 3, 1);
        knownAt(y, "of how many", k -> y.odds(0, 1, 1, k), 6, 1);
        knownAt(y, "covers", y::covers, 0, 2);
        knownAt(y, "lighter", k -> y.sits(0, 0, k), 0, 6);
        knownAt(y, "heavier", k -> y.sits(2, 1, k), 0, 3);
        knownAt(y, "led", k -> y.led(0, 1, k), 0, 1);
        knownAt(y, "doubts", y::doubts, 0, 1);
        knownAt(y, "ladder", k -> y.ladder(false, k), 1, 7);
        knownAt(y, "loose", k -> y.ladder(true, k), 7, 1);
        knownAt(y, "bound", y::bound, 3, 0);
        HeavierRow z = toldAtFive("twins;" + ABC, "a=b");
        knownAt(z, "evenest", z::evenest, 1, 2);
        knownAt(z, "twins", k -> z.twins(0, k), 0, 2);
        HeavierRow w = toldAtFive(ABC, "a>b b>a b>a");
        knownAt(w, "struck", w::struck, 0, 1);
        knownAt(w, "left with one lie", k -> w.left(1, k), 6, 3);
    }

    private static void noneLeft(String text, String tellings) {
        HeavierRow x = town(text, tellings);
        sentence("12, 13: no ORDER is LEFT (behind 0: nothing)");
        x.stones(3, true);
        due("left", x.left(0, 0), 0);
        shelf(x);
        for (int thing = 0; thing < 3; thing++) {
            sentence("14 to 16, 27, 30: NONE if no ORDER is LEFT");
            due("place", x.place(thing, false, 0), NONE);
            due("place", x.place(thing, true, 0), NONE);
            due("stand", x.stand(thing, false, 0), NONE);
            due("stand", x.stand(thing, true, 0), NONE);
            due("surely", x.surely(thing, 2 - thing, 0), NONE);
            due("sits", x.sits(thing, 0, 0), NONE);
            due("sits", x.sits(thing, 1, 0), NONE);
            due("twins", x.twins(thing, 0), NONE);
            sentence("part 3: a GOAL is come to, if none is, too");
            due("fewest", x.fewest(thing, 0, 0), 0);
            due("next", x.next(thing, 0, 0), NONE);
            due("total", x.total(thing, 0, 0, 0), 0);
            due("its next", x.total(thing, 0, 1, 0), NONE);
            due("at once", x.atOnce(thing, 0, 0), 0);
            due("trusty", x.trusty(thing, 0, 0), 0);
            due("judged: nothing comes to a done", x.judged(0, thing, 0, 0, 0), 0);
            due("judged: the most", x.judged(0, thing, 0, 1, 0), 0);
            due("judged: all together", x.judged(0, thing, 0, 2, 0), 0);
            sentence("21: NONE if no ORDER is LEFT");
            due("answers", x.answers(thing, 0, 0, 0), NONE);
            due("answers", x.answers(0, 0, thing, 0), NONE);
        }
        sentence("24: in how many, of how many");
        due("odds", x.odds(0, 1, 0, 0), 0);
        due("odds", x.odds(0, 1, 1, 0), 0);
        sentence("25, 26, 31, 32: NONE if no ORDER is LEFT");
        due("evenest", x.evenest(0), NONE);
        due("ladder", x.ladder(false, 0), NONE);
        due("loose", x.ladder(true, 0), NONE);
        due("bound", x.bound(0), NONE);
        x.stones(3, true);
        due("covers", x.covers(0), NONE);
        shelf(x);
        sentence("33: whatever else is known");
        due("swapped", x.swapped(1, 2), 3);
    }

    private static void noThing(HeavierRow x, int thing) {
        sentence("14 to 16, 27, 28, 30: NONE if there is none such THING: " + thing);
        due("place", x.place(thing, false, 0), NONE);
        due("place", x.place(thing, true, 0), NONE);
        due("sits", x.sits(thing, 0, 0), NONE);
        due("sits", x.sits(thing, 1, 0), NONE);
        due("twins", x.twins(thing, 0), NONE);
        due("clerk", x.clerk(thing), NONE);
        for (int other = 0; other < 3; other++) {
            due("surely", x.surely(thing, other, 0), NONE);
            due("surely", x.surely(other, thing, 0), NONE);
            due("led", x.led(thing, other, 0), NONE);
            due("led", x.led(other, thing, 0), NONE);
            due("odds", x.odds(thing, other, 0, 0), NONE);
            due("odds", x.odds(other, thing, 1, 0), NONE);
            due("answers", x.answers(2, thing, other, 0), NONE);
            due("judged", x.judged(0, 2, thing, other, 0), NONE);
        }
        due("led", x.led(thing, thing, 0), NONE);
        noGoal(x, 2, thing);
    }

    private static void noGoal(HeavierRow x, int goal, int p) {
        sentence("17 to 23: NONE if a GOAL can't be (the PLACE, the THING, too): " + goal + " " + p);
        due("fewest", x.fewest(goal, p, 0), NONE);
        due("next", x.next(goal, p, 0), NONE);
        due("total", x.total(goal, p, 0, 0), NONE);
        due("its next", x.total(goal, p, 1, 0), NONE);
        due("at once", x.atOnce(goal, p, 0), NONE);
        due("answers", x.answers(goal, p, 0, 0), NONE);
        due("judged", x.judged(0, goal, p, 0, 0), NONE);
        due("trusty", x.trusty(goal, p, 0), NONE);
    }

    private static void whatCannotBe() {
        for (int thing : NO_THINGS) {
            noThing(town(ABC + PLAN), thing);
        }
        HeavierRow x = town(ABC + PLAN);
        for (int place : NO_PLACES) {
            noGoal(x, 1, place);
            sentence("15: NONE if there is none such PLACE (0 .. 4): " + place);
            due("stand in all", x.stand(place, false, 0), NONE);
            due("stand in some", x.stand(place, true, 0), NONE);
        }
        int[] noGoals = {-1, 3, 4, -2, FAR, LOW};
        for (int goal : noGoals) {
            noGoal(x, goal, 0);
        }
        HeavierRow y = town(ABC + PLAN);
        for (int what : NO_WHATS) {
            sentence("19, 21, 22, 24, 27, 33: NONE if a what can't be: " + what);
            due("total", y.total(0, 0, what, 0), NONE);
            due("answers", y.answers(0, 0, what, 0), NONE);
            due("judged", y.judged(0, 0, 0, what, 0), NONE);
            due("odds", y.odds(0, 1, what, 0), NONE);
            due("sits", y.sits(0, what, 0), NONE);
            due("swapped", y.swapped(1, what), NONE);
            due("swapped with such an m", y.swapped(what, 0), NONE);
            due("swapped with such an m", y.swapped(what, 2), NONE);
        }
        sentence("19, 24, 27: NONE for a what of 2");
        due("total", y.total(0, 0, 2, 0), NONE);
        due("odds", y.odds(0, 1, 2, 0), NONE);
        due("sits", y.sits(0, 2, 0), NONE);
        sentence("22: NONE if a PLAN can't be");
        int[] noPlans = {-1, 1, 2, 3, 32, FAR, LOW};
        for (int plan : noPlans) {
            due("judged " + plan, y.judged(plan, 0, 0, 0, 0), NONE);
        }
        due("without PLANS", town(ABC).judged(0, 0, 0, 0, 0), NONE);
        sentence("16, 24: two unlike THINGS");
        for (int thing = 0; thing < 3; thing++) {
            due("surely", y.surely(thing, thing, 0), NONE);
            due("odds", y.odds(thing, thing, 0, 0), NONE);
            due("odds", y.odds(thing, thing, 1, 0), NONE);
        }
        sentence("17: for the whole ORDER there is no PLACE, no THING");
        int[] any = {-1, 3, 5, 99, FAR, LOW};
        for (int p : any) {
            due("fewest(0, " + p + ")", y.fewest(0, p, 0), 3);
            due("answers(0, " + p + ")", y.answers(0, p, 0, 0), 6);
        }
    }

    private static void left() {
        sentence("12: so many lies (0 .. 60); NONE if one can't be; behind NONE: nothing lies there");
        HeavierRow x = town(ABC);
        int[] bad = {-1, 61, 62, -60, FAR, LOW};
        for (int lies : bad) {
            due("left(0)", x.left(0, 0), 6);
            shelf(x, 0, 1, 2);
            due("left(" + lies + ")", x.left(lies, 0), NONE);
            shelf(x);
        }
        sentence("part 2: ORDERS by which m at most are not so");
        tell(x, "a>b a>b b>a b>a b>a");
        int[] left = {0, 0, 3, 6, 6};
        for (int m = 0; m < left.length; m++) {
            due("left(" + m + ")", x.left(m, 0), left[m]);
        }
        due("left(2)", x.left(2, 0), 3);
        shelf(x, 1, 0, 2);
        for (int i = 5; i < 60; i++) {
            x.told(2, 4, 0);
        }
        due("57 are not so by half of them", x.left(56, 0), 0);
        due("57 are not so by half of them", x.left(57, 0), 3);
        due("57 are not so by half of them", x.left(58, 0), 6);
        due("left(60)", x.left(60, 0), 6);
        x = town(ABC);
        for (int i = 0; i < 60; i++) {
            x.told(1 << i % 3, 1 << (i + 1) % 3, 0);
        }
        due("all 60 are lies", x.left(59, 0), 0);
        shelf(x);
        due("all 60 are lies", x.left(60, 0), 6);
        shelf(x, 0, 1, 2);
        sentence("13: the fewest that are not so by any ORDER");
        due("struck", x.struck(0), 60);
        shelf(x, 0, 1, 2);
        counts();
        struck();
    }

    private static void counts() {
        sentence("part 2: without twins all PLACES are unlike, with twins THINGS of one PLACE are EVEN");
        int[] without = {1, 1, 2, 6, 24, 120};
        int[] with = {1, 1, 3, 13, 75, 541};
        int[][] first = {{}, {0}, {0, 1}, {0, 1, 2}, {0, 1, 2, 3}, {0, 1, 2, 3, 4}};
        for (int n = 0; n <= 5; n++) {
            HeavierRow x = town(things(n));
            due("left of " + n, x.left(0, 0), without[n]);
            shelf(x, first[n]);
            x = town("twins;" + things(n));
            due("left of " + n + " with twins", x.left(0, 0), with[n]);
            shelf(x, new int[n]);
        }
        sentence("part 2: the last ORDER of all");
        HeavierRow last = town("twins;" + FIVE, "e>d d>c c>b b>a");
        due("left", last.left(0, 0), 1);
        shelf(last, 4, 3, 2, 1, 0);
        due("the lightest", last.place(0, false, 0), 4);
        due("its digits", last.answers(0, 0, 2, 0), 43210);
        sentence("part 2: a PLACE: how many THINGS are heavier");
        HeavierRow x = town("twins;" + FIVE, "a=b b>c d<c d=e");
        due("left", x.left(0, 0), 1);
        shelf(x, 0, 0, 2, 3, 3);
        sentence("part 2: SINGLE ones are those of one THING against one");
        x = town(ABC);
        x.told(3, 4, 0);
        x.told(1, 6, 2);
        x.told(6, 1, 2);
        due("HEAPS tell nothing of ORDERS", x.left(0, 0), 6);
        due("struck", x.struck(0), 0);
        due("led", x.led(0, 0, 0), 0);
        due("doubts", x.doubts(0), 0);
    }

    private static void struck() {
        sentence("part 2: the first ORDER by which it is so few");
        HeavierRow x = town("twins;" + ABC, "a>b a=b");
        due("struck", x.struck(0), 1);
        shelf(x, 0, 0, 0);
        tell(x, "b>a b>a");
        due("struck", x.struck(0), 2);
        shelf(x, 1, 0, 1);
        x = town(ABC, "a>b b>c c>a");
        due("a ring", x.struck(0), 1);
        shelf(x, 0, 1, 2);
        String[] tellings = {"c>b", "b>a", "c>b a>c", "b>a c>a c>b", "b>a a>c", "c>a b>c"};
        int[][] firsts = {{0, 2, 1}, {1, 0, 2}, {0, 2, 1}, {2, 1, 0}, {1, 0, 2}, {2, 0, 1}};
        for (int i = 0; i < tellings.length; i++) {
            x = town(ABC, tellings[i]);
            due("struck of " + tellings[i], x.struck(0), 0);
            shelf(x, firsts[i]);
        }
        sentence("13: of nothing");
        due("struck", new HeavierRow().struck(0), 0);
        x = town("thing a weighs 1;");
        due("struck", x.struck(0), 0);
        shelf(x, 0);
    }

    private static void places() {
        sentence("15: THINGS that have a PLACE (0 .. 4)");
        HeavierRow x = town(ABC);
        int[] some = {7, 7, 7, 0, 0};
        for (int place = 0; place < 5; place++) {
            due("in some " + place, x.stand(place, true, 0), some[place]);
            due("in all " + place, x.stand(place, false, 0), 0);
        }
        x = town(FIVE, "e>d d>c c>b b>a");
        for (int place = 0; place < 5; place++) {
            due("in some " + place, x.stand(place, true, 0), 16 >> place);
            due("in all " + place, x.stand(place, false, 0), 16 >> place);
            due("least place", x.place(place, false, 0), 4 - place);
            due("most place", x.place(place, true, 0), 4 - place);
        }
        x = new HeavierRow();
        for (int place = 0; place < 5; place++) {
            due("of nothing", x.stand(place, false, 0), 0);
            due("of nothing", x.stand(place, true, 0), 0);
        }
        sentence("14: the least, the most PLACE with twins");
        x = town("twins;" + ABC, "a=b");
        due("least", x.place(0, false, 0), 0);
        due("most", x.place(0, true, 0), 1);
        due("least of c", x.place(2, false, 0), 0);
        due("most of c", x.place(2, true, 0), 2);
        due("nobody has place 1 alone", x.stand(1, true, 0), 3);
        sentence("16: what the balance would say for sure");
        x = town("twins;" + FIVE, "a=b b=c c>d");
        due("even by two steps", x.surely(0, 2, 0), 0);
        due("even by two steps", x.surely(2, 0, 0), 0);
        due("heavier by even ones", x.surely(0, 3, 0), 1);
        due("lighter by even ones", x.surely(3, 0, 0), 2);
        due("not sure", x.surely(0, 4, 0), -2);
        due("not sure", x.surely(4, 3, 0), -2);
        due("two with twins", town("twins;" + things(2)).surely(0, 1, 0), -2);
    }

    private static void goals() {
        sentence("part 3: a GOAL is come to, if that is alike in all that are LEFT");
        for (int n = 0; n < 2; n++) {
            HeavierRow x = town(things(n));
            due("fewest of " + n, x.fewest(0, 0, 0), 0);
            due("next of " + n, x.next(0, 0, 0), NONE);
            due("total of " + n, x.total(0, 0, 0, 0), 0);
            due("its next of " + n, x.total(0, 0, 1, 0), NONE);
            due("at once of " + n, x.atOnce(0, 0, 0), 0);
            due("trusty of " + n, x.trusty(0, 0, 0), 0);
        }
        HeavierRow x = town(ABC);
        for (int place = 3; place < 5; place++) {
            due("nobody has a fourth PLACE", x.fewest(1, place, 0), 0);
            due("nobody has a fourth PLACE", x.next(1, place, 0), NONE);
            due("nobody has a fourth PLACE", x.total(1, place, 0, 0), 0);
            due("nobody has a fourth PLACE", x.total(1, place, 1, 0), NONE);
            due("nobody has a fourth PLACE", x.atOnce(1, place, 0), 0);
            due("nobody has a fourth PLACE", x.trusty(1, place, 0), 0);
        }
        sentence("part 3: FEWEST, TOTAL, NEXT, AT ONCE of 2 .. 5 THINGS");
        int[] fewest = {0, 0, 1, 3, 5, 7};
        int[] total = {0, 0, 2, 16, 112, 832};
        for (int n = 2; n <= 5; n++) {
            x = town(things(n));
            due("fewest of " + n, x.fewest(0, 0, 0), fewest[n]);
            due("next of " + n, x.next(0, 0, 0), 1);
            due("total of " + n, x.total(0, 0, 0, 0), total[n]);
            due("its next of " + n, x.total(0, 0, 1, 0), 1);
            due("at once of " + n, x.atOnce(0, 0, 0), (1 << n * (n - 1) / 2) - 1);
            due("the heaviest of " + n, x.fewest(1, 0, 0), n - 1);
            due("the lightest of " + n, x.fewest(1, n - 1, 0), n - 1);
            due("the last THING of " + n, x.fewest(2, n - 1, 0), n - 1);
            due("its next", x.next(2, n - 1, 0), n - 1);
        }
        sentence("part 3: AT ONCE: of like ones the first set (the least number)");
        due("c against a, not b", town("twins;" + ABC, "a=b").atOnce(0, 0, 0), 2);
        due("a against b, not c", town("twins;" + ABC, "b=c").atOnce(0, 0, 0), 1);
        due("a against b, c; b against c", town(ABC).atOnce(1, 1, 0), 7);
        due("d against a, b, c of a > b > c", town(things(4), "a>b b>c").atOnce(2, 3, 0), 4 + 16 + 32);
        sentence("part 3: the first two: the first counts most");
        x = town(FIVE, "a>b a>c a>d a>e");
        due("b c", x.next(0, 0, 0), 12);
        due("at once: six pairs, but not a's", x.atOnce(0, 0, 0), 1023 - 15);
        x = town(FIVE, "a>b b>c c>d");
        due("d e, if e's PLACE is the last or not", x.next(1, 4, 0), 34);
        due("c e and d e at once", x.atOnce(1, 3, 0), 256 + 512);
    }

    private static void spentAt(HeavierRow x, boolean spent) {
        int[] got = {x.fewest(0, 0, 0), x.next(0, 0, 0), x.total(0, 0, 0, 0), x.total(0, 0, 1, 0), x.atOnce(0, 0, 0),
            x.fewest(2, 4, 0), x.next(1, 0, 0), x.total(2, 0, 0, 0), x.total(1, 4, 1, 0), x.atOnce(2, 1, 0)};
        for (int i = 0; i < got.length; i++) {
            due("call " + i + " is SPENT", got[i] == -2, spent);
        }
    }

    private static void spent() {
        sentence("part 3: SPENT, if more than 120 ORDERS are LEFT");
        HeavierRow x = town(FIVE);
        due("left", x.odds(0, 1, 1, 0), 120);
        spentAt(x, false);
        x = town("twins;" + FIVE, "a>b c>d");
        due("left", x.odds(0, 1, 1, 0), 101);
        spentAt(x, false);
        tell(x, "d>c");
        due("none is left", x.odds(0, 1, 1, 0), 0);
        spentAt(x, false);
        x = town("twins;" + FIVE, "a>b a>c");
        due("left", x.odds(0, 1, 1, 0), 145);
        spentAt(x, true);
        x = town("twins;" + FIVE);
        due("left", x.odds(0, 1, 1, 0), 541);
        spentAt(x, true);
        sentence("17 to 20: NONE if one can't be, SPENT or not");
        due("fewest", x.fewest(1, 5, 0), NONE);
        due("next", x.next(2, 5, 0), NONE);
        due("total", x.total(0, 0, 2, 0), NONE);
        due("total", x.total(3, 0, 0, 0), NONE);
        due("at once", x.atOnce(2, -1, 0), NONE);
        due("trusty", x.trusty(2, 5, 0), NONE);
        sentence("21, 22, 24 to 26, 31, 32: nothing is SPENT there");
        due("answers", x.answers(2, 0, 0, 0), 5);
        due("odds", x.odds(0, 1, 0, 0), 233);
        due("evenest", x.evenest(0), 1);
        due("covers", x.covers(0), 0);
        due("ladder", x.ladder(false, 0), 1);
        due("loose", x.ladder(true, 0), 31);
        x = town("twins;" + FIVE + PLAN);
        due("judged", x.judged(0, 2, 0, 0, 0), 541);
        due("judged", x.judged(0, 2, 0, 2, 0), 541);
    }

    private static void trusty() {
        sentence("part 3: WITH A LIE: SPENT, if more than 6 ORDERS are LEFT");
        HeavierRow x = town(FIVE, "a>b a>c a>d e>a");
        due("left", x.odds(0, 1, 1, 0), 6);
        due("trusty", x.trusty(0, 0, 0), 6);
        x = town(FIVE, "a>b a>c c>a");
        due("none left", x.trusty(0, 0, 0), 0);
        x = town(FIVE, "a>b a>c d>a e>b");
        due("left", x.odds(0, 1, 1, 0), 7);
        due("trusty", x.trusty(0, 0, 0), -2);
        due("trusty", x.trusty(2, 0, 0), -2);
        x = town("twins;" + ABC);
        due("13 are left", x.trusty(0, 0, 0), -2);
        tell(x, "a>b");
        due("5 are left", x.trusty(2, 0, 0) > 0, true);
        sentence("part 3: SPENT, if more than 6 are LEFT, come to or not");
        x = town(FIVE, "a>b a>c a>d a>e");
        due("a is the heaviest", x.fewest(2, 0, 0), 0);
        due("24 are left", x.trusty(2, 0, 0), -2);
        sentence("part 3: a pair may be weighed again");
        due("two THINGS", town(things(2)).trusty(0, 0, 0), 3);
        due("two THINGS with twins", town("twins;" + things(2)).trusty(0, 0, 0), 3);
        due("two THINGS, the first PLACE", town(things(2)).trusty(1, 0, 0), 3);
        sentence("part 3: one at most of the WEIGHINGS more may be a lie");
        due("three THINGS", town(ABC).trusty(0, 0, 0), 6);
        due("three THINGS, the first one's place", town(ABC).trusty(2, 0, 0), 5);
        due("three ORDERS", town(ABC, "a>b").trusty(0, 0, 0), 5);
    }

    private static void answers() {
        sentence("part 3: that which most ORDERS have, of like ones the least number");
        HeavierRow x = town(ABC);
        due("PLACES as digits", x.answers(0, 0, 2, 0), 12);
        due("each once", x.answers(0, 0, 1, 0), 1);
        due("two each have PLACE 1", x.answers(1, 1, 1, 0), 2);
        due("a", x.answers(1, 1, 2, 0), 1);
        due("PLACE 0", x.answers(2, 2, 2, 0), 0);
        due("nobody", x.answers(1, 3, 0, 0), 1);
        due("nobody", x.answers(1, 3, 1, 0), 6);
        due("nobody", x.answers(1, 3, 2, 0), 0);
        x = town(ABC, "a>b");
        due("c stands at each once: the least", x.answers(2, 2, 2, 0), 0);
        due("c stands at each once", x.answers(2, 2, 1, 0), 1);
        due("the first ORDER", x.answers(0, 0, 2, 0), 12);
        x = town(ABC, "c>a c>b");
        due("THINGS as bits", x.answers(1, 0, 2, 0), 4);
        due("a or b", x.answers(1, 2, 2, 0), 1);
        due("THING 0's PLACE is the first digit", x.answers(0, 0, 2, 0), 120);
        x = town("twins;" + things(2));
        due("even, a or b heavier", x.answers(1, 1, 0, 0), 3);
        due("nobody at PLACE 1, once", x.answers(1, 1, 2, 0), 0);
        due("all digits are 0", x.answers(0, 0, 2, 0), 0);
        x = town("twins;" + ABC);
        due("nobody at PLACE 2", x.answers(1, 2, 1, 0), 4);
        due("nobody at PLACE 2", x.answers(1, 2, 2, 0), 0);
        x = town("twins;" + FIVE, "a=b b=c c=d d=e");
        due("all", x.answers(1, 0, 2, 0), 31);
        x = new HeavierRow();
        due("one ORDER of nothing", x.answers(0, 0, 0, 0), 1);
        due("one ORDER of nothing", x.answers(0, 0, 1, 0), 1);
        due("nobody at PLACE 4", x.answers(1, 4, 2, 0), 0);
    }

    private static void judged() {
        sentence("part 3: done, if there is no third");
        HeavierRow x = town("twins;" + things(2) + PLAN + "plan r a b(done/done/done); plan s done;");
        for (int plan = 0; plan < 2; plan++) {
            due("each done is known", x.judged(plan, 0, 0, 0, 0), 0);
            due("the most", x.judged(plan, 0, 0, 1, 0), 1);
            due("all together", x.judged(plan, 0, 0, 2, 0), 3);
        }
        sentence("part 3: till done: a PLAN may be done at once");
        due("three come to it", x.judged(2, 0, 0, 0, 0), 3);
        due("the most", x.judged(2, 0, 0, 1, 0), 0);
        due("all together", x.judged(2, 0, 0, 2, 0), 0);
        sentence("part 3: what is LEFT are those that come to it, too");
        tell(x, "a>b");
        due("one comes to it", x.judged(2, 0, 0, 0, 0), 0);
        x = town(ABC + "plan q done; plan r a b(done/done);", "a>c b>c");
        for (int plan = 0; plan < 2; plan++) {
            due("c's PLACE is 2 by both", x.judged(plan, 2, 2, 0, 0), 0);
            due("c has PLACE 2 by both", x.judged(plan, 1, 2, 0, 0), 0);
            due("who has PLACE 0", x.judged(plan, 1, 0, 0, 0), plan == 0 ? 2 : 0);
            due("b's PLACE", x.judged(plan, 2, 1, 0, 0), plan == 0 ? 2 : 0);
        }
        tell(x, "b>a");
        due("b's PLACE is 0, a's 1", x.judged(0, 2, 0, 0, 0), 0);
        x = town(ABC + "plan r b c(done/done);", "a>b a>c");
        due("a is the heaviest by both", x.judged(0, 1, 0, 0, 0), 0);
        x = town(FIVE + "plan r a b(done/done);", "c>a c>b d>a d>b");
        due("a stands at 2, or at 3 behind e", x.judged(0, 2, 0, 0, 0), 20);
        sentence("part 3: to the first p, if the first goes down, the second, if the second does, the third, if EVEN");
        String branches = "plan q a b(b c(done/done)/c a(done/c b(done/done))/a c(done/a b(done/done)/b c(done/done)));";
        x = town("twins;" + ABC + branches);
        String[] told = {"a>b", "b>a c>a", "b>a a>c", "a=b c>a", "a=b a>c", "a=b a=c"};
        int[] most = {2, 2, 3, 3, 2, 3};
        for (int i = 0; i < told.length; i++) {
            x.image(0);
            tell(x, told[i]);
            due("the most of " + told[i], x.judged(0, 0, 0, 1, 0), most[i]);
            due("all of " + told[i], x.judged(0, 0, 0, 2, 0), x.odds(0, 1, 1, 0) * most[i]);
            x.back(0);
        }
        sentence("part 3: a p within 10 others is gone to");
        x = town(things(2) + "plan q " + "a b(".repeat(10) + "done" + "/done)".repeat(10) + ";");
        due("the most", x.judged(0, 0, 0, 1, 0), 10);
        due("all together", x.judged(0, 0, 0, 2, 0), 11);
    }

    private static void sure() {
        sentence("part 3: ODDS: in how many the first is heavier: EVEN is not heavier");
        HeavierRow x = town("twins;" + things(2));
        due("odds", x.odds(0, 1, 0, 0), 1);
        due("odds", x.odds(1, 0, 0, 0), 1);
        due("of", x.odds(1, 0, 1, 0), 3);
        sentence("25: NONE with less than two THINGS");
        due("no thing", new HeavierRow().evenest(0), NONE);
        due("one thing", town(things(1)).evenest(0), NONE);
        due("two things", town(things(2)).evenest(0), 1);
        due("known", town(things(2), "b>a").evenest(0), 1);
        sentence("part 3: EVENEST: the lesser is greatest; of like ones the first two");
        due("a b is sure", town(ABC, "a<b").evenest(0), 2);
        due("c is below both: a b", town(ABC, "a>c b>c").evenest(0), 1);
        due("a b, b c are 1 to 2 as c d, not a d", town(things(4), "a>b c>d").evenest(0), 2);
        due("c d are open alone", town(things(4), "a>b b>c b>d").evenest(0), 23);
        sentence("26: in order, as 10 * the heavier and the other one");
        x = town(ABC, "c>a a>b");
        due("covers", x.covers(0), 2);
        shelf(x, 1, 20);
        x = town(FIVE, "e>d d>c c>b b>a");
        due("covers", x.covers(0), 4);
        shelf(x, 10, 21, 32, 43);
        x = town(FIVE, "a>d a>e b>d b>e c>d c>e");
        due("covers", x.covers(0), 6);
        shelf(x, 3, 4, 13, 14, 23, 24);
        x = town("twins;" + things(4), "a>b b=c c>d");
        due("of even ones none is between", x.covers(0), 4);
        shelf(x, 1, 2, 13, 23);
        due("nothing is sure", town(ABC).covers(0), 0);
        due("of nothing", new HeavierRow().covers(0), 0);
        sentence("27: surely lighter, heavier; an EVEN one is neither");
        x = town("twins;" + things(4), "a>b b=c c>d");
        due("lighter than b", x.sits(1, 0, 0), 8);
        due("heavier than b", x.sits(1, 1, 0), 1);
        due("lighter than a", x.sits(0, 0, 0), 14);
        due("heavier than a", x.sits(0, 1, 0), 0);
        sentence("30: THINGS that are SURELY EVEN to one");
        int[] twins = {0, 4, 2, 0};
        for (int thing = 0; thing < 4; thing++) {
            due("twins", x.twins(thing, 0), twins[thing]);
        }
        due("all", town("twins;" + FIVE, "a=b b=c c=d d=e").twins(2, 0), 27);
        due("without twins", town(ABC, "a>b").twins(0, 0), 0);
    }

    private static void led() {
        sentence("28: with another one, or (itself) in all");
        HeavierRow x = town(ABC + "row b;", "a>b b>a a=c c<b");
        x.told(3, 4, 1);
        x.told(1, 6, 1);
        int[][] led = {{3, 2, 1}, {2, 3, 1}, {1, 1, 2}};
        for (int thing = 0; thing < 3; thing++) {
            for (int other = 0; other < 3; other++) {
                due("led(" + thing + ", " + other + ")", x.led(thing, other, 0), led[thing][other]);
            }
        }
        sentence("28: that count, so or not");
        due("no ORDER is LEFT", x.odds(0, 1, 1, 0), 0);
        sentence("29: not so by the clerk's row (of which no two are EVEN)");
        due("b a c: a>b, a=c are not so", x.doubts(0), 2);
        x = town("twins;" + ABC, "a=b b=c a>c a<c");
        due("a b c: EVEN is never so", x.doubts(0), 3);
        due("ahead of all", x.doubts(-1), 0);
        due("of nothing", new HeavierRow().doubts(0), 0);
        x = town(things(2) + "row b;");
        for (int i = 0; i < 60; i++) {
            x.told(1, 2, 1);
        }
        due("60", x.doubts(0), 60);
        due("60", x.led(1, 1, 0), 60);
    }

    private static void sets() {
        sentence("part 3: LADDER, LOOSE: of like sets the least (as bits)");
        HeavierRow x = town(things(4), "a>b c>d");
        due("ladder", x.ladder(false, 0), 3);
        due("loose", x.ladder(true, 0), 5);
        x = town(things(4), "c<d");
        due("ladder", x.ladder(false, 0), 12);
        due("loose", x.ladder(true, 0), 7);
        x = town("twins;" + ABC, "b=c");
        due("EVEN ones are no ladder", x.ladder(false, 0), 1);
        due("EVEN ones are not loose", x.ladder(true, 0), 3);
        x = town(FIVE, "e>d d>c c>b b>a");
        due("all", x.ladder(false, 0), 31);
        due("one", x.ladder(true, 0), 1);
        due("nothing is known", town(FIVE).ladder(true, 0), 31);
        due("nothing is known", town(FIVE).ladder(false, 0), 1);
        for (int loose = 0; loose < 2; loose++) {
            due("one thing", town(things(1)).ladder(loose == 1, 0), 1);
            due("no thing", new HeavierRow().ladder(loose == 1, 0), 0);
        }
    }

    private static void bound(boolean twins, String tellings, int left, int bound) {
        HeavierRow x = town((twins ? "twins;" : "") + FIVE, tellings);
        due("left by " + tellings, x.odds(0, 1, 1, 0), left);
        due("bound of " + left, x.bound(0), bound);
    }

    private static void bounds() {
        sentence("part 3: BOUND: the least n so that 2 to the n (with twins 3) are no fewer");
        bound(false, "a>b b>c c>d d>e", 1, 0);
        bound(false, "a>b b>c c>d c>e", 2, 1);
        bound(false, "a>b b>c c>d b>e", 3, 2);
        bound(false, "a>b a>c d>a e>a", 4, 2);
        bound(false, "a>b b>c c>d", 5, 3);
        bound(false, "a>b a>c d>a d>e", 8, 3);
        bound(false, "a>b a>c b>d e>c", 9, 4);
        bound(false, "a>b a>c d>b e>c", 16, 4);
        bound(false, "a>b a>c a>d e>b", 18, 5);
        bound(false, "a>b a>c", 40, 6);
        bound(false, "a>b", 60, 6);
        bound(false, "", 120, 7);
        bound(true, "a=b b=c c=d d=e", 1, 0);
        bound(true, "a=b b=c c=d", 3, 1);
        bound(true, "a=b b=c c>d", 5, 2);
        bound(true, "a>b a<c b>d c>e d=e", 1, 0);
        bound(true, "a>b a<c b>d", 9, 2);
        bound(true, "a=b a>c a>d c<e", 11, 3);
        bound(true, "a>b a>c", 145, 5);
        bound(true, "a>b", 233, 5);
        bound(true, "", 541, 6);
        sentence("32: of nothing");
        due("one ORDER", new HeavierRow().bound(0), 0);
        due("one ORDER", town("twins;thing a weighs 1;").bound(0), 0);
    }

    private static void swapped(String text, int m, int orders, int fewest, int next) {
        HeavierRow x = town(text);
        due("ORDERS with " + m + " of " + text, x.swapped(m, 2), orders);
        due("fewest with " + m + " of " + text, x.swapped(m, 0), fewest);
        due("next with " + m + " of " + text, x.swapped(m, 1), next);
    }

    private static void swapped() {
        sentence("part 3: SWAPPED with m (0 .. 2): none in two of these twos");
        int[][] orders = {{1, 1, 1}, {1, 1, 1}, {1, 2, 2}, {1, 3, 3}, {1, 4, 5}, {1, 5, 8}};
        int[][] fewest = {{0, 0, 0}, {0, 0, 0}, {0, 1, 1}, {0, 2, 2}, {0, 3, 3}, {0, 4, 4}};
        for (int n = 0; n <= 5; n++) {
            for (int m = 0; m <= 2; m++) {
                swapped(things(n), m, orders[n][m], fewest[n][m], n < 2 || m == 0 ? NONE : 1);
                sentence("part 3: SWAPPED: without twins");
                swapped("twins;" + things(n), m, orders[n][m], fewest[n][m], n < 2 || m == 0 ? NONE : 1);
            }
        }
        sentence("part 3: SWAPPED: NEXT: the first two of THINGS");
        swapped(ABC + "row a c;", 1, 3, 2, 2);
        swapped(ABC + "row c;", 1, 3, 2, 1);
        swapped(ABC + "row b c;", 2, 3, 2, 2);
        swapped(FIVE + "row a c e b d;", 1, 5, 4, 2);
        swapped(things(2) + "row b;", 1, 2, 1, 1);
        sentence("part 3: SWAPPED: whatever else is known");
        HeavierRow x = town(ABC, "a>b b>c");
        due("fewest", x.swapped(1, 0), 2);
        due("next", x.swapped(1, 1), 1);
        due("ORDERS", x.swapped(1, 2), 3);
        sentence("34: NONE if there is none such PLACE of the clerk's row");
        due("clerk(2)", x.clerk(2), 2);
        due("clerk(3)", x.clerk(3), NONE);
        due("clerk(-1)", x.clerk(-1), NONE);
    }

    private static void noLies() {
        sentence("part 3: of ORDERS LEFT with no lies");
        HeavierRow x = town(ABC, "a>b b>c");
        x.left(60, 0);
        due("left(60) is not known", x.fewest(0, 0, 0), 0);
        x.left(1, 0);
        due("left(1) is not known", x.bound(0), 0);
        due("left(1) is not known", x.stand(0, true, 0), 1);
        x.swapped(2, 0);
        due("nor SWAPPED", x.fewest(0, 0, 0), 0);
        due("nor what was asked of another TIME", x.fewest(0, 0, -1), 3);
        due("nor what was asked of another TIME", x.fewest(0, 0, 0), 0);
    }

    /** What was found for what was LEFT then is not told of what is LEFT now. */
    private static void askedAgain() {
        sentence("part 3: what is asked of other ORDERS, another GOAL, another STREET");
        HeavierRow x = town(ABC);
        due("all", x.fewest(0, 0, 0), 3);
        due("the heaviest", x.fewest(1, 0, 0), 2);
        due("the middle one", x.fewest(1, 1, 0), 3);
        due("b's PLACE", x.fewest(2, 1, 0), 2);
        due("b's NEXT", x.next(2, 1, 0), 1);
        due("c's NEXT", x.next(2, 2, 0), 2);
        due("trusty", x.trusty(0, 0, 0), 6);
        due("trusty of a", x.trusty(2, 0, 0), 5);
        due("at once", x.atOnce(0, 0, 0), 7);
        tell(x, "a>b");
        due("three", x.fewest(0, 0, 0), 2);
        due("trusty of three", x.trusty(0, 0, 0), 5);
        tell(x, "c>a");
        due("one", x.fewest(0, 0, 0), 0);
        due("trusty of one", x.trusty(0, 0, 0), 0);
        x.untell(0);
        due("three others", x.total(0, 0, 0, 0), 5);
        due("their NEXT", x.total(0, 0, 1, 0), 1);
        due("their NEXT", x.next(0, 0, 0), 1);
        due("at once", x.atOnce(0, 0, 0), 5);
        due("trusty", x.trusty(0, 0, 0), 5);
        x.untell(1);
        due("all", x.total(0, 0, 0, 0), 16);
        due("SWAPPED", x.swapped(1, 0), 2);
        due("all", x.fewest(0, 0, 0), 3);
        feed(x, FIVE);
        x.street();
        due("five", x.fewest(0, 0, 0), 7);
        due("five", x.total(0, 0, 0, 0), 832);
        due("SWAPPED", x.swapped(2, 0), 4);
        feed(x, things(2));
        x.street();
        due("two", x.trusty(0, 0, 0), 3);
        due("two", x.fewest(0, 0, 0), 1);
        due("two", x.total(0, 0, 0, 0), 2);
        feed(x, "twins;" + things(2));
        x.street();
        due("two with twins", x.total(0, 0, 0, 0), 3);
        feed(x, things(4));
        x.street();
        due("four", x.total(0, 0, 0, 0), 112);
        due("four", x.fewest(1, 1, 0), 4);
    }

    private static void questions() {
        sentence("what is asked changes nothing but what lies there, and that only where it is told");
        HeavierRow x = town(ABC + PLAN, "a>b");
        x.stones(13, true);
        String told = seen(x);
        x.place(0, true, 0);
        x.stand(0, true, 0);
        x.surely(0, 1, 0);
        x.fewest(0, 0, 0);
        x.next(0, 0, 0);
        x.total(0, 0, 1, 0);
        x.atOnce(0, 0, 0);
        x.answers(0, 0, 2, 0);
        x.judged(0, 0, 0, 0, 0);
        x.trusty(0, 0, 0);
        x.odds(0, 1, 0, 0);
        x.evenest(0);
        x.sits(0, 0, 0);
        x.led(0, 1, 0);
        x.doubts(0);
        x.twins(0, 0);
        x.ladder(true, 0);
        x.bound(0);
        x.swapped(2, 1);
        x.clerk(0);
        x.weight(0, true, 0);
        x.could(1, 2, 0);
        x.heaps(0, 0);
        due("what is seen", seen(x), told);
        shelf(x, 1, 3, 9);
    }

    public static void main(String[] args) {
        asKnown();
        noneLeft(ABC + PLAN, "a>b b>a");
        noneLeft(ABC + PLAN, "a=b");
        noneLeft("twins;" + ABC + PLAN, "a=b b=c a>c");
        whatCannotBe();
        left();
        places();
        goals();
        spent();
        trusty();
        answers();
        judged();
        sure();
        led();
        sets();
        bounds();
        swapped();
        noLies();
        askedAgain();
        questions();
        finish("OrderEdgesTest");
    }
}
