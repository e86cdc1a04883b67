/** The edges that promises 6 to 11 and 41 to 43 and part 2 of the terms name: weighings, wet days, time, boxes. */
public final class BookEdgesTest extends Due {
    private static final int MOST_WEIGHINGS = 60;
    private static final int MOST_DAYS = 40;

    private static void refusedWeigh(HeavierRow x, int first, int second) {
        String told = seen(x);
        due("weigh(" + first + ", " + second + ")", x.weigh(first, second), NONE);
        due("told(" + first + ", " + second + ", 0)", x.told(first, second, 0), NONE);
        due("what is seen", seen(x), told);
    }

    private static void heaps() {
        sentence("part 2: HEAPS: none in both, none empty; 6, 7: NONE, doing nothing, if one can't be");
        HeavierRow x = town(ABC);
        x.weigh(1, 6);
        int[][] bad = {{0, 1}, {1, 0}, {0, 0}, {1, 1}, {7, 7}, {3, 2}, {6, 4}, {5, 7}, {8, 1}, {1, 8}, {9, 2}, {2, 12},
            {-1, 1}, {1, -2}, {-8, 1}, {16, 32}, {1, FAR}, {LOW, 1}, {1, LOW}, {1 << 30, 1}, {1, 1 << 16}};
        for (int i = 0; i < bad.length; i++) {
            x = i % 4 == 0 ? town(ABC) : x;
            refusedWeigh(x, bad[i][0], bad[i][1]);
        }
        x = town(ABC);
        for (int first = 0; first < 8; first++) {
            for (int second = 0; second < 8; second++) {
                boolean can = first > 0 && second > 0 && (first & second) == 0;
                due("heaps " + first + " and " + second, x.told(first, second, 1) != NONE, can);
            }
        }
        x = town(FIVE);
        due("one against four", x.weigh(16, 15), 2);
        due("four against one", x.weigh(30, 1), 1);
        due("a sixth thing", x.weigh(32, 1), NONE);
        x = town("thing a weighs 1;");
        due("one thing has no other heap", x.weigh(1, 1), NONE);
        due("one thing has no other heap", x.weigh(1, 2), NONE);
        due("no thing", new HeavierRow().told(1, 2, 0), NONE);
        sentence("7: what the balance said: 0 .. 2");
        x = town(ABC);
        int[] badSaid = {-1, 3, -2, 4, FAR, LOW};
        String told = seen(x);
        for (int said : badSaid) {
            due("told(1, 2, " + said + ")", x.told(1, 2, said), NONE);
        }
        due("what is seen", seen(x), told);
        for (int said = 0; said <= 2; said++) {
            due("told(1, 2, " + said + ")", x.told(1, 2, said), said);
            due("weighing(" + said + ", 2)", x.weighing(said, 2), said);
        }
    }

    private static void fullOfWeighings() {
        sentence("part 2: WEIGHINGS, 60 at most; 7: its number");
        HeavierRow x = town(ABC);
        for (int i = 0; i < MOST_WEIGHINGS - 1; i++) {
            due("told", x.told(1, 2, 2), i);
        }
        sentence("6: it is a WEIGHING told");
        due("the sixtieth", x.weigh(4, 2), 2);
        due("about(3)", x.about(3), MOST_WEIGHINGS);
        due("weighing(59, 0)", x.weighing(59, 0), 4);
        due("weighing(59, 1)", x.weighing(59, 1), 2);
        due("weighing(59, 2)", x.weighing(59, 2), 2);
        sentence("6, 7: NONE, doing nothing, if there are 60");
        refusedWeigh(x, 1, 2);
        due("weighing(60, 0)", x.weighing(60, 0), NONE);
        sentence("6, 7: those that are UNTOLD are WEIGHINGS, too");
        due("untell(0)", x.untell(0), true);
        refusedWeigh(x, 1, 2);
        x.wet();
        refusedWeigh(x, 1, 2);
        due("about(3)", x.about(3), MOST_WEIGHINGS);
    }

    /** Of two things alone, and of a heap of two against the third. */
    private static void sticks(int sticks, int heavy, int light, int said) {
        String text = "sticks " + sticks + ";thing a weighs " + heavy + ";thing b weighs " + light + ";thing c weighs 1;";
        HeavierRow x = town(text);
        due(heavy + " against " + light + " by " + sticks, x.weigh(1, 2), said);
        due(light + " against " + heavy + " by " + sticks, x.weigh(2, 1), said == 1 ? 2 : 0);
        int more = heavy - light - 1;
        due("with c to the lighter one", x.weigh(1, 6), more > sticks ? 1 : -more > sticks ? 2 : 0);
    }

    private static void balance() {
        sentence("part 2: 1 if it weighs more by more than sticks, 2 likewise, 0 EVEN else");
        sticks(0, 5, 5, 0);
        sticks(0, 6, 5, 1);
        sticks(1, 6, 5, 0);
        sticks(1, 7, 5, 1);
        sticks(3, 8, 5, 0);
        sticks(3, 9, 5, 1);
        sticks(98, 100, 1, 1);
        sticks(99, 100, 1, 0);
        sticks(99, 101, 1, 1);
        sticks(99, 999, 900, 0);
        sticks(99, 999, 899, 1);
        HeavierRow x = town("sticks 99;thing a weighs 999;thing b weighs 999;thing c weighs 999;thing d weighs 999;thing e weighs 1;");
        due("3996 against 1", x.weigh(15, 16), 1);
        due("1 against 3996", x.weigh(16, 15), 2);
        due("1998 against 1999", x.weigh(3, 28), 0);
    }

    private static void weighings() {
        sentence("8: NONE if there is none such, or for another what");
        HeavierRow x = town(ABC);
        due("weighing(0, 0) of none", x.weighing(0, 0), NONE);
        x.told(6, 1, 2);
        x.told(1, 4, 0);
        int[] none = {-1, 2, 59, 60, 61, FAR, LOW};
        for (int w : none) {
            for (int what = 0; what < 4; what++) {
                due("weighing(" + w + ", " + what + ")", x.weighing(w, what), NONE);
            }
        }
        int[] others = {-1, 4, 5, FAR, LOW};
        for (int what : others) {
            due("weighing(0, " + what + ")", x.weighing(0, what), NONE);
        }
        sentence("8: 3: 1 if it is UNTOLD, else 0");
        due("told", x.weighing(0, 3), 0);
        x.wet();
        due("a wet day unsays nothing", x.weighing(0, 3), 0);
        x.untell(0);
        due("untold", x.weighing(0, 3), 1);
        due("the other one", x.weighing(1, 3), 0);
        int[] first = {6, 1, 2};
        for (int what = 0; what < 3; what++) {
            due("weighing(0, " + what + ")", x.weighing(0, what), first[what]);
        }
    }

    /** The same days with the hidden weights in the test's own row. */
    private static void days(int... weights) {
        String text = "";
        for (int thing = 0; thing < weights.length; thing++) {
            text += "thing " + (char) ('a' + thing) + " weighs " + weights[thing] + ";";
        }
        HeavierRow x = town(text);
        int seed = 0;
        for (int day = 1; day <= MOST_DAYS; day++) {
            seed = (137 * seed + 71) % 1000;
            int d = seed % (weights.length - 1);
            due("d of day " + day + " of " + text, x.wet(), d);
            due("about(9)", x.about(9), day);
            int upper = ranked(weights, d);
            int lower = ranked(weights, d + 1);
            int weight = weights[upper];
            weights[upper] = weights[lower];
            weights[lower] = weight;
            int one = day % weights.length;
            int other = (one + 1) % weights.length;
            int more = weights[one] - weights[other];
            due("day " + day + ": " + one + " against " + other, x.weigh(1 << one, 1 << other), more > 0 ? 1 : more < 0 ? 2 : 0);
        }
        sentence("9: NONE, doing nothing, if there were 40");
        String told = seen(x);
        due("a 41st day", x.wet(), NONE);
        due("what is seen", seen(x), told);
        for (int thing = 1; thing < weights.length; thing++) {
            int more = weights[thing - 1] - weights[thing];
            due("hidden weights", x.weigh(1 << thing - 1, 1 << thing), more > 0 ? 1 : more < 0 ? 2 : 0);
        }
    }

    private static int ranked(int[] weights, int rank) {
        for (int thing = 0; thing < weights.length; thing++) {
            int ahead = 0;
            for (int other = 0; other < weights.length; other++) {
                ahead += weights[other] > weights[thing] || weights[other] == weights[thing] && other < thing ? 1 : 0;
            }
            if (ahead == rank) {
                return thing;
            }
        }
        throw new IllegalStateException();
    }

    private static void wetDays() {
        int[][] rows = {{7, 5}, {5, 7}, {7, 5, 2}, {2, 2, 9}, {4, 4, 4}, {9, 1, 7, 3}, {3, 3, 1, 1}, {9, 7, 5, 3, 1},
            {1, 2, 3, 4, 5}, {6, 6, 2, 6, 2}, {999, 1, 500, 999, 1}};
        for (int[] row : rows) {
            sentence("part 2: on a WET DAY (40 at most) that at d and the next one exchange their weights; modulo 1,000");
            days(row);
        }
        sentence("9: NONE, doing nothing, with less than two THINGS");
        HeavierRow x = new HeavierRow();
        due("no thing", x.wet(), NONE);
        due("days", x.about(9), 0);
        x = town("thing a weighs 1;");
        String told = seen(x);
        due("one thing", x.wet(), NONE);
        due("what is seen", seen(x), told);
        feed(x, ABC);
        x.street();
        due("the SEED is 0 still", x.wet(), 1);
    }

    private static void ledAt(HeavierRow x, int k, int want) {
        due("weighings of a and b as known at " + k, x.led(0, 1, k), want);
    }

    private static void known() {
        sentence("part 2: those count that were TOLD at k or before");
        HeavierRow x = town(ABC);
        x.told(1, 2, 1);
        x.later(5);
        x.told(1, 2, 1);
        x.told(1, 2, 2);
        int[][] told = {{LOW, 0}, {-1, 0}, {0, 1}, {1, 1}, {4, 1}, {5, 3}, {6, 3}, {FAR, 3}};
        for (int[] at : told) {
            ledAt(x, at[0], at[1]);
        }
        sentence("part 2: not UNTOLD at k or before");
        x.later(2);
        x.untell(0);
        x.untell(2);
        int[][] untold = {{-1, 0}, {0, 1}, {4, 1}, {5, 3}, {6, 3}, {7, 1}, {8, 1}, {FAR, 1}};
        for (int[] at : untold) {
            ledAt(x, at[0], at[1]);
        }
        sentence("part 2: UNTOLD at the same TIME");
        x.told(1, 2, 1);
        ledAt(x, 7, 2);
        x.untell(3);
        ledAt(x, 6, 3);
        ledAt(x, 7, 1);
        sentence("part 2: WEIGHINGS told ahead of a WET DAY count no more as known at its TIME and later");
        x = town(ABC);
        x.told(1, 2, 1);
        x.later(3);
        x.told(1, 2, 1);
        x.wet();
        x.told(1, 2, 1);
        x.told(1, 2, 1);
        x.told(1, 2, 1);
        int[][] wet = {{-1, 0}, {0, 1}, {2, 1}, {3, 3}, {4, 3}, {FAR, 3}};
        for (int[] at : wet) {
            ledAt(x, at[0], at[1]);
        }
        x.later(1);
        x.wet();
        x.wet();
        x.told(1, 2, 1);
        int[][] wetter = {{0, 1}, {2, 1}, {3, 3}, {4, 1}, {5, 1}, {FAR, 1}};
        for (int[] at : wetter) {
            ledAt(x, at[0], at[1]);
        }
        sentence("9: a refused WET DAY does nothing");
        for (int day = x.about(9); day < MOST_DAYS; day++) {
            x.wet();
        }
        x.told(1, 2, 1);
        x.told(1, 2, 1);
        ledAt(x, FAR, 2);
        due("a 41st", x.wet(), NONE);
        ledAt(x, FAR, 2);
    }

    private static void untelling() {
        sentence("10: false if it is so already, or there is none such");
        HeavierRow x = town(ABC);
        due("untell(0) of none", x.untell(0), false);
        x.told(1, 2, 1);
        x.told(1, 2, 1);
        int[] none = {-1, 2, 59, 60, FAR, LOW};
        for (int w : none) {
            due("untell(" + w + ")", x.untell(w), false);
        }
        ledAt(x, 0, 2);
        due("the last one", x.untell(1), true);
        due("again", x.untell(1), false);
        x.later(1);
        due("again, later", x.untell(1), false);
        ledAt(x, 0, 1);
        due("the first one", x.untell(0), true);
        ledAt(x, 0, 1);
        ledAt(x, 1, 0);
        sentence("10: an UNTOLD one is a WEIGHING still");
        due("its number is kept", x.told(1, 2, 1), 2);
        due("about(3)", x.about(3), 3);
        x.wet();
        due("one told ahead of a wet day, too", x.untell(2), true);
        ledAt(x, 1, 0);
    }

    private static void time() {
        sentence("11: so much later (0 .. 1000): the TIME");
        HeavierRow x = town(ABC);
        due("later(0)", x.later(0), 0);
        due("later(1000)", x.later(1000), 1000);
        due("later(1)", x.later(1), 1001);
        sentence("11: NONE, doing nothing, for another number");
        int[] bad = {-1, 1001, 1002, 100000, -1000, FAR, LOW, FAR - 1000};
        for (int by : bad) {
            due("later(" + by + ")", x.later(by), NONE);
            due("the TIME behind later(" + by + ")", x.about(4), 1001);
        }
        for (int i = 0; i < 98; i++) {
            x.later(1000);
        }
        due("the TIME", x.about(4), 99001);
        sentence("11: NONE, doing nothing, if it would be above 100,000");
        due("1000 more", x.later(1000), NONE);
        due("the TIME", x.about(4), 99001);
        due("up to 99,999", x.later(998), 99999);
        due("2 more", x.later(2), NONE);
        due("1 more", x.later(1), 100000);
        due("1 more", x.later(1), NONE);
        due("the TIME", x.about(4), 100000);
        due("none more", x.later(0), 100000);
        x.told(1, 2, 1);
        ledAt(x, 99999, 0);
        ledAt(x, 100000, 1);
        sentence("4: the TIME stays");
        feed(x, ABC);
        x.street();
        due("the TIME", x.about(4), 100000);
        due("1 more", x.later(1), NONE);
    }

    private static void boxes() {
        sentence("41: NONE if there is none such BOX; nothing is kept then");
        HeavierRow x = town(ABC);
        int[] none = {-1, 3, 4, -2, FAR, LOW};
        for (int box : none) {
            due("image(" + box + ")", x.image(box), NONE);
            due("back(" + box + ")", x.back(box), NONE);
        }
        sentence("42: NONE, doing nothing, if nothing was");
        x.told(1, 2, 1);
        for (int box = 0; box < 3; box++) {
            due("back(" + box + ")", x.back(box), NONE);
        }
        due("about(3)", x.about(3), 1);
        sentence("41: kept in a BOX 0 .. 2: how many WEIGHINGS");
        due("image(0)", x.image(0), 1);
        x.untell(0);
        x.told(1, 2, 2);
        due("image(1)", x.image(1), 2);
        due("back(2): nothing is in it", x.back(2), NONE);
        due("about(3)", x.about(3), 2);
        x.told(1, 2, 2);
        due("image(2)", x.image(2), 3);
        sentence("42: all that is as it was kept: how many WEIGHINGS");
        due("back(0)", x.back(0), 1);
        due("not UNTOLD then", x.weighing(0, 3), 0);
        due("back(1)", x.back(1), 2);
        due("UNTOLD then", x.weighing(0, 3), 1);
        due("back(2)", x.back(2), 3);
        x.told(4, 2, 0);
        due("a BOX isn't changed by what comes behind", x.back(2), 3);
        due("there is no fourth", x.weighing(3, 0), NONE);
        due("a BOX may be filled again", x.image(0), 3);
        due("back(0)", x.back(0), 3);
        sentence("42: WET DAYS, hidden weights, the SEED, the TIME");
        keptDays();
        fullBoxes();
        sentence("4: BOXES are empty then");
        feed(x, ABC);
        x.street();
        for (int box = 0; box < 3; box++) {
            due("back(" + box + ")", x.back(box), NONE);
        }
    }

    private static void keptDays() {
        HeavierRow x = town(ABC);
        x.later(9);
        due("71 of 2", x.wet(), 1);
        x.told(1, 2, 1);
        due("image", x.image(1), 1);
        String told = seen(x);
        due("798 of 2", x.wet(), 0);
        due("397 of 2", x.wet(), 1);
        x.later(4);
        x.untell(0);
        due("back", x.back(1), 1);
        due("what is seen", seen(x), told);
        due("the TIME", x.about(4), 9);
        due("days", x.about(9), 1);
        due("798 of 2", x.wet(), 0);
        sentence("42: what no BOX keeps stays: the TAPE, what lies there, the FAULT");
        feed(x, "?");
        x.street();
        feed(x, "thing");
        x.weights(9);
        due("back", x.back(1), 1);
        due("bytes", x.about(5), 5);
        due("what lies there", x.about(6), 3);
        due("the FAULT", x.fault(0), 1);
    }

    private static void fullBoxes() {
        sentence("41, 42: a BOX of 60 WEIGHINGS and 40 WET DAYS");
        HeavierRow x = town(ABC);
        x.image(0);
        for (int i = 0; i < MOST_WEIGHINGS; i++) {
            x.told(1 + i % 2, 4, i % 3);
        }
        for (int day = 0; day < MOST_DAYS; day++) {
            x.wet();
        }
        due("image(1)", x.image(1), MOST_WEIGHINGS);
        due("back(0)", x.back(0), 0);
        due("none is there", x.weighing(0, 0), NONE);
        due("days", x.about(9), 0);
        due("the SEED is 0", x.wet(), 1);
        due("it may be told again", x.told(2, 1, 0), 0);
        due("back(1)", x.back(1), MOST_WEIGHINGS);
        due("days", x.about(9), MOST_DAYS);
        due("no more days", x.wet(), NONE);
        due("no more weighings", x.told(1, 2, 0), NONE);
        for (int i = 0; i < MOST_WEIGHINGS; i += 7) {
            due("weighing(" + i + ", 0)", x.weighing(i, 0), 1 + i % 2);
            due("weighing(" + i + ", 2)", x.weighing(i, 2), i % 3);
        }
    }

    private static void about() {
        sentence("43: NONE for another what");
        HeavierRow x = town("twins;sticks 99;" + FIVE + "plan q a b(done/done);plan r done;plan s b a(c d(done/done)/done);");
        int[] others = {-1, 10, 11, FAR, LOW};
        for (int what : others) {
            due("about(" + what + ")", x.about(what), NONE);
        }
        sentence("43: what 0 .. 9");
        for (int i = 0; i < 100; i++) {
            x.later(1000);
        }
        for (int i = 0; i < MOST_WEIGHINGS; i++) {
            x.told(1, 2, 0);
        }
        for (int day = 0; day < MOST_DAYS; day++) {
            x.wet();
        }
        for (int i = 0; i < 60; i++) {
            x.feed(0, 0, 0, 0, 0);
        }
        x.stones(40, false);
        int[] full = {5, 1, 99, MOST_WEIGHINGS, 100000, 1200, 6, 3, 3, MOST_DAYS};
        for (int what = 0; what < full.length; what++) {
            due("about(" + what + ")", x.about(what), full[what]);
        }
    }

    public static void main(String[] args) {
        heaps();
        fullOfWeighings();
        balance();
        weighings();
        wetDays();
        known();
        untelling();
        time();
        boxes();
        about();
        finish("BookEdgesTest");
    }
}
