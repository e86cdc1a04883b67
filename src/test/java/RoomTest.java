import java.lang.management.ManagementFactory;

/** All calls of one run live in one room: 600,000 objects and arrays, 7.3 million fields and elements in all. */
public final class RoomTest extends Due {
    private static final int MOST_CALLS = 512;
    /** Eight bytes for each element, sixteen for each object: no run in the room takes more. */
    private static final long ROOM = 8 * 7300000L + 16 * 600000L;

    private static long taken() {
        return ((com.sun.management.ThreadMXBean) ManagementFactory.getThreadMXBean()).getCurrentThreadAllocatedBytes();
    }

    private static void ask(HeavierRow x, int call) {
        int goal = call / 16 % 3;
        int p = call / 48 % 5;
        switch (call % 16) {
            case 0 -> x.fewest(goal, p, 0);
            case 1 -> x.next(goal, p, 0);
            case 2 -> x.total(goal, p, 0, 0);
            case 3 -> x.total(goal, p, 1, 0);
            case 4 -> x.atOnce(goal, p, 0);
            case 5 -> x.trusty(goal, p, 0);
            case 6 -> x.heaps(call % 3, 0);
            case 7 -> x.weights(0);
            case 8 -> x.stones(40, call % 32 == 8);
            case 9 -> x.struck(0);
            case 10 -> x.left(60, 0);
            case 11 -> x.swapped(2, 0);
            case 12 -> x.judged(0, goal, p, 0, 0);
            case 13 -> x.answers(goal, p, 0, 0);
            case 14 -> x.covers(0);
            default -> {
                x.untell(x.about(3) - 1);
                x.told(1 << call % 4, 16, 1 + call % 2);
            }
        }
    }

    private static void run(String text) {
        long ahead = taken();
        HeavierRow x = town(text + FIVE + "plan q a b(c d(done/done/a c(done/done))/done);");
        for (int call = x.about(5) + 40; call < MOST_CALLS; call++) {
            ask(x, call);
        }
        due("a run is in the room", taken() - ahead < ROOM, true);
    }

    /** A search for each call, as what is told is another thing each time. */
    private static void runOfSearches() {
        long ahead = taken();
        HeavierRow x = town(FIVE);
        x.image(0);
        for (int call = 30; call + 4 <= MOST_CALLS; call += 4) {
            x.told(1 << call / 4 % 4, 16, 1 + call / 16 % 2);
            x.total(1, call % 5, 0, 0);
            x.fewest(1, call % 3, 0);
            x.back(0);
        }
        due("a run is in the room", taken() - ahead < ROOM, true);
    }

    private static void runOfTexts() {
        long ahead = taken();
        HeavierRow x = new HeavierRow();
        for (int call = 0; call + 12 < MOST_CALLS; call += 12) {
            feed(x, "twins;" + FIVE);
            x.street();
        }
        due("a run is in the room", taken() - ahead < ROOM, true);
    }

    public static void main(String[] args) {
        sentence("the room of one run");
        run("");
        run("twins;");
        runOfSearches();
        runOfTexts();
        finish("RoomTest");
    }
}
