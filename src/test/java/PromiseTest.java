/** Each promise of the document: ordinary inputs, the edges it names, wrong inputs. The answers are worked out by hand. */
public final class PromiseTest extends Due {
    private static void newObject() {
        sentence("promise 1");
        HeavierRow x = new HeavierRow();
        for (int what = 0; what < 10; what++) {
            due("about(" + what + ")", x.about(what), 0);
        }
        due("left", x.left(0, 0), 1);
        due("weights", x.weights(0), 1);
        due("clerk", x.clerk(0), NONE);
        due("weigh", x.weigh(1, 2), NONE);
        shelf(x);
    }

    private static void tape() {
        sentence("promise 2");
        HeavierRow x = new HeavierRow();
        due("feed", x.feed(0x74776973, 0x3b202020, 0x20202020, 0x20202020, 0x20202020), 20);
        due("a wrong word", x.street(), NONE);
        due("its place", x.fault(1), 0);
        due("highest byte first", x.feed(0x7477696e, 0x733b2020, 0x20202020, 0x20202020, 0x0a202020), 20);
        due("street", x.street(), 0);
        due("twins", x.about(1), 1);
        for (int i = 1; i <= 60; i++) {
            due("feed " + i, x.feed(-1, -1, -1, -1, -1), 20 * i);
        }
        due("feed 61", x.feed(0, 0, 0, 0, 0), NONE);
        due("tape", x.about(5), 1200);
        sentence("promise 3");
        due("end(1201)", x.end(1201), NONE);
        due("end(-1)", x.end(-1), NONE);
        due("tape", x.about(5), 1200);
        due("end(1200)", x.end(1200), 1200);
        due("end(7)", x.end(7), 7);
        due("end(8)", x.end(8), NONE);
        due("end(0)", x.end(0), 0);
        due("tape", x.about(5), 0);
        due("feed goes on behind", x.feed(0, 0, 0, 0, 0), 20);
    }

    private static void street() {
        sentence("promise 4");
        HeavierRow x = town(ABC + "sticks 3; plan q a b (done / done);");
        x.later(7);
        x.weigh(1, 2);
        x.wet();
        x.left(0, 9);
        x.image(1);
        feed(x, "twins; thing z;");
        due("street", x.street(), NONE);
        due("things stay", x.about(0), 3);
        due("twins stay", x.about(1), 0);
        due("sticks stay", x.about(2), 3);
        due("weighings stay", x.about(3), 1);
        due("the tape is empty", x.about(5), 0);
        due("the shelf stays", x.about(6), 3);
        due("plans stay", x.about(7), 1);
        due("twos stay", x.about(8), 1);
        due("days stay", x.about(9), 1);
        due("boxes stay", x.back(1), 1);
        feed(x, "\n twins ; thing z weighs 999;thing thingy weighs 1;row thingy;sticks 99;");
        due("street", x.street(), 2);
        int[] about = {2, 1, 99, 0, 7, 0, 0, 0, 0, 0};
        for (int what = 0; what < about.length; what++) {
            due("about(" + what + ")", x.about(what), about[what]);
        }
        due("boxes are empty", x.back(1), NONE);
        due("hidden weights", x.weigh(1, 2), 1);
        due("the row", x.clerk(0), 1);
        due("an empty text", x.street(), 0);
        due("sticks", x.about(2), 0);
        x = town(ABC);
        x.wet();
        x.wet();
        feed(x, ABC);
        x.street();
        due("the seed is 0", x.wet(), 1);
        due("the seed goes on", x.wet(), 0);
    }

    private static void fault(String text, int what, int place) {
        HeavierRow x = new HeavierRow();
        feed(x, text);
        x.street();
        due("fault(0) of " + text, x.fault(0), what);
        due("fault(1) of " + text, x.fault(1), place);
        due("fault(2)", x.fault(2), NONE);
        due("fault(-1)", x.fault(-1), NONE);
    }

    private static void faults() {
        sentence("promise 5");
        HeavierRow x = new HeavierRow();
        due("ahead of any", x.fault(0), 0);
        due("ahead of any", x.fault(1), NONE);
        fault("twins;", 0, NONE);
        fault("thing a weighs5;thing b\nweighs 6;", 0, NONE);
        fault("Twins;", 1, 0);
        fault("thing abcdefgh weighs 1;", 0, NONE);
        fault("thing abcdefghi weighs 1;", 1, 6);
        fault("sticks 00001;", 1, 7);
        fault("sticks 0001;", 0, NONE);
        fault("sticks 1a;", 1, 7);
        fault("sticks 1 a;", 2, 9);
        fault("twins\t;", 1, 5);
        fault("twins;\u00fe", 1, 6);
        fault("twins; 7", 2, 7);
        fault("twins", 2, 5);
        fault("twins  ", 2, 7);
        fault("twins; twins;", 2, 7);
        fault("sticks 1; sticks 1;", 2, 10);
        fault("sticks 99;", 0, NONE);
        fault("sticks 100;", 4, 7);
        fault("sticks;", 2, 6);
        fault("thing weighs weighs 5;", 2, 6);
        fault("thing a a 5;", 2, 8);
        fault("thing a weighs a;", 2, 15);
        fault("thing a weighs 0;", 4, 15);
        fault("thing a weighs 999;", 0, NONE);
        fault("thing a weighs 1000;", 4, 15);
        fault("thing a weighs 1;thing a weighs 1000;", 3, 23);
        fault(FIVE + " thing a ?;", 2, 86);
        fault("row;", 2, 3);
        fault("row a;", 5, 4);
        fault("thing a weighs 1;row a a;", 3, 23);
        fault("thing a weighs 1;row a b;", 5, 23);
        fault("thing a weighs 1;row a;row a;", 2, 23);
        fault(FIVE + "row e d c b a;", 0, NONE);
        fault(FIVE + "row e d c b a b;", 3, FIVE.length() + 14);
        fault(FIVE + "row e d c b a f;", 5, FIVE.length() + 14);
        fault(FIVE + "row e d c b a ?;", 1, FIVE.length() + 14);
        planFaults();
    }

    private static void planFaults() {
        String two = "thing a weighs 1;thing b weighs 2;";
        fault(two + "plan a done;plan b a b(done/done/done);", 0, NONE);
        fault(two + "plan a done;plan a done;", 3, 51);
        fault(two + "plan done done;", 2, 39);
        fault(two + "plan p;", 2, 40);
        fault(two + "plan p a a(done/done);", 3, 43);
        fault(two + "plan p c a(done/done);", 5, 41);
        fault(two + "plan p a c(done/done);", 5, 43);
        fault(two + "plan p a b(done);", 2, 49);
        fault(two + "plan p a b(done/done/done/done);", 2, 59);
        fault(two + "plan p a b done/done);", 2, 45);
        fault(two + "plan p done;plan q done;plan r done; plan ?", 2, 71);
        String deep = two + "plan p ";
        String ends = "";
        for (int i = 0; i < 10; i++) {
            deep += "a b(";
            ends += "/done)";
        }
        fault(deep + "done" + ends + ";", 0, NONE);
        fault(deep + "a b(done/done)" + ends + ";", 2, deep.length() + 4);
        fault(deep + "a b(?/done)" + ends + ";", 1, deep.length() + 4);
        String seconds = two + "plan p ";
        for (int i = 0; i < 10; i++) {
            seconds += "a b(done/";
        }
        fault(seconds + "done" + "))))))))))" + ";", 0, NONE);
        fault(seconds + "a b(done/done)" + "))))))))))" + ";", 2, seconds.length() + 4);
        String thirds = two + "plan p ";
        for (int i = 0; i < 10; i++) {
            thirds += "a b(done/done/";
        }
        fault(thirds + "done" + "))))))))))" + ";", 0, NONE);
        fault(thirds + "a b(done/done)" + "))))))))))" + ";", 2, thirds.length() + 4);
        String much = two;
        for (int plan = 0; plan < 3; plan++) {
            much += "plan p" + "qrs".charAt(plan) + " a b(" + branch(4) + "/" + (plan < 2 ? branch(3) : "done") + ");";
            if (plan == 1) {
                HeavierRow x = town(much);
                due("twos", x.about(8), 46);
            }
        }
        int place = -1;
        for (int i = 0; i < 61; i++) {
            place = much.indexOf("a b(", place + 1);
        }
        fault(much, 2, place);
    }

    /** A plan's part of 2 to the depth less one twos. */
    private static String branch(int depth) {
        return depth == 0 ? "done" : "a b(" + branch(depth - 1) + "/" + branch(depth - 1) + ")";
    }

    private static void weighings() {
        sentence("promise 6");
        HeavierRow x = town(ABC + "sticks 2;");
        due("7 against 5", x.weigh(1, 2), 0);
        due("7 against 2", x.weigh(1, 4), 1);
        due("2 against 5", x.weigh(4, 2), 2);
        due("7 against 7", x.weigh(1, 6), 0);
        due("12 against 2", x.weigh(3, 4), 1);
        due("5 weighings", x.about(3), 5);
        int[][] bad = {{0, 1}, {1, 0}, {1, 1}, {3, 6}, {8, 1}, {1, 8}, {-1, 1}, {1, -2}, {9, 2}};
        for (int[] heaps : bad) {
            due("weigh " + heaps[0] + " " + heaps[1], x.weigh(heaps[0], heaps[1]), NONE);
            sentence("promise 7");
            due("told " + heaps[0] + " " + heaps[1], x.told(heaps[0], heaps[1], 1), NONE);
            sentence("promise 37");
            due("could " + heaps[0] + " " + heaps[1], x.could(heaps[0], heaps[1], 0), NONE);
            sentence("promise 6");
        }
        sentence("promise 7");
        due("told", x.told(6, 1, 2), 5);
        due("told 3", x.told(6, 1, 3), NONE);
        due("told -1", x.told(6, 1, -1), NONE);
        due("told", x.told(1, 2, 0), 6);
        sentence("promise 8");
        int[] sixth = {6, 1, 2, 0, NONE};
        for (int what = 0; what < 5; what++) {
            due("weighing(5, " + what + ")", x.weighing(5, what), sixth[what]);
        }
        due("weighing(5, -1)", x.weighing(5, -1), NONE);
        due("weighing(7, 0)", x.weighing(7, 0), NONE);
        due("weighing(-1, 0)", x.weighing(-1, 0), NONE);
        for (int i = 7; i < 60; i++) {
            due("told", x.told(1, 2, 1), i);
        }
        sentence("promise 6");
        due("a 61st", x.weigh(1, 2), NONE);
        sentence("promise 7");
        due("a 61st", x.told(1, 2, 1), NONE);
        due("60", x.about(3), 60);
        due("all single ones of a", x.led(0, 0, 0), 56);
    }

    private static void times() {
        sentence("promise 9");
        HeavierRow x = town(ABC);
        due("d", x.wet(), 1);
        due("c weighs as b did", x.weigh(4, 2), 1);
        due("d", x.wet(), 0);
        due("c is heaviest", x.weigh(4, 1), 1);
        due("a is next", x.weigh(1, 2), 1);
        for (int day = 2; day < 40; day++) {
            x.wet();
        }
        due("a 41st", x.wet(), NONE);
        due("days", x.about(9), 40);
        due("one thing", town("thing a weighs 1;").wet(), NONE);
        x = town("thing a weighs 4; thing b weighs 4; thing c weighs 9;");
        due("d of like weights", x.wet(), 1);
        due("a and b exchanged", x.weigh(1, 2), 0);
        due("d", x.wet(), 0);
        due("c and a exchanged", x.weigh(1, 4), 1);
        sentence("promise 10");
        x = town(ABC);
        x.weigh(1, 2);
        due("left", x.left(0, 0), 3);
        due("later", x.later(5), 5);
        due("untell", x.untell(0), true);
        due("again", x.untell(0), false);
        due("none such", x.untell(1), false);
        due("none such", x.untell(-1), false);
        due("it is untold", x.weighing(0, 3), 1);
        due("left at 4", x.left(0, 4), 3);
        due("left at 5", x.left(0, 5), 6);
        due("left at -1", x.left(0, -1), 6);
        x.told(2, 4, 1);
        due("told at 5, as known at 4", x.led(1, 2, 4), 0);
        due("told at 5, as known at 5", x.led(1, 2, 5), 1);
        x.later(1);
        x.wet();
        x.told(2, 4, 2);
        due("ahead of the wet day, at 5", x.led(1, 2, 5), 1);
        due("the one behind it, at 6", x.surely(1, 2, 6), 2);
        due("one counts", x.led(1, 2, 100), 1);
        sentence("promise 11");
        due("later", x.later(1001), NONE);
        due("later", x.later(-1), NONE);
        due("later", x.later(0), 6);
        for (int i = 0; i < 99; i++) {
            x.later(1000);
        }
        due("later", x.later(995), NONE);
        due("later", x.later(994), 100000);
        due("later", x.later(1), NONE);
        due("later", x.later(0), 100000);
    }

    private static void left() {
        sentence("promise 12");
        HeavierRow x = town(ABC);
        due("left", x.left(0, 0), 6);
        shelf(x, 0, 1, 2);
        x.told(4, 1, 1);
        due("c heavier than a", x.left(0, 0), 3);
        shelf(x, 1, 2, 0);
        due("with a lie", x.left(1, 0), 6);
        shelf(x, 0, 1, 2);
        due("left(-1)", x.left(-1, 0), NONE);
        shelf(x);
        x.told(1, 4, 1);
        due("both can't be", x.left(0, 0), 0);
        shelf(x);
        due("one is a lie", x.left(1, 0), 6);
        due("left(60)", x.left(60, 0), 6);
        due("left(61)", x.left(61, 0), NONE);
        shelf(x);
        x.told(3, 4, 1);
        x.told(1, 2, 0);
        due("never even", x.left(1, 0), 0);
        due("two lies", x.left(2, 0), 6);
        due("with twins", town("twins;" + ABC).left(0, 0), 13);
        due("four with twins", town("twins;" + ABC + "thing d weighs 1;").left(0, 0), 75);
        sentence("promise 13");
        due("struck", x.struck(0), 2);
        shelf(x, 0, 1, 2);
        x.told(2, 1, 1);
        x.told(2, 1, 1);
        due("struck", x.struck(0), 2);
        shelf(x, 1, 0, 2);
        due("struck ahead of all", x.struck(-1), 0);
        shelf(x, 0, 1, 2);
        x = new HeavierRow();
        due("struck of nothing", x.struck(0), 0);
        shelf(x);
    }

    private static void known() {
        sentence("promise 14");
        HeavierRow x = town(FIVE);
        x.told(1, 2, 1);
        x.told(2, 4, 1);
        due("a", x.place(0, false, 0), 0);
        due("a", x.place(0, true, 0), 2);
        due("c", x.place(2, false, 0), 2);
        due("c", x.place(2, true, 0), 4);
        due("d", x.place(3, true, 0), 4);
        due("none such", x.place(5, true, 0), NONE);
        due("none such", x.place(-1, true, 0), NONE);
        sentence("promise 15");
        due("place 0 in some", x.stand(0, true, 0), 25);
        due("place 0 in all", x.stand(0, false, 0), 0);
        due("place 4 in some", x.stand(4, true, 0), 28);
        due("place 5", x.stand(5, true, 0), NONE);
        due("place -1", x.stand(-1, false, 0), NONE);
        sentence("promise 16");
        due("a b", x.surely(0, 1, 0), 1);
        due("a c, by b", x.surely(0, 2, 0), 1);
        due("c a", x.surely(2, 0, 0), 2);
        due("a d", x.surely(0, 3, 0), -2);
        due("a a", x.surely(0, 0, 0), NONE);
        due("a f", x.surely(0, 5, 0), NONE);
        due("-1 a", x.surely(-1, 0, 0), NONE);
        sentence("promise 27");
        due("lighter than a", x.sits(0, 0, 0), 6);
        due("heavier than c", x.sits(2, 1, 0), 3);
        due("lighter than d", x.sits(3, 0, 0), 0);
        due("what 2", x.sits(3, 2, 0), NONE);
        due("what -1", x.sits(3, -1, 0), NONE);
        due("none such", x.sits(5, 0, 0), NONE);
        sentence("promise 26");
        due("covers", x.covers(0), 2);
        shelf(x, 1, 12);
        x.told(1, 4, 1);
        x.told(16, 4, 1);
        due("covers", x.covers(0), 3);
        shelf(x, 1, 12, 42);
        sentence("promise 31");
        due("ladder", x.ladder(false, 0), 7);
        due("loose", x.ladder(true, 0), 25);
        sentence("promise 26");
        HeavierRow y = town(ABC);
        y.told(4, 1, 1);
        y.told(1, 2, 1);
        y.told(4, 2, 1);
        due("a is between", y.covers(0), 2);
        shelf(y, 1, 20);
        x.told(1, 2, 2);
        contradicted(x);
    }

    private static void contradicted(HeavierRow x) {
        sentence("promise 14");
        due("none left", x.place(0, false, 0), NONE);
        sentence("promise 15");
        due("none left", x.stand(0, false, 0), NONE);
        sentence("promise 16");
        due("none left", x.surely(0, 1, 0), NONE);
        sentence("promise 17");
        due("none left", x.fewest(0, 0, 0), 0);
        sentence("promise 18");
        due("none left", x.next(2, 1, 0), NONE);
        sentence("promise 19");
        due("none left", x.total(1, 1, 0, 0), 0);
        due("none left", x.total(1, 1, 1, 0), NONE);
        sentence("promise 20");
        due("none left", x.atOnce(1, 1, 0), 0);
        sentence("promise 21");
        due("none left", x.answers(0, 0, 0, 0), NONE);
        sentence("promise 23");
        due("none left", x.trusty(0, 0, 0), 0);
        sentence("promise 24");
        due("none left", x.odds(0, 1, 0, 0), 0);
        due("none left", x.odds(0, 1, 1, 0), 0);
        sentence("promise 25");
        due("none left", x.evenest(0), NONE);
        sentence("promise 27");
        due("none left", x.sits(0, 0, 0), NONE);
        sentence("promise 30");
        due("none left", x.twins(0, 0), NONE);
        sentence("promise 31");
        due("none left", x.ladder(true, 0), NONE);
        sentence("promise 32");
        due("none left", x.bound(0), NONE);
        sentence("promise 26");
        due("none left", x.covers(0), NONE);
        shelf(x);
    }

    private static void goals() {
        sentence("promise 17");
        HeavierRow x = town(FIVE);
        due("all", x.fewest(0, 99, 0), 7);
        due("the heaviest", x.fewest(1, 0, 0), 4);
        due("place 5", x.fewest(1, 5, 0), NONE);
        due("place -1", x.fewest(1, -1, 0), NONE);
        due("thing 4", x.fewest(2, 4, 0), 4);
        due("thing 5", x.fewest(2, 5, 0), NONE);
        due("thing -1", x.fewest(2, -1, 0), NONE);
        due("goal 3", x.fewest(3, 0, 0), NONE);
        due("goal -1", x.fewest(-1, 0, 0), NONE);
        sentence("promise 18");
        due("all", x.next(0, 0, 0), 1);
        due("thing 4", x.next(2, 4, 0), 4);
        due("thing 5", x.next(2, 5, 0), NONE);
        x.told(1, 2, 1);
        x.told(4, 8, 1);
        due("merge insertion: the two heavier ones", x.next(0, 0, 0), 2);
        x.told(1, 4, 1);
        due("then the fifth into the middle", x.next(0, 0, 0), 24);
        due("so many", x.fewest(0, 0, 0), 4);
        sentence("promise 19");
        x = town(ABC);
        due("all", x.total(0, 0, 0, 0), 16);
        due("its next", x.total(0, 0, 1, 0), 1);
        due("what 2", x.total(0, 0, 2, 0), NONE);
        due("what -1", x.total(0, 0, -1, 0), NONE);
        due("thing 2", x.total(2, 2, 1, 0), 2);
        due("thing 3", x.total(2, 3, 1, 0), NONE);
        x.told(1, 2, 1);
        x.told(2, 4, 1);
        due("come to", x.total(0, 0, 0, 0), 0);
        due("come to", x.total(0, 0, 1, 0), NONE);
        sentence("promise 18");
        due("come to", x.next(0, 0, 0), NONE);
        sentence("promise 20");
        due("come to", x.atOnce(0, 0, 0), 0);
        x = town(FIVE);
        due("all pairs", x.atOnce(0, 0, 0), 1023);
        due("thing 0", x.atOnce(2, 0, 0), 15);
        due("thing 4: pairs 0 4, 1 4, 2 4, 3 4", x.atOnce(2, 4, 0), 8 + 64 + 256 + 512);
        due("goal 4", x.atOnce(4, 0, 0), NONE);
        due("thing 5", x.atOnce(2, 5, 0), NONE);
        x.told(1, 2, 1);
        x.told(2, 4, 1);
        x.told(4, 8, 1);
        due("d and e; c, b, a against e", x.atOnce(0, 0, 0), 8 + 64 + 256 + 512);
        blocks();
        spent();
    }

    /** Three are even: if d or e isn't above them, nobody has place 2, wherever the other one stands. */
    private static void blocks() {
        HeavierRow x = town("twins;" + FIVE);
        x.told(1, 2, 0);
        x.told(2, 4, 0);
        sentence("promise 17");
        due("place 2", x.fewest(1, 2, 0), 2);
        sentence("promise 18");
        due("place 2", x.next(1, 2, 0), 3);
        sentence("promise 19");
        due("13 for the first, 5 for the second", x.total(1, 2, 0, 0), 18);
        due("a d", x.total(1, 2, 1, 0), 3);
        sentence("promise 20");
        due("place 2: a d and a e", x.atOnce(1, 2, 0), 4 + 8);
        x = town("twins;" + FIVE);
        x.told(4, 8, 0);
        x.told(8, 16, 0);
        sentence("promise 19");
        due("the same, c d e are even", x.total(1, 2, 0, 0), 18);
        due("a c", x.total(1, 2, 1, 0), 2);
    }

    private static void spent() {
        HeavierRow x = town("twins;" + FIVE);
        int[] got = {x.fewest(2, 0, 0), x.next(0, 0, 0), x.total(0, 0, 0, 0), x.total(1, 0, 1, 0), x.atOnce(0, 0, 0), x.trusty(0, 0, 0)};
        int[] promises = {17, 18, 19, 19, 20, 23};
        for (int i = 0; i < got.length; i++) {
            sentence("promise " + promises[i]);
            due("spent", got[i], -2);
        }
        sentence("promise 17");
        due("NONE ahead of spent", x.fewest(2, 5, 0), NONE);
        sentence("promise 19");
        due("NONE ahead of spent", x.total(0, 0, 2, 0), NONE);
        sentence("promise 21");
        due("541", x.answers(0, 0, 0, 0), 541);
        sentence("promise 23");
        x = town(FIVE);
        x.told(1, 2, 1);
        x.told(1, 4, 1);
        x.told(1, 8, 1);
        x.told(1, 16, 1);
        due("come to, but 24 are left", x.trusty(2, 0, 0), -2);
        x = town(ABC);
        due("three things: 2 to the 5 is below 6 * (1 + 5)", x.trusty(0, 0, 0), 6);
        due("a place", x.trusty(1, 4, 0), 0);
        due("goal 3", x.trusty(3, 0, 0), NONE);
        due("thing -1", x.trusty(2, -1, 0), NONE);
        x.told(1, 2, 1);
        x.told(1, 4, 1);
        due("two are left", x.trusty(0, 0, 0), 3);
        x.told(2, 4, 1);
        due("known", x.trusty(0, 0, 0), 0);
    }

    private static void answers() {
        sentence("promise 21");
        HeavierRow x = town(ABC);
        x.told(1, 2, 1);
        due("orders", x.answers(0, 9, 0, 0), 3);
        due("each once", x.answers(0, 0, 1, 0), 1);
        due("the first as digits", x.answers(0, 0, 2, 0), 12);
        due("who has place 0", x.answers(1, 0, 0, 0), 2);
        due("in how many", x.answers(1, 0, 1, 0), 2);
        due("a", x.answers(1, 0, 2, 0), 1);
        due("c has each place once", x.answers(2, 2, 0, 0), 3);
        due("the least place", x.answers(2, 2, 2, 0), 0);
        due("place 4: nobody", x.answers(1, 4, 2, 0), 0);
        due("place 5", x.answers(1, 5, 2, 0), NONE);
        due("what 3", x.answers(1, 0, 3, 0), NONE);
        due("what -1", x.answers(1, 0, -1, 0), NONE);
        due("thing 3", x.answers(2, 3, 0, 0), NONE);
        x.told(2, 4, 1);
        x.told(1, 4, 2);
        due("none left", x.answers(1, 0, 0, 0), NONE);
        x = town("twins;" + ABC);
        due("place 0 of 13: seven sets", x.answers(1, 0, 0, 0), 7);
        due("a alone in 3", x.answers(1, 0, 1, 0), 3);
        due("a alone", x.answers(1, 0, 2, 0), 1);
        sentence("promise 22");
        x = town(ABC + "plan p a b(a c(b c(done/done)/done)/done/a c(done/done)); plan q done;");
        due("the right of b heavier: 3, the rest is known", x.judged(0, 0, 0, 0, 0), 3);
        due("most", x.judged(0, 0, 0, 1, 0), 3);
        due("all: 3 + 3 + 2 + 1 + 1 + 1", x.judged(0, 0, 0, 2, 0), 11);
        due("the heaviest", x.judged(0, 1, 0, 0, 0), 3);
        due("done at once", x.judged(1, 0, 0, 0, 0), 6);
        due("no weighing", x.judged(1, 0, 0, 1, 0), 0);
        due("place 3 has nobody", x.judged(1, 1, 3, 0, 0), 0);
        due("plan 2", x.judged(2, 0, 0, 0, 0), NONE);
        due("plan -1", x.judged(-1, 0, 0, 0, 0), NONE);
        due("goal 3", x.judged(0, 3, 0, 0, 0), NONE);
        due("thing 3", x.judged(0, 2, 3, 0, 0), NONE);
        due("what 3", x.judged(0, 0, 0, 3, 0), NONE);
        due("what -1", x.judged(0, 0, 0, -1, 0), NONE);
        x.told(1, 2, 1);
        due("known now", x.judged(0, 0, 0, 0, 0), 0);
        x.told(2, 4, 1);
        due("known at once", x.judged(1, 0, 0, 0, 0), 0);
        due("who has place 1", x.judged(1, 1, 1, 0, 0), 0);
        x.untell(1);
        due("all", x.judged(0, 0, 0, 2, 0), 8);
        x = town("twins;" + ABC + "plan p a b(done/done); plan q a b(done/done/a c(done/done/done));");
        due("missing third: done", x.judged(0, 2, 0, 0, 0), 13);
        due("even goes on: 3 more", x.judged(1, 0, 0, 2, 0), 16);
        due("even is parted", x.judged(1, 0, 0, 0, 0), 10);
    }

    private static void twos() {
        sentence("promise 24");
        HeavierRow x = town("twins;" + ABC);
        due("a heavier than b", x.odds(0, 1, 0, 0), 5);
        due("of", x.odds(0, 1, 1, 0), 13);
        due("what 2", x.odds(0, 1, 2, 0), NONE);
        due("what -1", x.odds(0, 1, -1, 0), NONE);
        due("a a", x.odds(0, 0, 0, 0), NONE);
        due("a d", x.odds(0, 3, 1, 0), NONE);
        due("-1 a", x.odds(-1, 0, 1, 0), NONE);
        sentence("promise 25");
        due("all alike: the first", x.evenest(0), 1);
        x.told(1, 2, 1);
        due("a b is sure", x.evenest(0), 2);
        due("one thing", town("thing a weighs 1;").evenest(0), NONE);
        due("two things", town("thing a weighs 1;thing b weighs 1;").evenest(0), 1);
        sentence("promise 30");
        due("not sure", x.twins(0, 0), 0);
        x.told(2, 4, 0);
        due("b is c's twin", x.twins(2, 0), 2);
        due("c is b's twin", x.twins(1, 0), 4);
        due("a has none", x.twins(0, 0), 0);
        due("none such", x.twins(3, 0), NONE);
        due("none such", x.twins(-1, 0), NONE);
        sentence("promise 31");
        due("ladder: no two twins", x.ladder(false, 0), 3);
        due("loose: twins are sure", x.ladder(true, 0), 1);
        due("ladder of nothing", new HeavierRow().ladder(false, 0), 0);
        sentence("promise 32");
        due("one order", x.bound(0), 0);
        due("13 with twins", town("twins;" + ABC).bound(0), 3);
        due("6 without", town(ABC).bound(0), 3);
        due("120", town(FIVE).bound(0), 7);
        due("541", town("twins;" + FIVE).bound(0), 6);
        sentence("promise 28");
        x = town(ABC + "row c;");
        x.told(1, 2, 1);
        x.told(2, 1, 1);
        x.told(1, 4, 0);
        x.told(1, 6, 1);
        due("a b", x.led(0, 1, 0), 2);
        due("b a", x.led(1, 0, 0), 2);
        due("a", x.led(0, 0, 0), 3);
        due("c", x.led(2, 2, 0), 1);
        due("b c", x.led(1, 2, 0), 0);
        due("a d", x.led(0, 3, 0), NONE);
        due("-1 a", x.led(-1, 0, 0), NONE);
        sentence("promise 29");
        due("c a b: b over a, a even to c", x.doubts(0), 2);
        due("ahead of all", x.doubts(-1), 0);
        x.untell(1);
        due("one is untold", x.doubts(0), 1);
    }

    private static void clerks() {
        sentence("promise 33");
        HeavierRow x = town("twins;" + FIVE + "row c a;");
        due("m 0", x.swapped(0, 2), 1);
        due("m 0", x.swapped(0, 0), 0);
        due("m 0", x.swapped(0, 1), NONE);
        due("m 1", x.swapped(1, 2), 5);
        due("m 2", x.swapped(2, 2), 8);
        due("m 1", x.swapped(1, 0), 4);
        due("m 1: a b is the first of four neighbours", x.swapped(1, 1), 1);
        due("m 2", x.swapped(2, 0), 4);
        x.told(1, 2, 2);
        due("whatever else is known", x.swapped(1, 2), 5);
        due("m 3", x.swapped(3, 0), NONE);
        due("m -1", x.swapped(-1, 0), NONE);
        due("what 3", x.swapped(1, 3), NONE);
        due("what -1", x.swapped(1, -1), NONE);
        due("nothing", new HeavierRow().swapped(2, 2), 1);
        due("one", town("thing a weighs 1;").swapped(2, 2), 1);
        sentence("promise 34");
        int[] row = {2, 0, 1, 3, 4};
        for (int place = 0; place < 5; place++) {
            due("clerk(" + place + ")", x.clerk(place), row[place]);
        }
        due("clerk(5)", x.clerk(5), NONE);
        due("clerk(-1)", x.clerk(-1), NONE);
        due("told ahead of others", town("thing a weighs 1;thing b weighs 1;row b;thing c weighs 1;").clerk(2), 2);
    }

    private static void weights() {
        sentence("promise 35");
        HeavierRow x = town(ABC + "sticks 1;");
        due("all", x.weights(0), 216);
        shelf(x, 1, 1, 1);
        x.told(6, 1, 2);
        due("a heavier than b and c by 2", x.weights(0), 10);
        shelf(x, 4, 1, 1);
        sentence("promise 36");
        due("least a", x.weight(0, false, 0), 4);
        due("most a", x.weight(0, true, 0), 6);
        due("least b", x.weight(1, false, 0), 1);
        due("most b", x.weight(1, true, 0), 3);
        due("most c", x.weight(2, true, 0), 3);
        due("none such", x.weight(3, true, 0), NONE);
        due("none such", x.weight(-1, true, 0), NONE);
        HeavierRow y = town("sticks 1;" + FIVE);
        y.told(30, 1, 2);
        due("a weighs more than four by 2", y.weights(0), 1);
        shelf(y, 6, 1, 1, 1, 1);
        due("least a", y.weight(0, false, 0), 6);
        due("most e", y.weight(4, true, 0), 1);
        sentence("promise 37");
        due("b c: within 1, or one more by 2", x.could(2, 4, 0), 7);
        due("a b", x.could(1, 2, 0), 2);
        due("b a", x.could(2, 1, 0), 4);
        sentence("promise 39");
        due("best heaps", x.heaps(0, 0), 2);
        due("best heaps", x.heaps(1, 0), 4);
        due("best heaps: b, c within 1", x.heaps(2, 0), 8);
        due("what 3", x.heaps(3, 0), NONE);
        due("what -1", x.heaps(-1, 0), NONE);
        due("at -1: a, b within 1", x.heaps(2, -1), 96);
        sentence("promise 35");
        x.told(2, 1, 0);
        due("it can't be", x.weights(0), 0);
        shelf(x);
        sentence("promise 36");
        due("none", x.weight(0, true, 0), NONE);
        sentence("promise 37");
        due("none", x.could(1, 2, 0), 0);
        sentence("promise 39");
        due("none", x.heaps(0, 0), NONE);
        due("one thing", town("thing a weighs 1;").heaps(0, 0), NONE);
        x = town("thing a weighs 50;thing b weighs 1;");
        due("two things", x.heaps(0, 0), 1);
        due("two things", x.heaps(1, 0), 2);
        due("15 are left", x.heaps(2, 0), 15);
        x = new HeavierRow();
        sentence("promise 35");
        due("nothing", x.weights(0), 1);
        shelf(x);
    }

    private static void stones() {
        sentence("promise 38");
        HeavierRow x = new HeavierRow();
        due("40 both", x.stones(40, true), 4);
        shelf(x, 1, 3, 9, 27);
        due("40", x.stones(40, false), 6);
        shelf(x, 1, 1, 3, 5, 10, 20);
    }

    private static void stonesEdges() {
        sentence("promise 38");
        HeavierRow x = new HeavierRow();
        due("13", x.stones(13, true), 3);
        shelf(x, 1, 3, 9);
        due("4: 1 and 3 with both", x.stones(4, true), 2);
        shelf(x, 1, 3);
        due("2: 1 and 1", x.stones(2, true), 2);
        shelf(x, 1, 1);
        due("5", x.stones(5, false), 3);
        shelf(x, 1, 1, 3);
        due("0", x.stones(0, false), NONE);
        shelf(x);
        due("1", x.stones(1, true), 1);
        shelf(x, 1);
        due("41", x.stones(41, true), NONE);
        shelf(x);
        sentence("promise 40");
        due("lies(0) of nothing", x.lies(0), NONE);
        x.stones(13, true);
        due("lies(2)", x.lies(2), 9);
        due("lies(3)", x.lies(3), NONE);
        due("lies(-1)", x.lies(-1), NONE);
        x.surely(0, 1, 0);
        due("others leave it", x.lies(2), 9);
    }

    private static void boxes() {
        sentence("promise 41");
        HeavierRow x = town(ABC);
        due("none", x.image(3), NONE);
        due("none", x.image(-1), NONE);
        due("image", x.image(2), 0);
        x.weigh(1, 2);
        x.weigh(2, 4);
        x.later(3);
        x.untell(0);
        x.wet();
        due("image", x.image(0), 2);
        sentence("promise 42");
        x.told(1, 2, 0);
        x.later(4);
        x.untell(1);
        int d = x.wet();
        x.weights(0);
        due("d", d, 0);
        due("back", x.back(0), 2);
        due("weighings", x.about(3), 2);
        due("time", x.about(4), 3);
        due("days", x.about(9), 1);
        due("untold", x.weighing(0, 3), 1);
        due("not untold", x.weighing(1, 3), 0);
        due("what lies there stays", x.about(6), 3);
        due("hidden weights: c has 5", x.weigh(4, 2), 1);
        due("hidden weights: a has 7", x.weigh(1, 4), 1);
        due("the seed", x.wet(), 0);
        due("back again", x.back(0), 2);
        due("nothing was kept", x.back(1), NONE);
        due("none such", x.back(3), NONE);
        due("none such", x.back(-1), NONE);
        due("still as it was", x.about(3), 2);
        due("back to the first", x.back(2), 0);
        due("time", x.about(4), 0);
        due("days", x.about(9), 0);
        due("hidden weights", x.weigh(2, 4), 1);
        due("the seed", x.wet(), 1);
        swappedBoxes();
        sentence("promise 43");
        due("about(10)", x.about(10), NONE);
        due("about(-1)", x.about(-1), NONE);
        x = town("twins; sticks 4;" + ABC + "plan p done; plan q a b(a c(done/done)/done);");
        x.feed(0, 0, 0, 0, 0);
        x.later(8);
        x.wet();
        x.weigh(1, 2);
        x.left(0, 0);
        int[] about = {3, 1, 4, 1, 8, 20, 3, 2, 2, 1};
        for (int what = 0; what < about.length; what++) {
            due("about(" + what + ")", x.about(what), about[what]);
        }
    }

    /** What a box keeps is put back over weighings that were told at the same numbers. */
    private static void swappedBoxes() {
        sentence("promise 42");
        HeavierRow x = town(ABC);
        x.image(0);
        x.later(1);
        x.told(1, 2, 1);
        x.wet();
        x.later(1);
        x.told(2, 4, 2);
        x.untell(0);
        x.image(1);
        x.back(0);
        x.later(7);
        x.told(4, 3, 0);
        x.told(6, 1, 1);
        x.wet();
        due("back", x.back(1), 2);
        int[][] kept = {{1, 2, 1, 1}, {2, 4, 2, 0}};
        for (int i = 0; i < 2; i++) {
            for (int what = 0; what < 4; what++) {
                due("weighing(" + i + ", " + what + ")", x.weighing(i, what), kept[i][what]);
            }
        }
        due("told at 1, drowned at 1", x.led(0, 1, 1), 0);
        due("told at 2", x.led(1, 2, 1), 0);
        due("told at 2 behind the day", x.led(1, 2, 2), 1);
        due("days", x.about(9), 1);
        due("time", x.about(4), 2);
    }

    /** Sixty twos: the last plan's last two is as good as the first. */
    private static void manyTwos() {
        sentence("promise 22");
        String text = ABC;
        for (int plan = 0; plan < 2; plan++) {
            text += "plan p" + "qr".charAt(plan) + " a b(" + branch(4) + "/" + branch(3) + ");";
        }
        text += "plan ps a b(a b(a b(a b(a b(a b(a b(a b(a b(done/done)/done)/done)/done)/done)/done)/done)/done)/";
        HeavierRow x = town(text + "b c(a c(done/done)/a c(b a(done/done)/c b(done/done))));");
        due("twos", x.about(8), 46 + 9 + 5);
        due("three are parted: c of a and b", x.judged(2, 0, 0, 0, 0), 3);
        due("most", x.judged(2, 0, 0, 1, 0), 9);
        due("3 * 9, b a c: 3, b c a: 3, c b a: 4", x.judged(2, 0, 0, 2, 0), 37);
    }

    public static void main(String[] args) {
        manyTwos();
        newObject();
        tape();
        street();
        faults();
        weighings();
        times();
        left();
        known();
        goals();
        answers();
        twos();
        clerks();
        weights();
        stones();
        stonesEdges();
        boxes();
        finish("PromiseTest");
    }
}
