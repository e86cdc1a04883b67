/** The edges that promises 1 to 5 and part 1 of the terms name: the tape, the street, its tokens and faults. */
public final class TextEdgesTest extends Due {
    private static final String TWO = "thing a weighs 1;thing b weighs 2;";
    private static final String[] OWN = {"thing", "weighs", "twins", "sticks", "row", "plan", "done"};

    private static HeavierRow read(String text) {
        HeavierRow x = new HeavierRow();
        feed(x, text);
        x.street();
        return x;
    }

    private static void fault(String text, int what, int place) {
        HeavierRow x = read(text);
        due("fault(0) of " + text, x.fault(0), what);
        due("fault(1) of " + text, x.fault(1), place);
    }

    private static void right(String text) {
        fault(text, 0, NONE);
    }

    private static String times(String part, int n) {
        return part.repeat(n);
    }

    private static void newObject() {
        sentence("NONE = -1");
        due("NONE", HeavierRow.NONE, -1);
        sentence("1: an empty STREET");
        HeavierRow x = new HeavierRow();
        for (int what = 0; what < 10; what++) {
            due("about(" + what + ")", x.about(what), 0);
        }
        shelf(x);
        due("one order of nothing", x.left(0, 0), 1);
        shelf(x);
        due("clerk(0)", x.clerk(0), NONE);
        due("weighing(0, 0)", x.weighing(0, 0), NONE);
        due("untell(0)", x.untell(0), false);
        for (int box = 0; box < 3; box++) {
            due("back(" + box + ")", x.back(box), NONE);
        }
        sentence("1: a STREET is empty at first, a text of no lines");
        due("street()", x.street(), 0);
        due("fault(0)", x.fault(0), 0);
        due("fault(1)", x.fault(1), NONE);
    }

    /** A sign that is no TOKEN stands alone among blanks: its place tells which byte it is. */
    private static void feeding() {
        sentence("2: twenty bytes come behind those on the tape, of each number the highest first");
        for (int at = 0; at < 20; at++) {
            int[] five = {0x20202020, 0x20202020, 0x20202020, 0x20202020, 0x20202020};
            five[at / 4] ^= (at % 2 == 0 ? 0xdf : 0x1f) << 24 - at % 4 * 8;
            HeavierRow x = new HeavierRow();
            due("feed", x.feed(0x20202020, 0x20202020, 0x20202020, 0x20202020, 0x20202020), 20);
            due("feed", x.feed(five[0], five[1], five[2], five[3], five[4]), 40);
            due("street", x.street(), NONE);
            due("a fault's kind", x.fault(0), 1);
            due("a fault's place", x.fault(1), 20 + at);
        }
        sentence("2: NONE, and nothing comes, if there would be more than 1,200");
        HeavierRow x = new HeavierRow();
        for (int i = 1; i <= 60; i++) {
            due("feed " + i, x.feed(0x0a0a0a0a, 0x20202020, 0x20202020, 0x20202020, 0x20202020), 20 * i);
        }
        due("a 61st feed", x.feed(-1, -1, -1, -1, -1), NONE);
        due("bytes", x.about(5), 1200);
        due("end(1181)", x.end(1181), 1181);
        due("1181 and 20", x.feed(-1, -1, -1, -1, -1), NONE);
        due("bytes", x.about(5), 1181);
        due("all are blanks", x.street(), 0);
        for (int i = 1; i < 60; i++) {
            x.feed(0x0a0a0a0a, 0x20202020, 0x20202020, 0x20202020, 0x20202020);
        }
        due("end(1180)", x.end(1180), 1180);
        due("1180 and 20", x.feed(0x20202020, 0x20202020, 0x20202020, 0x20202020, 0x2020203f), 1200);
        due("street", x.street(), NONE);
        due("the last byte's place", x.fault(1), 1199);
    }

    private static void ending() {
        sentence("3: the tape has its first n bytes");
        HeavierRow x = new HeavierRow();
        feed(x, "twins;?             ");
        due("end(20) of 20", x.end(20), 20);
        due("end(6)", x.end(6), 6);
        due("bytes", x.about(5), 6);
        sentence("3: NONE, doing nothing, if it has not so many, or n is below 0");
        int[] bad = {7, 20, 1200, 1201, FAR, -1, -6, LOW};
        for (int n : bad) {
            due("end(" + n + ")", x.end(n), NONE);
            due("bytes behind end(" + n + ")", x.about(5), 6);
        }
        due("what is cut off is gone", x.feed(0x20202020, 0x20202020, 0x20202020, 0x20202020, 0x2020203f), 26);
        due("street", x.street(), NONE);
        due("it came behind the six", x.fault(1), 25);
        due("end(1) of none", x.end(1), NONE);
        due("end(0) of none", x.end(0), 0);
        feed(x, "twins;");
        due("end(0)", x.end(0), 0);
        due("an empty text", x.street(), 0);
        due("without twins", x.about(1), 0);
    }

    private static void fullTape() {
        sentence("part 1: a text of at most 1,200 bytes");
        HeavierRow x = read(times(" ", 1194) + "twins;");
        due("bytes 1194 to 1199 are read", x.about(1), 1);
        fault(times("\n", 1195) + "twins", 2, 1200);
        fault(times("\n", 1199) + ":", 1, 1199);
        fault(times(" ", 1200), 0, NONE);
    }

    private static HeavierRow used() {
        HeavierRow x = town(ABC + "twins; sticks 3; row c; plan q a b (done / done);");
        x.later(7);
        x.weigh(1, 2);
        x.weigh(1, 4);
        x.untell(0);
        x.wet();
        x.told(2, 4, 1);
        x.image(0);
        x.stones(40, false);
        return x;
    }

    private static void streets() {
        sentence("4: the TAPE is empty then");
        HeavierRow x = used();
        feed(x, "thing z weighs 3; thing y weighs 3; thing x weighs 2;");
        due("street", x.street(), 3);
        due("bytes", x.about(5), 0);
        sentence("4: WEIGHINGS, WET DAYS are none, nothing lies there, BOXES are empty then; the TIME stays");
        int[] about = {3, 0, 0, 0, 7, 0, 0, 0, 0, 0};
        for (int what = 0; what < about.length; what++) {
            due("about(" + what + ")", x.about(what), about[what]);
        }
        shelf(x);
        due("weighing(0, 0)", x.weighing(0, 0), NONE);
        due("back(0)", x.back(0), NONE);
        due("the row is by number again", x.clerk(0), 0);
        due("no plan", x.judged(0, 0, 0, 0, 7), NONE);
        sentence("4: the SEED is 0");
        due("71 of 2", x.wet(), 1);
        sentence("4: the hidden weights are the street's");
        due("y and x were exchanged", x.weigh(2, 4), 2);
        sentence("4: how many THINGS");
        String text = "";
        for (int things = 0; things <= 5; things++) {
            due("street", read(text).about(0), things);
            feed(x, text);
            due("street", x.street(), things);
            text += "thing " + (char) ('a' + things) + " weighs 1;";
        }
        sentence("4: NONE: a FAULT (the TAPE is empty then, too; all else stays)");
        String[] faulty = {"?", "twins; sticks 4; row a;", "thing z weighs 1; thing z weighs 2;", "sticks 100;",
            "thing a weighs 900; thing b weighs 1; plan z a b(done/done); row b a; twins; plan y"};
        for (String bad : faulty) {
            x = used();
            String told = seen(x);
            feed(x, bad);
            due("street of " + bad, x.street(), NONE);
            due("bytes", x.about(5), 0);
            told = told.replaceFirst("fault \\S+ \\S+", "fault " + x.fault(0) + " " + x.fault(1));
            due("what is seen behind " + bad, seen(x), told);
            due("a BOX stays", x.back(0), 3);
        }
    }

    /** One object reads street behind street: nothing of the one ahead, faulty or not, is in the next one. */
    private static void streetsAgain() {
        sentence("4: the TAPE is the STREET");
        String full = "twins;sticks 99;" + FIVE + "row e d;" + plans(20, 30, 10).substring(TWO.length());
        String faulty = "twins;sticks 5;thing z weighs 1;row z;plan q done;plan r z ?";
        HeavierRow x = new HeavierRow();
        String[] texts = {full, "", full, full, faulty, full, faulty, faulty, "", full, TWO, faulty, TWO, full, full};
        int[] none = {0, 0, 0, 0, 0, 0, 0, 0, 0, 0};
        int[] two = {2, 0, 0, 0, 0, 0, 0, 0, 0, 0};
        int[] all = {5, 1, 99, 0, 0, 0, 0, 3, 60, 0};
        int[] about = none;
        for (String text : texts) {
            feed(x, text);
            about = text.equals(faulty) ? about : text.equals(full) ? all : text.isEmpty() ? none : two;
            due("street", x.street(), text.equals(faulty) ? NONE : about[0]);
            due("fault", x.fault(0), text.equals(faulty) ? 1 : 0);
            for (int what = 0; what < about.length; what++) {
                due("about(" + what + ")", x.about(what), about[what]);
            }
            due("clerk(0)", x.clerk(0), about == all ? 4 : about == two ? 0 : NONE);
            due("clerk(1)", x.clerk(1), about == all ? 3 : about == two ? 1 : NONE);
            due("ORDERS", x.odds(0, 1, 1, 0), about == all ? 541 : about == two ? 2 : NONE);
        }
        sentence("4: ORDERS are those of the STREET");
        x = town(FIVE + "row e d c b a;");
        due("SWAPPED", x.swapped(2, 2), 8);
        due("doubts", x.doubts(0), 0);
        feed(x, ABC + "row c;");
        x.street();
        due("left", x.left(0, 0), 6);
        shelf(x, 0, 1, 2);
        due("doubts", x.doubts(0), 0);
        feed(x, "twins;" + ABC);
        x.street();
        due("left", x.left(0, 0), 13);
        shelf(x, 0, 0, 0);
    }

    private static void manyCalls() {
        sentence("an object is used for at most 512 calls: the 512th is answered, too");
        HeavierRow x = new HeavierRow();
        for (int call = 1; call < 510; call++) {
            due("fault(2)", x.fault(2), NONE);
        }
        due("the 510th: feed", x.feed(0x7477696e, 0x733b0a0a, 0x0a0a0a0a, 0x0a0a0a0a, 0x0a0a0a3f), 20);
        due("the 511th: street", x.street(), NONE);
        due("the 512th: fault", x.fault(1), 19);
    }

    private static void latestFault() {
        sentence("5: 0 without; ahead of any, too; its place NONE");
        HeavierRow x = new HeavierRow();
        due("fault(0)", x.fault(0), 0);
        due("fault(1)", x.fault(1), NONE);
        feed(x, "twins; ?");
        due("it is not read yet", x.fault(0), 0);
        x.street();
        sentence("5: of the latest street()");
        due("fault(0)", x.fault(0), 1);
        due("fault(1)", x.fault(1), 7);
        sentence("5: NONE for another what");
        int[] others = {2, 3, -1, -2, FAR, LOW};
        for (int what : others) {
            due("fault(" + what + ")", x.fault(what), NONE);
        }
        sentence("5: of the latest street()");
        due("an empty text", x.street(), 0);
        due("fault(0)", x.fault(0), 0);
        due("fault(1)", x.fault(1), NONE);
        feed(x, ";");
        x.street();
        due("fault(0)", x.fault(0), 2);
        due("a place of 0", x.fault(1), 0);
    }

    private static boolean letter(int b) {
        return b >= 'a' && b <= 'z';
    }

    private static boolean digit(int b) {
        return b >= '0' && b <= '9';
    }

    private static boolean blank(int b) {
        return b == 32 || b == 10;
    }

    private static boolean sign(int b) {
        return ";()/".indexOf(b) >= 0;
    }

    private static void bytes() {
        for (int b = 0; b < 256; b++) {
            boolean token = letter(b) || digit(b) || sign(b);
            sentence("part 1: words (a .. z), N, signs ; ( ) / ; blanks (32, 10); 1 what is none of these: byte " + b);
            fault((char) b + " twins;", blank(b) ? 0 : token ? 2 : 1, blank(b) ? NONE : 0);
            sentence("part 1: no letter directly behind an N (1 at its first byte); digits: as long as can be: byte " + b);
            if (letter(b)) {
                fault("sticks 5" + (char) b + ";", 1, 7);
            } else if (digit(b) || blank(b)) {
                right("sticks 5" + (char) b + ";");
            } else {
                fault("sticks 5" + (char) b + ";", b == ';' ? 2 : token ? 2 : 1, b == ';' ? 9 : 8);
            }
            sentence("part 1: letters: as long as can be: byte " + b);
            if (letter(b)) {
                fault("twins" + (char) b + ";", 2, 0);
            } else if (blank(b)) {
                right("twins" + (char) b + ";");
            } else {
                fault("twins" + (char) b + ";", token ? 2 : 1, b == ';' ? 6 : 5);
            }
        }
    }

    private static void tokens() {
        sentence("part 1: words (8 at most), a longer word: 1 at its first byte");
        right("thing abcdefgh weighs 1;");
        fault("thing abcdefghi weighs 1;", 1, 6);
        fault("thing a weighs 1; " + times("z", 1000), 1, 18);
        fault("abcdefgh", 2, 0);
        fault("abcdefghi", 1, 0);
        fault("thingaweighs1;", 1, 0);
        right("thing abcdefgh weighs 1; thing abcdefgi weighs 1; thing bbcdefgh weighs 1; thing abcdefg weighs 1;"
            + "thing bcdefgh weighs 1;");
        right("thing a weighs 1; thing aa weighs 1; thing aaaaaaaa weighs 1; thing aaaaaaa weighs 1; thing z weighs 1;");
        sentence("part 1: N (1 to 4 digits), more digits: 1 at its first byte");
        right("sticks 0;");
        right("sticks 0000;");
        right("sticks 0099;");
        fault("sticks 00000;", 1, 7);
        fault("sticks 00001;", 1, 7);
        fault("thing a weighs 12345;", 1, 15);
        fault("sticks " + times("7", 1000) + ";", 1, 7);
        right("thing a weighs 0001;");
        sentence("part 1: an N with a letter behind it: 1 at its first byte");
        fault("sticks 1234a;", 1, 7);
        fault("sticks 12345a;", 1, 7);
        fault("thing a weighs 5thing b weighs 6;", 1, 15);
        fault("sticks 5", 2, 8);
        fault("sticks 5 a;", 2, 9);
        sentence("part 1: blanks part them or not");
        right("thing a weighs5;thing b weighs6;row a b;plan q a b(done/done/done);sticks7;twins;");
        right("\n\n thing\na  weighs \n5\n;thing b weighs 6 ; plan q a\nb ( done / done ) ; \n");
        fault("thing a weighs 1 2;", 2, 17);
        fault("thi ng a weighs 1;", 2, 0);
        fault("thing a1 weighs 5;", 2, 7);
        fault("rowa;", 2, 0);
        sentence("part 1: words that stand for themselves are no NAMES");
        for (String own : OWN) {
            fault("thing " + own + " weighs 1;", 2, 6);
            fault(TWO + "row " + own + ";", 2, 38);
            fault(TWO + "row a " + own + ";", 2, 40);
            fault(TWO + "plan " + own + " done;", 2, 39);
            fault(TWO + "plan q a " + own + "(done/done);", 2, 43);
        }
        String[] near = {"things", "weigh", "twin", "stickss", "rows", "p", "plans", "dones", "thin", "don"};
        for (String name : near) {
            right("thing " + name + " weighs 1; row " + name + "; plan " + name + " done;");
        }
    }

    /** Behind a beginning each TOKEN that may not stand there, the text's end, too, and what is no TOKEN. */
    private static void behind(String ahead, String... may) {
        String[] all = {"thing", "weighs", "twins", "sticks", "row", "plan", "done", "zz", "77", ";", "(", ")", "/", ""};
        for (String token : all) {
            boolean can = false;
            for (String one : may) {
                can |= one.equals(token);
            }
            if (!can) {
                fault(ahead + " " + token, 2, ahead.length() + 1);
                fault(ahead + "\n" + token + " ", 2, ahead.length() + (token.isEmpty() ? 2 : 1));
            }
        }
        String[] none = {"?", "Zz", "abcdefghi", "12345", "7a", "\u00e9", "\0", "-1", "\t"};
        for (String one : none) {
            fault(ahead + " " + one, 1, ahead.length() + 1);
        }
    }

    private static void grammar() {
        sentence("part 1: 1 no TOKEN; 2 one that can't stand there; the end: the text's length");
        String[] ends = {"", "thing", "twins", "sticks", "row", "plan"};
        behind("", ends);
        behind(TWO, ends);
        behind("twins;sticks 7;" + TWO + "row b;plan q done;", "", "thing", "plan");
        behind("thing", "zz");
        behind("thing c", "weighs");
        behind("thing c weighs", "77");
        behind("thing c weighs 5", ";");
        behind("twins", ";");
        behind("sticks", "77");
        behind("sticks 5", ";");
        behind(TWO + "row", "zz");
        behind(TWO + "row a", "zz", ";");
        behind(TWO + "row a b", "zz", ";");
        behind(TWO + "plan", "zz");
        behind(TWO + "plan q", "zz", "done");
        behind(TWO + "plan q done", ";");
        behind(TWO + "plan q a", "zz");
        behind(TWO + "plan q a b", "(");
        behind(TWO + "plan q a b(", "zz", "done");
        behind(TWO + "plan q a b(done", "/");
        behind(TWO + "plan q a b(done/", "zz", "done");
        behind(TWO + "plan q a b(done/done", "/", ")");
        behind(TWO + "plan q a b(done/done/", "zz", "done");
        behind(TWO + "plan q a b(done/done/done", ")");
        behind(TWO + "plan q a b(done/done)", ";");
        behind(TWO + "plan q a b(a b(done/done)", "/");
        behind(TWO + "plan q a b(done/b a(done/done)", "/", ")");
        behind(TWO + "plan q a b(done/done/a b(done/done)", ")");
        sentence("part 1: the first by its place");
        fault("row a; ?", 5, 4);
        fault("thing a weighs 1000; thing a weighs 0 ;;", 4, 15);
        fault(TWO + "thing a weighs 0; ?", 3, 40);
        fault("twins; sticks 100; twins;", 4, 14);
    }

    private static void limits() {
        sentence("part 1: at most 5 THINGS; one too many: 2 at the line's first word");
        right(FIVE);
        fault(FIVE + "\n thing f weighs 1;", 2, FIVE.length() + 2);
        fault(FIVE + "thing a weighs 1;", 2, FIVE.length());
        fault(FIVE + "thing ?", 2, FIVE.length());
        sentence("part 1: weights 1 .. 999; 4 a number that can't be");
        right("thing a weighs 1;");
        right("thing a weighs 999;");
        right("thing a weighs 0999;");
        String[] badWeights = {"0", "0000", "1000", "1001", "9999"};
        for (String bad : badWeights) {
            fault("thing a weighs " + bad + ";", 4, 15);
            fault("thing a weighs " + bad, 4, 15);
        }
        sentence("part 1: twins once; a second time: 2 at the line's first word");
        due("once", read("twins;").about(1), 1);
        due("not at all", read(TWO).about(1), 0);
        fault("twins; twins;", 2, 7);
        fault("twins; twins ?", 2, 7);
        sentence("part 1: sticks (0 .. 99; 0) once");
        due("not told", read(TWO).about(2), 0);
        due("the least", read("sticks 0;").about(2), 0);
        due("the most", read("sticks 99;").about(2), 99);
        String[] badSticks = {"100", "101", "999", "9999"};
        for (String bad : badSticks) {
            fault("sticks " + bad + ";", 4, 7);
        }
        fault("sticks 0; sticks 0;", 2, 10);
        fault("sticks 5; twins; sticks ?", 2, 17);
        sentence("part 1: 3 PLANS; one too many: 2 at the line's first word");
        due("three", read("plan q done;plan r done;plan s done;").about(7), 3);
        fault("plan q done;plan r done;plan s done;\nplan t done;", 2, 37);
        fault("plan q done;plan r done;plan s done;plan q ?", 2, 36);
    }

    private static void rows() {
        sentence("part 1: row once: a second time: 2 at the line's first word");
        fault(TWO + "row a; row b;", 2, 41);
        fault(TWO + "row a b; row ?", 2, 43);
        sentence("part 1: row of THINGS told ahead; 5 a NAME that no THING has");
        fault(TWO + "row c;", 5, 38);
        fault(TWO + "row a c;", 5, 40);
        fault("row a;" + TWO, 5, 4);
        fault("thing a weighs 1;row a b;thing b weighs 2;", 5, 23);
        fault("plan q done; row q;", 5, 17);
        fault(FIVE + "row a b c d e f;", 5, FIVE.length() + 14);
        sentence("part 1: each once; 3 a NAME told already in the row");
        fault(TWO + "row a a;", 3, 40);
        fault(TWO + "row a b a;", 3, 42);
        fault(TWO + "row a b b", 3, 42);
        fault(FIVE + "row e d c b a e;", 3, FIVE.length() + 14);
        sentence("part 1: from the heaviest on; all that are not told in it stand behind in it, by number");
        clerksRow(FIVE, 0, 1, 2, 3, 4);
        clerksRow(FIVE + "row e;", 4, 0, 1, 2, 3);
        clerksRow(FIVE + "row a;", 0, 1, 2, 3, 4);
        clerksRow(FIVE + "row d b;", 3, 1, 0, 2, 4);
        clerksRow(FIVE + "row e d c b;", 4, 3, 2, 1, 0);
        clerksRow(FIVE + "row e d c b a;", 4, 3, 2, 1, 0);
        clerksRow(TWO + "row b;" + "thing c weighs 1;thing d weighs 1;", 1, 0, 2, 3);
        clerksRow("");
    }

    private static void clerksRow(String text, int... row) {
        HeavierRow x = read(text);
        for (int place = -1; place <= 5; place++) {
            due("clerk(" + place + ") of " + text, x.clerk(place), place >= 0 && place < row.length ? row[place] : NONE);
        }
    }

    private static void names() {
        sentence("part 1: 3 a NAME told already of a THING");
        fault(TWO + "thing b weighs 3;", 3, 40);
        fault(TWO + "thing a ?", 3, 40);
        fault(FIVE.substring(0, FIVE.length() - 17) + "thing d weighs 3;", 3, FIVE.length() - 11);
        sentence("part 1: 3 a NAME told already of a PLAN");
        fault("plan q done; plan q done;", 3, 18);
        fault("plan q done; plan r done; plan q done;", 3, 31);
        fault(TWO + "plan r a b(done/done); plan r ?", 3, 62);
        sentence("part 1: 3 PLANS of their own NAMES");
        due("a PLAN may have a THING's", read(TWO + "plan a a b(done/done); plan b done;").about(7), 2);
        right("plan a done; thing a weighs 1;");
        sentence("part 1: 3 the second of a two, if it is the first");
        fault(TWO + "plan q b b(done/done);", 3, 43);
        fault(TWO + "plan q a b(done/a a(done/done));", 3, 52);
        fault(TWO + "plan q a a ?", 3, 43);
        sentence("part 1: of THINGS told ahead; 5 a NAME that no THING has");
        fault(TWO + "plan q c a(done/done);", 5, 41);
        fault(TWO + "plan q a c(done/done);", 5, 43);
        fault(TWO + "plan q c c(done/done);", 5, 41);
        fault(TWO + "plan q q a(done/done);", 5, 41);
        fault("thing a weighs 1;plan q a b(done/done);thing b weighs 2;", 5, 26);
        fault("plan q a b(done/done);" + TWO, 5, 7);
        fault("thing a weighs 1;thing abcdefgh weighs 1;plan q a abcdefgi(done/done);", 5, 50);
        sentence("part 1: THINGS, PLANS are numbered as told");
        HeavierRow x = town("thing z weighs 1;thing a weighs 3;thing m weighs 2;plan s done;plan b z a(done/done);");
        due("the first THING is lighter than the second", x.weigh(1, 2), 2);
        due("the third than the second", x.weigh(2, 4), 1);
        due("the first PLAN has no two", x.judged(0, 0, 0, 1, 0), 0);
        due("the second PLAN has one", x.judged(1, 0, 0, 1, 0), 1);
    }

    /** As many twos as this, not within more than seven others. */
    private static String twos(int n) {
        return n == 0 ? "done" : "a b(" + twos((n - 1) / 2) + "/" + twos(n - 1 - (n - 1) / 2) + ")";
    }

    private static String plans(int first, int second, int third) {
        return TWO + "plan q " + twos(first) + ";plan r " + twos(second) + ";plan s " + twos(third) + ";";
    }

    private static int placeOfTwo(String text, int n) {
        int place = -1;
        for (int i = 0; i < n; i++) {
            place = text.indexOf("a b(", place + 1);
        }
        return place;
    }

    private static void manyTwos() {
        sentence("part 1: 60 twos in all");
        due("60", read(plans(60, 0, 0)).about(8), 60);
        due("60", read(plans(20, 20, 20)).about(8), 60);
        due("60 and more PLANS", read(plans(30, 30, 0)).about(7), 3);
        sentence("part 1: a two too many: 2 at its first TOKEN");
        int[][] over = {{61, 0, 0}, {20, 20, 21}, {30, 30, 1}, {59, 2, 0}, {60, 0, 1}};
        for (int[] n : over) {
            String text = plans(n[0], n[1], n[2]);
            fault(text, 2, placeOfTwo(text, 61));
        }
        sentence("part 1: at one place the least: 2 and not 5");
        fault(TWO + "plan q " + twos(60) + ";plan r zz b(done/done);", 2, plans(60, 0, 0).indexOf("plan r") + 7);
        sentence("part 1: at one place the least: 1 and not 2");
        fault(TWO + "plan q " + twos(60) + ";plan r ?", 1, plans(60, 0, 0).indexOf("plan r") + 7);
        right(TWO + "plan q " + twos(60) + ";plan r done;");
    }

    /** A p within so many others, each time as the first, the second or the third of them. */
    private static void within(String others, String behind) {
        sentence("part 1: a p within 10 others at most");
        String ten = TWO + "plan q " + times(others, 10);
        String ends = times(behind, 10) + ";";
        right(ten + "done" + ends);
        sentence("part 1: a p within 11 others: 2 at its first TOKEN");
        fault(ten + "a b(done/done)" + ends, 2, ten.length() + 4);
        fault(ten + "a b( a b(done/done)/done)" + ends, 2, ten.length() + 5);
        fault(ten + "a b(", 2, ten.length() + 4);
        sentence("part 1: at one place the least: 2 and not 5");
        fault(ten + "a b(zz", 2, ten.length() + 4);
        sentence("part 1: at one place the least: 1 and not 2");
        fault(ten + "a b(?", 1, ten.length() + 4);
    }

    private static void deepPlans() {
        within("a b(", "/done)");
        within("a b(", "/done/done)");
        within("a b(done/", ")");
        within("a b(done/", "/done)");
        within("a b(done/done/", ")");
    }

    public static void main(String[] args) {
        newObject();
        feeding();
        ending();
        fullTape();
        streets();
        streetsAgain();
        manyCalls();
        latestFault();
        bytes();
        tokens();
        grammar();
        limits();
        rows();
        names();
        manyTwos();
        deepPlans();
        finish("TextEdgesTest");
    }
}
