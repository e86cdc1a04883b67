/** What the tests by hand take on: answers that are due, told by the document's sentence, and texts fed. */
abstract class Due {
    /** By its number, not by the constant: that is looked at, too. */
    static final int NONE = -1;
    static final int FAR = Integer.MAX_VALUE;
    static final int LOW = Integer.MIN_VALUE;
    static final String ABC = "thing a weighs 7; thing b weighs 5; thing c weighs 2;";
    static final String FIVE =
        "thing a weighs 9;thing b weighs 7;thing c weighs 5;thing d weighs 3;thing e weighs 1;";

    private static String sentence = "";
    private static int wrong;
    private static int checks;

    /** The promise and the words of the document that the answers from here on hold to. */
    static void sentence(String words) {
        sentence = words;
    }

    static void due(String what, int got, int want) {
        checks++;
        if (got != want) {
            wrong++;
            System.out.println(sentence + ": " + what + " answered " + got + ", due is " + want);
        }
    }

    static void due(String what, boolean got, boolean want) {
        due(what, got ? 1 : 0, want ? 1 : 0);
    }

    static void due(String what, String got, String want) {
        checks++;
        if (!got.equals(want)) {
            wrong++;
            System.out.println(sentence + ": " + what + " is " + got + ", due is " + want);
        }
    }

    static void finish(String test) {
        System.out.println(test + ": " + checks + " answers, " + wrong + " wrong");
        if (wrong != 0) {
            System.exit(1);
        }
    }

    /** Puts a text behind what is on the tape, and ends the tape behind it. */
    static void feed(HeavierRow x, String text) {
        int ahead = x.about(5);
        for (int at = 0; at < text.length(); at += 20) {
            int[] five = new int[5];
            for (int i = 0; i < 20; i++) {
                five[i / 4] = five[i / 4] << 8 | (at + i < text.length() ? text.charAt(at + i) : 0);
            }
            x.feed(five[0], five[1], five[2], five[3], five[4]);
        }
        x.end(ahead + text.length());
    }

    static HeavierRow town(String text) {
        HeavierRow x = new HeavierRow();
        feed(x, text);
        x.street();
        due("fault of " + text, x.fault(0), 0);
        return x;
    }

    /** Each telling is a thing, a sign, a thing: "a>b c<d d=e". */
    static void tell(HeavierRow x, String tellings) {
        for (String telling : tellings.split(" ")) {
            if (!telling.isEmpty()) {
                int said = "=><".indexOf(telling.charAt(1));
                int number = x.told(1 << telling.charAt(0) - 'a', 1 << telling.charAt(2) - 'a', said);
                due("told " + telling, number, x.about(3) - 1);
            }
        }
    }

    /** These numbers lie there, and nothing behind them. */
    static void shelf(HeavierRow x, int... row) {
        due("about(6)", x.about(6), row.length);
        due("lies(-1)", x.lies(-1), NONE);
        for (int i = 0; i <= row.length; i++) {
            due("lies(" + i + ")", x.lies(i), i < row.length ? row[i] : NONE);
        }
    }

    /** What can be seen of an object without a change; BOX 2 is used for hidden weights and the seed. */
    static String seen(HeavierRow x) {
        StringBuilder s = new StringBuilder();
        for (int what = 0; what < 10; what++) {
            s.append(x.about(what)).append(' ');
        }
        s.append("fault ").append(x.fault(0)).append(' ').append(x.fault(1)).append(" row");
        for (int place = 0; place < 6; place++) {
            s.append(' ').append(x.clerk(place));
        }
        s.append(" lies");
        for (int i = 0; i < 6; i++) {
            s.append(' ').append(x.lies(i));
        }
        int last = x.about(3) - 1;
        for (int what = 0; what < 4; what++) {
            s.append(" told ").append(x.weighing(0, what)).append(' ').append(x.weighing(last, what));
        }
        int time = x.about(4);
        s.append(" left ").append(x.odds(0, 1, 1, time)).append(' ').append(x.odds(0, 1, 1, time - 1));
        return s.append(hidden(x)).toString();
    }

    private static String hidden(HeavierRow x) {
        StringBuilder s = new StringBuilder(" hidden");
        x.image(2);
        for (int thing = 1; thing < x.about(0); thing++) {
            s.append(' ').append(x.weigh(1 << thing - 1, 1 << thing));
        }
        s.append(" wet ").append(x.wet()).append(' ').append(x.wet());
        x.back(2);
        return s.toString();
    }
}
