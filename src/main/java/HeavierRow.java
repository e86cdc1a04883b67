/**
 * A land that knows no numbers, only a balance that says which of two goes down.
 * The document with its numbered promises stands in ../shared/DOC.md.
 */
public final class HeavierRow {

    /** There is none. */
    public static final int NONE = -1;

    private static final int SPENT = -2;
    private static final int MOST_BYTES = 1200;
    private static final int MOST_WEIGHINGS = 60;
    private static final int LIAR_ORDERS = 6;

    private final byte[] tape = new byte[MOST_BYTES];
    private int bytes;
    private int faultKind;
    private int faultPlace = NONE;
    private Street town = new Street();
    private Street spare = new Street();
    private final Reader reader = new Reader();
    private final Book book = new Book();
    private final Book[] boxes = {new Book(), new Book(), new Book()};
    private final Orders orders = new Orders();
    private final Search search = new Search();
    private final Once once = new Once();
    private final Liar liar = new Liar();
    private final Judge judge = new Judge();
    private final Guesses guesses = new Guesses();
    private final Shelf shelf = new Shelf();

    public HeavierRow() {
        orders.refill(town);
    }

    public int feed(int a, int b, int c, int d, int e) {
        if (bytes + 20 > MOST_BYTES) {
            return NONE;
        }
        putBytes(a);
        putBytes(b);
        putBytes(c);
        putBytes(d);
        putBytes(e);
        return bytes;
    }

    private void putBytes(int four) {
        for (int shift = 24; shift >= 0; shift -= 8) {
            if (bytes >= 0 && bytes < tape.length) {
                tape[bytes] = (byte) (four >> shift);
                bytes++;
            }
        }
    }

    public int end(int n) {
        if (n < 0 || n > bytes) {
            return NONE;
        }
        bytes = n;
        return n;
    }

    public int street() {
        reader.read(tape, bytes, spare);
        bytes = 0;
        faultKind = reader.fault;
        faultPlace = reader.faultPlace;
        if (faultKind != 0) {
            return NONE;
        }
        Street old = town;
        town = spare;
        spare = old;
        orders.refill(town);
        book.begin(town);
        shelf.empty();
        for (int box = 0; box < boxes.length; box++) {
            boxes[box].kept = false;
        }
        return town.things;
    }

    public int fault(int what) {
        return what == 0 ? faultKind : what == 1 ? faultPlace : NONE;
    }

    public int weigh(int first, int second) {
        if (!town.hasHeaps(first, second) || book.isFull()) {
            return NONE;
        }
        int said = book.balance(first, second, town);
        book.write(first, second, said);
        return said;
    }

    public int told(int first, int second, int said) {
        if (!town.hasHeaps(first, second) || said < 0 || said > 2 || book.isFull()) {
            return NONE;
        }
        return book.write(first, second, said);
    }

    public int weighing(int weighing, int what) {
        return book.look(weighing, what);
    }

    public int wet() {
        return book.rain(town.things);
    }

    public boolean untell(int weighing) {
        return book.strike(weighing);
    }

    public int later(int by) {
        return book.pass(by);
    }

    public int left(int lies, int k) {
        shelf.empty();
        if (lies < 0 || lies > MOST_WEIGHINGS) {
            return NONE;
        }
        orders.heed(book, k);
        orders.sift(lies);
        if (orders.leftCount > 0) {
            shelvePlaces(orders.leftAt(0));
        }
        return orders.leftCount;
    }

    private void shelvePlaces(int order) {
        shelf.empty();
        for (int thing = 0; thing < town.things; thing++) {
            shelf.lay(orders.placeOf(order, thing));
        }
    }

    public int struck(int k) {
        orders.heed(book, k);
        int best = orders.firstOfFewestMisses();
        shelvePlaces(best);
        return orders.missesOf(best);
    }

    public int place(int thing, boolean most, int k) {
        if (!town.hasThing(thing) || orders.know(book, k) == 0) {
            return NONE;
        }
        return orders.extremePlace(thing, most);
    }

    public int stand(int place, boolean some, int k) {
        if (place < 0 || place >= Street.MOST_THINGS || orders.know(book, k) == 0) {
            return NONE;
        }
        return orders.standing(place, some);
    }

    public int surely(int a, int b, int k) {
        if (!town.hasTwo(a, b) || orders.know(book, k) == 0) {
            return NONE;
        }
        for (int said = 0; said <= 2; said++) {
            if (orders.isSure(a, b, said)) {
                return said;
            }
        }
        return -2;
    }

    /** NONE if the goal can't be, SPENT if too many are left, else 0: the search holds them then. */
    private int prepare(int goal, int p, int k) {
        if (!town.hasGoal(goal, p)) {
            return NONE;
        }
        if (orders.know(book, k) > Search.MOST) {
            return SPENT;
        }
        search.begin(town.things, goal == 2 || goal == 1 && !town.hasTwins, goal == 2 ? 1 << p : 0);
        for (int i = 0; i < orders.leftCount; i++) {
            int order = orders.leftAt(i);
            search.add(orders.markOf(order), orders.goalOf(order, goal, p));
        }
        search.finish();
        return 0;
    }

    public int fewest(int goal, int p, int k) {
        int ready = prepare(goal, p, k);
        return ready != 0 ? ready : search.fewestOfAll();
    }

    public int next(int goal, int p, int k) {
        int ready = prepare(goal, p, k);
        return ready != 0 ? ready : search.nextOfFewest();
    }

    public int total(int goal, int p, int what, int k) {
        if (what < 0 || what > 1) {
            return NONE;
        }
        int ready = prepare(goal, p, k);
        if (ready != 0) {
            return ready;
        }
        return what == 0 ? search.sumOfAll() : search.nextOfSum();
    }

    public int atOnce(int goal, int p, int k) {
        int ready = prepare(goal, p, k);
        return ready != 0 ? ready : once.fewestPairs(search);
    }

    public int answers(int goal, int p, int what, int k) {
        if (what < 0 || what > 2 || !town.hasGoal(goal, p) || orders.know(book, k) == 0) {
            return NONE;
        }
        return orders.answer(goal, p, what);
    }

    public int judged(int plan, int goal, int p, int what, int k) {
        if (plan < 0 || plan >= town.plans || what < 0 || what > 2 || !town.hasGoal(goal, p)) {
            return NONE;
        }
        orders.know(book, k);
        judge.begin();
        for (int i = 0; i < orders.leftCount; i++) {
            int order = orders.leftAt(i);
            judge.follow(town, plan, orders, order, orders.goalOf(order, goal, p));
        }
        return what == 0 ? judge.unknown() : what == 1 ? judge.most : judge.all;
    }

    public int trusty(int goal, int p, int k) {
        int ready = prepare(goal, p, k);
        if (ready != 0) {
            return ready;
        }
        if (search.count > LIAR_ORDERS) {
            return SPENT;
        }
        int needed = liar.fewestWithALie(search);
        return needed > Liar.MOST_NEEDED ? SPENT : needed;
    }

    public int odds(int a, int b, int what, int k) {
        if (!town.hasTwo(a, b) || what < 0 || what > 1) {
            return NONE;
        }
        int all = orders.know(book, k);
        return what == 0 ? orders.heavierIn(a, b) : all;
    }

    public int evenest(int k) {
        if (town.things < 2 || orders.know(book, k) == 0) {
            return NONE;
        }
        return orders.evenestTwo();
    }

    public int covers(int k) {
        shelf.empty();
        if (orders.know(book, k) == 0) {
            return NONE;
        }
        for (int heavy = 0; heavy < town.things; heavy++) {
            for (int light = 0; light < town.things; light++) {
                if (orders.isCover(heavy, light)) {
                    shelf.lay(10 * heavy + light);
                }
            }
        }
        return shelf.count;
    }

    public int sits(int thing, int what, int k) {
        if (!town.hasThing(thing) || what < 0 || what > 1 || orders.know(book, k) == 0) {
            return NONE;
        }
        return orders.surelySaying(thing, what == 0 ? 1 : 2);
    }

    public int led(int thing, int other, int k) {
        if (!town.hasThing(thing) || !town.hasThing(other)) {
            return NONE;
        }
        orders.heed(book, k);
        return orders.weighingsWith(thing, other);
    }

    public int doubts(int k) {
        orders.heed(book, k);
        return orders.missesBy(orders.markOfRow(town.row));
    }

    public int twins(int thing, int k) {
        if (!town.hasThing(thing) || orders.know(book, k) == 0) {
            return NONE;
        }
        return orders.surelySaying(thing, 0);
    }

    public int ladder(boolean loose, int k) {
        if (orders.know(book, k) == 0) {
            return NONE;
        }
        return orders.largestSet(loose);
    }

    public int bound(int k) {
        int all = orders.know(book, k);
        return all == 0 ? NONE : Search.depthOf(all, town.hasTwins ? 3 : 2);
    }

    public int swapped(int m, int what) {
        if (m < 0 || m > 2 || what < 0 || what > 2) {
            return NONE;
        }
        search.begin(town.things, false, -1);
        orders.addSwapped(search, town.row, m);
        search.finish();
        return what == 0 ? search.fewestOfAll() : what == 1 ? search.nextOfFewest() : search.count;
    }

    public int clerk(int place) {
        return town.hasThing(place) ? Rows.at(town.row, place) : NONE;
    }

    public int weights(int k) {
        shelf.empty();
        guesses.load(town, book, k);
        guesses.guessAll();
        for (int thing = 0; guesses.count > 0 && thing < town.things; thing++) {
            shelf.lay(guesses.firstOf(thing));
        }
        return guesses.count;
    }

    public int weight(int thing, boolean most, int k) {
        if (!town.hasThing(thing)) {
            return NONE;
        }
        guesses.load(town, book, k);
        guesses.guessAll();
        return guesses.count == 0 ? NONE : guesses.extremeOf(thing, most);
    }

    public int could(int first, int second, int k) {
        if (!town.hasHeaps(first, second)) {
            return NONE;
        }
        guesses.load(town, book, k);
        return guesses.sayings(first, second);
    }

    public int stones(int w, boolean both) {
        shelf.empty();
        if (w < 1 || w > 40) {
            return NONE;
        }
        shelf.layStones(w, both);
        return shelf.count;
    }

    public int heaps(int what, int k) {
        if (what < 0 || what > 2 || town.things < 2) {
            return NONE;
        }
        guesses.load(town, book, k);
        return guesses.bestHeaps(what);
    }

    public int lies(int i) {
        return i >= 0 && i < shelf.count ? Rows.at(shelf.items, i) : NONE;
    }

    public int image(int box) {
        if (box < 0 || box >= boxes.length) {
            return NONE;
        }
        boxes[box].copyFrom(book);
        boxes[box].kept = true;
        return book.weighings;
    }

    public int back(int box) {
        if (box < 0 || box >= boxes.length || !boxes[box].kept) {
            return NONE;
        }
        book.copyFrom(boxes[box]);
        return book.weighings;
    }

    public int about(int what) {
        switch (what) {
            case 0:
                return town.things;
            case 1:
                return town.hasTwins ? 1 : 0;
            case 2:
                return town.sticks;
            case 3:
                return book.weighings;
            case 4:
                return book.time;
            case 5:
                return bytes;
            case 6:
                return shelf.count;
            case 7:
                return town.plans;
            case 8:
                return town.twos;
            case 9:
                return book.days;
            default:
                return NONE;
        }
    }

    /** Every index is looked at here before it is used: outside a row is 0, and nothing is put. */
    private static final class Rows {

        static int at(int[] row, int i) {
            return i >= 0 && i < row.length ? row[i] : 0;
        }

        static long at(long[] row, int i) {
            return i >= 0 && i < row.length ? row[i] : 0L;
        }

        static void put(int[] row, int i, int value) {
            if (i >= 0 && i < row.length) {
                row[i] = value;
            }
        }

        static void put(long[] row, int i, long value) {
            if (i >= 0 && i < row.length) {
                row[i] = value;
            }
        }

        static void add(int[] row, int i, int more) {
            if (i >= 0 && i < row.length) {
                row[i] += more;
            }
        }

        static void fill(int[] row, int value) {
            for (int i = 0; i < row.length; i++) {
                row[i] = value;
            }
        }

        static void copy(int[] from, int[] to) {
            for (int i = 0; i < from.length && i < to.length; i++) {
                to[i] = from[i];
            }
        }

        /** Where the value is among the first ones; NONE if it is not. */
        static int find(long[] row, int among, long value) {
            for (int i = 0; i < among && i < row.length; i++) {
                if (row[i] == value) {
                    return i;
                }
            }
            return NONE;
        }

        static boolean hasBit(int bits, int i) {
            return i >= 0 && i < 31 && (bits >> i & 1) != 0;
        }

        static int lowestBit(long bits) {
            return Long.bitCount((bits & -bits) - 1);
        }
    }

    /** What the document lets lie there: the numbers of the latest call that laid some. */
    private static final class Shelf {
        final int[] items = new int[24];
        int count;

        void empty() {
            count = 0;
        }

        void lay(int item) {
            if (count >= 0 && count < items.length) {
                items[count] = item;
                count++;
            }
        }

        /**
         * With c weights reached side by side (0 too; those below 0, too, with both pans), a stone s
         * of at most c makes them c + s (c + 2 s). No row of r more stones reaches more than
         * c * 2 to the r (3 to the r), so the least stone that still leaves enough is the first one.
         */
        void layStones(int w, boolean both) {
            int base = both ? 3 : 2;
            int step = both ? 2 : 1;
            int wanted = both ? 2 * w + 1 : w + 1;
            int stones = Search.depthOf(wanted, base);
            int reached = 1;
            int stone = 1;
            for (int rest = stones - 1; rest >= 0; rest--) {
                int times = powerOf(base, rest);
                while (stone < 2 * w && (reached + step * stone) * times < wanted) {
                    stone++;
                }
                lay(stone);
                reached += step * stone;
            }
        }

        static int powerOf(int base, int n) {
            int power = 1;
            for (int i = 0; i < n && i < 10; i++) {
                power *= base;
            }
            return power;
        }
    }

    /** What a text tells: things, twins, sticks, the clerk's row, plans. */
    private static final class Street {
        static final int MOST_THINGS = 5;
        static final int MOST_PLANS = 3;
        static final int MOST_TWOS = 60;
        static final int DONE = -1;

        int things;
        final long[] names = new long[MOST_THINGS];
        final int[] burdens = new int[MOST_THINGS];
        boolean hasTwins;
        boolean sticksTold;
        int sticks;
        int inRow;
        final int[] row = new int[MOST_THINGS];
        int plans;
        final long[] planNames = new long[MOST_PLANS];
        final int[] roots = new int[MOST_PLANS];
        int twos;
        final int[] firsts = new int[MOST_TWOS];
        final int[] seconds = new int[MOST_TWOS];
        final int[] ways = new int[3 * MOST_TWOS];

        void empty() {
            things = 0;
            hasTwins = false;
            sticksTold = false;
            sticks = 0;
            inRow = 0;
            plans = 0;
            twos = 0;
        }

        void addThing(long name, int weight) {
            Rows.put(names, things, name);
            Rows.put(burdens, things, weight);
            things++;
        }

        void addPlan(long name, int root) {
            Rows.put(planNames, plans, name);
            Rows.put(roots, plans, root);
            plans++;
        }

        int addTwo(int first, int second) {
            Rows.put(firsts, twos, first);
            Rows.put(seconds, twos, second);
            twos++;
            return twos - 1;
        }

        void setWay(int two, int said, int way) {
            Rows.put(ways, 3 * two + said, way);
        }

        void addToRow(int thing) {
            Rows.put(row, inRow, thing);
            inRow++;
        }

        int rowBits() {
            int bits = 0;
            for (int i = 0; i < inRow; i++) {
                bits |= 1 << Rows.at(row, i);
            }
            return bits;
        }

        void completeRow() {
            int told = rowBits();
            for (int thing = 0; thing < things; thing++) {
                if (!Rows.hasBit(told, thing)) {
                    addToRow(thing);
                }
            }
        }

        int thingOf(long name) {
            return Rows.find(names, things, name);
        }

        int planOf(long name) {
            return Rows.find(planNames, plans, name);
        }

        boolean hasThing(int thing) {
            return thing >= 0 && thing < things;
        }

        boolean hasTwo(int a, int b) {
            return hasThing(a) && hasThing(b) && a != b;
        }

        boolean hasHeaps(int first, int second) {
            return isHeap(first) && isHeap(second) && (first & second) == 0;
        }

        private boolean isHeap(int bits) {
            return bits > 0 && bits < 1 << things;
        }

        boolean hasGoal(int goal, int p) {
            return goal == 0 || goal == 1 && p >= 0 && p < MOST_THINGS || goal == 2 && hasThing(p);
        }
    }

    /** Reads a text, TOKEN by TOKEN, into a street. Behind a fault it stands at the text's end. */
    private static final class Reader {
        static final int END = 0;
        static final int WORD = 1;
        static final int NUMBER = 2;
        static final int NO_TOKEN = 3;

        static final int THING = 0;
        static final int WEIGHS = 1;
        static final int TWINS = 2;
        static final int STICKS = 3;
        static final int ROW = 4;
        static final int PLAN = 5;
        static final int DONE = 6;

        static final int MOST_LETTERS = 8;
        static final int MOST_DIGITS = 4;
        static final int DEEPEST = 10;

        private final long[] ownWords = {packed("thing"), packed("weighs"), packed("twins"),
            packed("sticks"), packed("row"), packed("plan"), packed("done")};
        private byte[] text = new byte[0];
        private int length;
        private Street into = new Street();
        private int start;
        private int stop;
        private int kind;
        private int number;
        private long word;
        private int ownWord;
        int fault;
        int faultPlace = NONE;

        private static long packed(String letters) {
            long sum = 0;
            for (int i = 0; i < letters.length(); i++) {
                sum = sum << 8 | letters.charAt(i);
            }
            return sum;
        }

        void read(byte[] tape, int bytes, Street street) {
            text = tape;
            length = bytes;
            into = street;
            into.empty();
            fault = 0;
            faultPlace = NONE;
            stop = 0;
            advance();
            for (int lines = 0; lines <= length && fault == 0 && kind != END; lines++) {
                readLine();
            }
            into.completeRow();
        }

        private void fail(int what) {
            if (fault == 0) {
                fault = kind == NO_TOKEN ? 1 : what;
                faultPlace = start;
                kind = END;
                stop = length;
            }
        }

        private void readLine() {
            if (isOwn(THING)) {
                readThing();
            } else if (isOwn(TWINS)) {
                readTwins();
            } else if (isOwn(STICKS)) {
                readSticks();
            } else if (isOwn(ROW)) {
                readRow();
            } else if (isOwn(PLAN)) {
                readPlan();
            } else {
                fail(2);
            }
        }

        private void readThing() {
            if (into.things >= Street.MOST_THINGS) {
                fail(2);
            }
            advance();
            long name = takeNewName(into.thingOf(word));
            takeOwn(WEIGHS);
            int weight = takeNumber(1, 999);
            takeSign(';');
            if (fault == 0) {
                into.addThing(name, weight);
            }
        }

        private void readTwins() {
            if (into.hasTwins) {
                fail(2);
            }
            advance();
            takeSign(';');
            into.hasTwins = true;
        }

        private void readSticks() {
            if (into.sticksTold) {
                fail(2);
            }
            advance();
            into.sticks = takeNumber(0, 99);
            takeSign(';');
            into.sticksTold = true;
        }

        private void readRow() {
            if (into.inRow > 0) {
                fail(2);
            }
            advance();
            takeRowName();
            for (int more = 0; more < Street.MOST_THINGS && isName(); more++) {
                takeRowName();
            }
            takeSign(';');
        }

        private void takeRowName() {
            int thing = takeThing(into.rowBits());
            if (fault == 0) {
                into.addToRow(thing);
            }
        }

        private void readPlan() {
            if (into.plans >= Street.MOST_PLANS) {
                fail(2);
            }
            advance();
            long name = takeNewName(into.planOf(word));
            int root = readPart(this, 0);
            takeSign(';');
            if (fault == 0) {
                into.addPlan(name, root);
            }
        }

        private static int readPart(Reader r, int depth) {
            if (depth > DEEPEST) {
                r.fail(2);
            }
            if (r.fault != 0) {
                return Street.DONE;
            }
            if (r.isOwn(DONE)) {
                r.advance();
                return Street.DONE;
            }
            if (r.into.twos >= Street.MOST_TWOS) {
                r.fail(2);
            }
            int first = r.takeThing(0);
            int second = r.takeThing(1 << Math.max(first, 0));
            int two = r.fault == 0 ? r.into.addTwo(first, second) : Street.DONE;
            r.takeSign('(');
            r.into.setWay(two, 1, readPart(r, depth + 1));
            r.takeSign('/');
            r.into.setWay(two, 2, readPart(r, depth + 1));
            int third = Street.DONE;
            if (r.kind == '/') {
                r.advance();
                third = readPart(r, depth + 1);
            }
            r.into.setWay(two, 0, third);
            r.takeSign(')');
            return two;
        }

        private long takeNewName(int known) {
            if (!isName()) {
                fail(2);
            }
            if (known != NONE) {
                fail(3);
            }
            long name = word;
            advance();
            return name;
        }

        /** A NAME of a thing that isn't among those (as bits) that may not be told again here. */
        private int takeThing(int barred) {
            if (!isName()) {
                fail(2);
            }
            int thing = into.thingOf(word);
            if (thing == NONE) {
                fail(5);
            }
            if (Rows.hasBit(barred, thing)) {
                fail(3);
            }
            advance();
            return thing;
        }

        private void takeOwn(int own) {
            if (!isOwn(own)) {
                fail(2);
            }
            advance();
        }

        private void takeSign(int sign) {
            if (kind != sign) {
                fail(2);
            }
            advance();
        }

        private int takeNumber(int least, int most) {
            if (kind != NUMBER) {
                fail(2);
            }
            if (number < least || number > most) {
                fail(4);
            }
            int value = number;
            advance();
            return value;
        }

        private boolean isOwn(int own) {
            return kind == WORD && ownWord == own;
        }

        private boolean isName() {
            return kind == WORD && ownWord == NONE;
        }

        private int byteAt(int i) {
            return i >= 0 && i < length && i < text.length ? text[i] & 255 : NONE;
        }

        private void advance() {
            start = stop;
            while (start < length && (byteAt(start) == 32 || byteAt(start) == 10)) {
                start++;
            }
            stop = start;
            word = 0;
            number = 0;
            while (stop < length && isLetter(byteAt(stop))) {
                word = word << 8 | byteAt(stop);
                stop++;
            }
            if (stop > start) {
                kind = stop - start > MOST_LETTERS ? NO_TOKEN : WORD;
                ownWord = Rows.find(ownWords, ownWords.length, word);
                return;
            }
            while (stop < length && isDigit(byteAt(stop))) {
                number = 10 * number + byteAt(stop) - '0';
                stop++;
            }
            if (stop > start) {
                kind = stop - start > MOST_DIGITS || isLetter(byteAt(stop)) ? NO_TOKEN : NUMBER;
                return;
            }
            kind = start >= length ? END : isSign(byteAt(start)) ? byteAt(start) : NO_TOKEN;
            stop = Math.min(start + 1, length);
        }

        private static boolean isSign(int sign) {
            return sign == ';' || sign == '(' || sign == ')' || sign == '/';
        }

        private static boolean isLetter(int sign) {
            return sign >= 'a' && sign <= 'z';
        }

        private static boolean isDigit(int sign) {
            return sign >= '0' && sign <= '9';
        }
    }

    /** The weighings, wet days, hidden weights, the seed and the time: what a box keeps. */
    private static final class Book {
        static final int MOST_DAYS = 40;
        static final int MOST_TIME = 100000;

        int weighings;
        int days;
        int time;
        private int seed;
        boolean kept;
        final int[] firsts = new int[MOST_WEIGHINGS];
        final int[] seconds = new int[MOST_WEIGHINGS];
        final int[] saids = new int[MOST_WEIGHINGS];
        private final int[] toldAt = new int[MOST_WEIGHINGS];
        private final int[] untoldAt = new int[MOST_WEIGHINGS];
        private final int[] daysAhead = new int[MOST_WEIGHINGS];
        private final int[] wetAt = new int[MOST_DAYS];
        private final int[] hidden = new int[Street.MOST_THINGS];

        void begin(Street street) {
            weighings = 0;
            days = 0;
            seed = 0;
            Rows.copy(street.burdens, hidden);
        }

        void copyFrom(Book other) {
            weighings = other.weighings;
            days = other.days;
            time = other.time;
            seed = other.seed;
            Rows.copy(other.firsts, firsts);
            Rows.copy(other.seconds, seconds);
            Rows.copy(other.saids, saids);
            Rows.copy(other.toldAt, toldAt);
            Rows.copy(other.untoldAt, untoldAt);
            Rows.copy(other.daysAhead, daysAhead);
            Rows.copy(other.wetAt, wetAt);
            Rows.copy(other.hidden, hidden);
        }

        boolean isFull() {
            return weighings >= MOST_WEIGHINGS;
        }

        int balance(int first, int second, Street street) {
            int more = heapOf(first) - heapOf(second);
            return more > street.sticks ? 1 : -more > street.sticks ? 2 : 0;
        }

        private int heapOf(int bits) {
            int sum = 0;
            for (int thing = 0; thing < Street.MOST_THINGS; thing++) {
                if (Rows.hasBit(bits, thing)) {
                    sum += Rows.at(hidden, thing);
                }
            }
            return sum;
        }

        int write(int first, int second, int said) {
            int i = weighings;
            Rows.put(firsts, i, first);
            Rows.put(seconds, i, second);
            Rows.put(saids, i, said);
            Rows.put(toldAt, i, time);
            Rows.put(untoldAt, i, NONE);
            Rows.put(daysAhead, i, days);
            weighings++;
            return i;
        }

        private boolean has(int weighing) {
            return weighing >= 0 && weighing < weighings;
        }

        int look(int weighing, int what) {
            if (!has(weighing)) {
                return NONE;
            }
            switch (what) {
                case 0:
                    return Rows.at(firsts, weighing);
                case 1:
                    return Rows.at(seconds, weighing);
                case 2:
                    return Rows.at(saids, weighing);
                case 3:
                    return isUntold(weighing) ? 1 : 0;
                default:
                    return NONE;
            }
        }

        private boolean isUntold(int weighing) {
            return Rows.at(untoldAt, weighing) != NONE;
        }

        boolean strike(int weighing) {
            if (!has(weighing) || isUntold(weighing)) {
                return false;
            }
            Rows.put(untoldAt, weighing, time);
            return true;
        }

        int pass(int by) {
            if (by < 0 || by > 1000 || time + by > MOST_TIME) {
                return NONE;
            }
            time += by;
            return time;
        }

        int rain(int things) {
            if (things < 2 || days >= MOST_DAYS) {
                return NONE;
            }
            seed = (seed * 137 + 71) % 1000;
            int d = seed % (things - 1);
            int upper = thingAtRank(d, things);
            int lower = thingAtRank(d + 1, things);
            int weight = Rows.at(hidden, upper);
            Rows.put(hidden, upper, Rows.at(hidden, lower));
            Rows.put(hidden, lower, weight);
            Rows.put(wetAt, days, time);
            days++;
            return d;
        }

        private int thingAtRank(int rank, int things) {
            for (int thing = 0; thing < things; thing++) {
                int ahead = 0;
                for (int other = 0; other < things; other++) {
                    int more = Rows.at(hidden, other) - Rows.at(hidden, thing);
                    ahead += more > 0 || more == 0 && other < thing ? 1 : 0;
                }
                if (ahead == rank) {
                    return thing;
                }
            }
            return 0;
        }

        /** Wet days come in the order of time: the first one behind a weighing ends it first. */
        boolean counts(int weighing, int k) {
            int ahead = Rows.at(daysAhead, weighing);
            boolean drowned = ahead < days && Rows.at(wetAt, ahead) <= k;
            boolean untold = isUntold(weighing) && Rows.at(untoldAt, weighing) <= k;
            return Rows.at(toldAt, weighing) <= k && !drowned && !untold;
        }

        boolean isSingle(int weighing) {
            return Integer.bitCount(Rows.at(firsts, weighing)) == 1
                && Integer.bitCount(Rows.at(seconds, weighing)) == 1;
        }
    }

    /**
     * All orders, and those that are left. An order's mark has one bit for each pair of things:
     * bit 10 * said + the pair's number is what the balance would say of it.
     */
    private static final class Orders {
        static final int MOST = 541;
        static final int PAIRS = 10;

        private int things;
        private int count;
        private final int[] places = new int[MOST];
        private final int[] marks = new int[MOST];
        private final int[] left = new int[MOST];
        int leftCount;
        private int sure;
        private int asked;
        private int singles;
        private final int[] tallies = new int[3 * PAIRS];
        private final int[] polls = new int[32];
        private final int[] digits = new int[Street.MOST_THINGS];

        static int pairOf(int things, int a, int b) {
            int low = Math.min(a, b);
            return low * things - low * (low + 1) / 2 + Math.max(a, b) - low - 1;
        }

        private static int bitOf(int things, int a, int b, int said) {
            int turned = said == 0 || a < b ? said : 3 - said;
            return 10 * turned + pairOf(things, a, b);
        }

        void refill(Street street) {
            things = street.things;
            count = 0;
            int tuples = 1;
            for (int thing = 0; thing < things; thing++) {
                tuples *= things;
                Rows.put(digits, thing, 0);
            }
            for (int tuple = 0; tuple < tuples; tuple++) {
                if (isOrder(street.hasTwins)) {
                    keepOrder();
                }
                stepDigits();
            }
        }

        private boolean isOrder(boolean twins) {
            for (int thing = 0; thing < things; thing++) {
                int heavier = 0;
                int even = 0;
                for (int other = 0; other < things; other++) {
                    int more = Rows.at(digits, thing) - Rows.at(digits, other);
                    heavier += more > 0 ? 1 : 0;
                    even += more == 0 ? 1 : 0;
                }
                if (heavier != Rows.at(digits, thing) || even > 1 && !twins) {
                    return false;
                }
            }
            return true;
        }

        private void stepDigits() {
            boolean carried = true;
            for (int thing = things - 1; thing >= 0 && carried; thing--) {
                int digit = Rows.at(digits, thing) + 1;
                carried = digit >= things;
                Rows.put(digits, thing, carried ? 0 : digit);
            }
        }

        private void keepOrder() {
            int packed = 0;
            for (int thing = 0; thing < things; thing++) {
                packed |= Rows.at(digits, thing) << 3 * thing;
            }
            Rows.put(places, count, packed);
            Rows.put(marks, count, markOfDigits());
            count++;
        }

        private int markOfDigits() {
            int mark = 0;
            for (int a = 0; a < things; a++) {
                for (int b = a + 1; b < things; b++) {
                    int more = Rows.at(digits, a) - Rows.at(digits, b);
                    int said = more < 0 ? 1 : more > 0 ? 2 : 0;
                    mark |= 1 << bitOf(things, a, b, said);
                }
            }
            return mark;
        }

        int markOfRow(int[] row) {
            for (int place = 0; place < things; place++) {
                Rows.put(digits, Rows.at(row, place), place);
            }
            return markOfDigits();
        }

        /** Counts what the single weighings said that count at k. */
        void heed(Book book, int k) {
            Rows.fill(tallies, 0);
            asked = 0;
            singles = 0;
            for (int i = 0; i < book.weighings; i++) {
                if (book.counts(i, k) && book.isSingle(i)) {
                    int a = Rows.lowestBit(Rows.at(book.firsts, i));
                    int b = Rows.lowestBit(Rows.at(book.seconds, i));
                    int bit = bitOf(things, a, b, Rows.at(book.saids, i));
                    Rows.add(tallies, bit, 1);
                    asked |= 1 << bit;
                    singles++;
                }
            }
        }

        void sift(int lies) {
            leftCount = 0;
            sure = -1;
            for (int order = 0; order < count; order++) {
                int mark = Rows.at(marks, order);
                if ((mark & asked) == asked || lies > 0 && missesBy(mark) <= lies) {
                    Rows.put(left, leftCount, order);
                    leftCount++;
                    sure &= mark;
                }
            }
        }

        /** Those left with no lies as known at k: how many. */
        int know(Book book, int k) {
            heed(book, k);
            sift(0);
            return leftCount;
        }

        int missesBy(int mark) {
            int misses = singles;
            for (int bit = 0; bit < tallies.length; bit++) {
                if (Rows.hasBit(mark, bit)) {
                    misses -= tallies[bit];
                }
            }
            return misses;
        }

        int missesOf(int order) {
            return missesBy(markOf(order));
        }

        int firstOfFewestMisses() {
            int best = 0;
            int fewestMisses = missesOf(0);
            for (int order = 1; order < count && fewestMisses > 0; order++) {
                int misses = missesOf(order);
                if (misses < fewestMisses) {
                    best = order;
                    fewestMisses = misses;
                }
            }
            return best;
        }

        int leftAt(int i) {
            return Rows.at(left, i);
        }

        int markOf(int order) {
            return Rows.at(marks, order);
        }

        int placeOf(int order, int thing) {
            return Rows.at(places, order) >> 3 * thing & 7;
        }

        int saidBy(int order, int a, int b) {
            int more = placeOf(order, a) - placeOf(order, b);
            return more < 0 ? 1 : more > 0 ? 2 : 0;
        }

        int goalOf(int order, int goal, int p) {
            if (goal == 2) {
                return placeOf(order, p);
            }
            int value = 0;
            for (int thing = 0; thing < things; thing++) {
                int place = placeOf(order, thing);
                if (goal == 0) {
                    value = 10 * value + place;
                } else if (place == p) {
                    value |= 1 << thing;
                }
            }
            return value;
        }

        int extremePlace(int thing, boolean most) {
            int extreme = placeOf(leftAt(0), thing);
            for (int i = 1; i < leftCount; i++) {
                int place = placeOf(leftAt(i), thing);
                extreme = most ? Math.max(extreme, place) : Math.min(extreme, place);
            }
            return extreme;
        }

        int standing(int place, boolean some) {
            int bits = some ? 0 : (1 << things) - 1;
            for (int i = 0; i < leftCount; i++) {
                int here = goalOf(leftAt(i), 1, place);
                bits = some ? bits | here : bits & here;
            }
            return bits;
        }

        boolean isSure(int a, int b, int said) {
            return a != b && Rows.hasBit(sure, bitOf(things, a, b, said));
        }

        int surelySaying(int thing, int said) {
            int bits = 0;
            for (int other = 0; other < things; other++) {
                if (isSure(thing, other, said)) {
                    bits |= 1 << other;
                }
            }
            return bits;
        }

        boolean isCover(int heavy, int light) {
            boolean cover = isSure(heavy, light, 1);
            for (int third = 0; third < things && cover; third++) {
                cover = !isSure(heavy, third, 1) || !isSure(third, light, 1);
            }
            return cover;
        }

        int heavierIn(int a, int b) {
            int bit = bitOf(things, a, b, 1);
            int sum = 0;
            for (int i = 0; i < leftCount; i++) {
                sum += Rows.hasBit(markOf(leftAt(i)), bit) ? 1 : 0;
            }
            return sum;
        }

        int evenestTwo() {
            int best = NONE;
            int two = NONE;
            for (int a = 0; a < things; a++) {
                for (int b = a + 1; b < things; b++) {
                    int lesser = Math.min(heavierIn(a, b), heavierIn(b, a));
                    if (lesser > best) {
                        best = lesser;
                        two = 10 * a + b;
                    }
                }
            }
            return two;
        }

        int weighingsWith(int thing, int other) {
            int sum = 0;
            for (int with = 0; with < things; with++) {
                if (with != thing && (with == other || thing == other)) {
                    int pair = pairOf(things, thing, with);
                    sum += Rows.at(tallies, pair) + Rows.at(tallies, 10 + pair) + Rows.at(tallies, 20 + pair);
                }
            }
            return sum;
        }

        int largestSet(boolean loose) {
            int best = 0;
            for (int set = 1; set < 1 << things; set++) {
                if (Integer.bitCount(set) > Integer.bitCount(best) && isSet(set, loose)) {
                    best = set;
                }
            }
            return best;
        }

        private boolean isSet(int set, boolean loose) {
            for (int a = 0; a < things; a++) {
                for (int b = a + 1; b < things; b++) {
                    boolean ordered = isSure(a, b, 1) || isSure(a, b, 2);
                    boolean right = loose ? !ordered && !isSure(a, b, 0) : ordered;
                    if (Rows.hasBit(set, a) && Rows.hasBit(set, b) && !right) {
                        return false;
                    }
                }
            }
            return true;
        }

        /** Places and sets of things are below 32; for the whole order each is of its own kind. */
        int answer(int goal, int p, int what) {
            if (goal == 0) {
                return what == 0 ? leftCount : what == 1 ? 1 : goalOf(leftAt(0), 0, 0);
            }
            Rows.fill(polls, 0);
            for (int i = 0; i < leftCount; i++) {
                Rows.add(polls, goalOf(leftAt(i), goal, p), 1);
            }
            int unlike = 0;
            int winner = 0;
            for (int value = 0; value < polls.length; value++) {
                unlike += polls[value] > 0 ? 1 : 0;
                winner = polls[value] > Rows.at(polls, winner) ? value : winner;
            }
            return what == 0 ? unlike : what == 1 ? Rows.at(polls, winner) : winner;
        }

        /** The row with each set of at most m twos of neighbours swapped, none of them in two. */
        void addSwapped(Search search, int[] row, int m) {
            for (int swaps = 0; swaps < 1 << Math.max(things - 1, 0); swaps++) {
                if (Integer.bitCount(swaps) <= m && (swaps & swaps << 1) == 0) {
                    for (int place = 0; place < things; place++) {
                        int stands = Rows.hasBit(swaps, place) ? place + 1
                            : Rows.hasBit(swaps, place - 1) ? place - 1 : place;
                        Rows.put(digits, Rows.at(row, place), stands);
                    }
                    search.add(markOfDigits(), swaps);
                }
            }
        }
    }

    /**
     * The fewest weighings from a set of at most 120 orders on; a set is two masks of 60 orders, and
     * rows of sets have the low masks at 2 * i, the high ones behind them. What was found for a set
     * stays known as long as the same orders with the same goals are loaded.
     */
    private static final class Search {
        static final int MOST = 120;
        private static final int HALF = 60;
        private static final int SLOTS = 4096;
        private static final int TRIES = 64;
        private static final int MANY = 1000000;
        private static final int DEEPEST = 12;

        final int[] marks = new int[MOST];
        final int[] goals = new int[MOST];
        int count;
        private int things;
        private boolean joining;
        private int unlike;
        private int filled;
        private boolean changed;
        private int base;
        private int kinds;
        private final int[] kindOf = new int[MOST];
        private final long[] kindSets = new long[2 * MOST];
        private final long[] saidSets = new long[6 * Orders.PAIRS];
        private final int[] codes = new int[Orders.PAIRS];
        private final int[] groupsOf = new int[1 << Orders.PAIRS];
        private int round;
        private final int[] rounds = new int[SLOTS];
        private final long[] keys = new long[2 * SLOTS];
        /** Above 0: what is needed; below 0: at least so much is; 0: not looked for. */
        private final int[] worstOf = new int[SLOTS];
        private final int[] sumOf = new int[SLOTS];

        /**
         * Joining: the goal is not come to before each thing is joined to each other one by pairs
         * whose saying is sure. Whoever is not joined to a thing may stand on either side of it, so
         * its place, and without twins who has a place, stays open. Unlike are the things (as bits)
         * of which it counts for the goal or the orders which one they are.
         */
        void begin(int streetThings, boolean joiningGoal, int unlikeThings) {
            filled = 0;
            changed = streetThings != things || joiningGoal != joining || unlikeThings != unlike || round == 0;
            if (streetThings != things) {
                numberPairs(streetThings);
            }
            joining = joiningGoal;
            unlike = unlikeThings;
        }

        private void numberPairs(int streetThings) {
            things = streetThings;
            Rows.fill(groupsOf, 0);
            for (int a = 0; a < things; a++) {
                for (int b = a + 1; b < things; b++) {
                    Rows.put(codes, Orders.pairOf(things, a, b), 10 * a + b);
                }
            }
        }

        int pairs() {
            return things * (things - 1) / 2;
        }

        void add(int mark, int goal) {
            if (filled < 0 || filled >= MOST) {
                return;
            }
            if (marks[filled] != mark || goals[filled] != goal) {
                changed = true;
                marks[filled] = mark;
                goals[filled] = goal;
            }
            filled++;
        }

        void finish() {
            if (!changed && filled == count) {
                return;
            }
            count = filled;
            round++;
            kinds = 0;
            base = 2;
            for (int i = 0; i < saidSets.length; i++) {
                Rows.put(saidSets, i, 0L);
            }
            for (int order = 0; order < count; order++) {
                sortIn(order);
            }
        }

        private void sortIn(int order) {
            int mark = Rows.at(marks, order);
            if ((mark & 1023) != 0) {
                base = 3;
            }
            for (int bit = 0; bit < 3 * Orders.PAIRS; bit++) {
                if (Rows.hasBit(mark, bit)) {
                    putIn(saidSets, bit, order);
                }
            }
            int kind = kindLike(order);
            Rows.put(kindOf, order, kind);
            putIn(kindSets, kind, order);
        }

        private static void putIn(long[] sets, int set, int order) {
            int i = order < HALF ? 2 * set : 2 * set + 1;
            Rows.put(sets, i, Rows.at(sets, i) | 1L << order % HALF);
        }

        private int kindLike(int order) {
            for (int other = 0; other < order; other++) {
                if (Rows.at(goals, other) == Rows.at(goals, order)) {
                    return Rows.at(kindOf, other);
                }
            }
            Rows.put(kindSets, 2 * kinds, 0L);
            Rows.put(kindSets, 2 * kinds + 1, 0L);
            kinds++;
            return kinds - 1;
        }

        private long allLow() {
            return (1L << Math.min(count, HALF)) - 1;
        }

        private long allHigh() {
            return (1L << Math.max(count - HALF, 0)) - 1;
        }

        /** The pairs, as bits, of which all orders say the same. */
        private int surePairs() {
            int sure = -1;
            for (int order = 0; order < count; order++) {
                sure &= Rows.at(marks, order);
            }
            return (sure | sure >> 10 | sure >> 20) & (1 << pairs()) - 1;
        }

        int fewestOfAll() {
            int worst = 0;
            int limit = -1;
            while (worst > limit && limit <= DEEPEST) {
                limit++;
                worst = worstFrom(this, allLow(), allHigh(), surePairs(), limit, 0);
            }
            return worst;
        }

        int sumOfAll() {
            int least = sumFrom(this, allLow(), allHigh(), surePairs(), 0, 0);
            int sum = sumFrom(this, allLow(), allHigh(), surePairs(), least, 0);
            return sum <= least ? sum : sumFrom(this, allLow(), allHigh(), surePairs(), MANY, 0);
        }

        int nextOfFewest() {
            int wanted = fewestOfAll();
            for (int pair = 0; pair < pairs() && wanted > 0; pair++) {
                if (worstBehind(this, pair, allLow(), allHigh(), surePairs(), wanted, 0) <= wanted) {
                    return codeOf(pair);
                }
            }
            return NONE;
        }

        int nextOfSum() {
            int wanted = sumOfAll();
            for (int pair = 0; pair < pairs() && wanted > 0; pair++) {
                if (sumBehind(this, pair, allLow(), allHigh(), surePairs(), wanted, 0) <= wanted) {
                    return codeOf(pair);
                }
            }
            return NONE;
        }

        /** 10 * the first and the second of a pair. */
        private int codeOf(int pair) {
            return Rows.at(codes, pair);
        }

        /** What the set needs in the worst case; if that is above the limit: at least so much. */
        private static int worstFrom(Search s, long low, long high, int sure, int limit, int depth) {
            if (s.isAlike(low, high)) {
                return 0;
            }
            if (depth > DEEPEST) {
                return MANY;
            }
            int slot = s.slotOf(low, high);
            int known = Rows.at(s.worstOf, slot);
            int least = Math.max(s.leastWorst(low, high, s.joinsFor(sure)), -known);
            if (known > 0 || least > limit) {
                return known > 0 ? known : least;
            }
            int best = MANY;
            int free = s.freeThings(sure);
            for (int pair = 0; pair < s.pairs() && best > least; pair++) {
                if (s.isFirstLike(pair, free)) {
                    int most = Math.min(limit, best - 1);
                    best = Math.min(best, worstBehind(s, pair, low, high, sure, most, depth));
                }
            }
            Rows.put(s.worstOf, slot, best <= limit ? best : -best);
            return best;
        }

        /** One weighing and the most behind it, or if that is above the limit: at least so much. */
        private static int worstBehind(Search s, int pair, long low, long high, int sure, int limit, int depth) {
            int then = sure | 1 << pair;
            int joins = s.joinsFor(then);
            int worst = 0;
            for (int bit = pair; bit < 3 * Orders.PAIRS; bit += Orders.PAIRS) {
                long partLow = low & Rows.at(s.saidSets, 2 * bit);
                long partHigh = high & Rows.at(s.saidSets, 2 * bit + 1);
                if (partLow == low && partHigh == high) {
                    return MANY;
                }
                worst = Math.max(worst, s.leastWorst(partLow, partHigh, joins));
            }
            for (int bit = pair; bit < 3 * Orders.PAIRS && worst < limit; bit += Orders.PAIRS) {
                long partLow = low & Rows.at(s.saidSets, 2 * bit);
                long partHigh = high & Rows.at(s.saidSets, 2 * bit + 1);
                worst = Math.max(worst, worstFrom(s, partLow, partHigh, then, limit - 1, depth + 1));
            }
            return 1 + worst;
        }

        /** What the set's orders need together; if that is above the limit: at least so much. */
        private static int sumFrom(Search s, long low, long high, int sure, int limit, int depth) {
            if (s.isAlike(low, high)) {
                return 0;
            }
            if (depth > DEEPEST) {
                return MANY;
            }
            int slot = s.slotOf(low, high);
            int known = Rows.at(s.sumOf, slot);
            int least = Math.max(s.leastSum(low, high, s.joinsFor(sure)), -known);
            if (known > 0 || least > limit) {
                return known > 0 ? known : least;
            }
            int best = MANY;
            int free = s.freeThings(sure);
            for (int pair = 0; pair < s.pairs() && best > least; pair++) {
                if (s.isFirstLike(pair, free)) {
                    int most = Math.min(limit, best - 1);
                    best = Math.min(best, sumBehind(s, pair, low, high, sure, most, depth));
                }
            }
            Rows.put(s.sumOf, slot, best <= limit ? best : -best);
            return best;
        }

        /** A weighing for each and what is behind it, or if that is above the limit: at least so much. */
        private static int sumBehind(Search s, int pair, long low, long high, int sure, int limit, int depth) {
            int then = sure | 1 << pair;
            int joins = s.joinsFor(then);
            int sum = Long.bitCount(low) + Long.bitCount(high);
            for (int bit = pair; bit < 3 * Orders.PAIRS; bit += Orders.PAIRS) {
                long partLow = low & Rows.at(s.saidSets, 2 * bit);
                long partHigh = high & Rows.at(s.saidSets, 2 * bit + 1);
                if (partLow == low && partHigh == high) {
                    return MANY;
                }
                sum += s.leastSum(partLow, partHigh, joins);
            }
            for (int bit = pair; bit < 3 * Orders.PAIRS && sum <= limit; bit += Orders.PAIRS) {
                long partLow = low & Rows.at(s.saidSets, 2 * bit);
                long partHigh = high & Rows.at(s.saidSets, 2 * bit + 1);
                sum -= s.leastSum(partLow, partHigh, joins);
                sum += sumFrom(s, partLow, partHigh, then, limit - sum, depth + 1);
            }
            return sum;
        }

        /** Things of which nothing is known: one is as good as the other. */
        private int freeThings(int sure) {
            int free = (1 << things) - 1 & ~unlike;
            for (int pair = 0; pair < pairs(); pair++) {
                if (Rows.hasBit(sure, pair)) {
                    free &= ~(1 << codeOf(pair) / 10 | 1 << codeOf(pair) % 10);
                }
            }
            return free;
        }

        /** Of free things it is enough to try the first, or the first two with one another. */
        private boolean isFirstLike(int pair, int free) {
            int a = codeOf(pair) / 10;
            int b = codeOf(pair) % 10;
            boolean first = !Rows.hasBit(free, a) || Rows.lowestBit(free) == a;
            return first && (!Rows.hasBit(free, b) || Rows.lowestBit(free & ~(1 << a)) == b);
        }

        private boolean isAlike(long low, long high) {
            if (low == 0 && high == 0) {
                return true;
            }
            int first = low != 0 ? Rows.lowestBit(low) : HALF + Rows.lowestBit(high);
            int kind = Rows.at(kindOf, first);
            return (low & ~Rows.at(kindSets, 2 * kind)) == 0 && (high & ~Rows.at(kindSets, 2 * kind + 1)) == 0;
        }

        private int kindsIn(long low, long high) {
            if (kinds == count) {
                return Long.bitCount(low) + Long.bitCount(high);
            }
            int sum = 0;
            for (int i = 0; i < 2 * kinds; i += 2) {
                sum += (low & Rows.at(kindSets, i)) != 0 || (high & Rows.at(kindSets, i + 1)) != 0 ? 1 : 0;
            }
            return sum;
        }

        /** No strategy is better: so many weighings part no more kinds, and join no more things. */
        private int leastWorst(long low, long high, int joins) {
            if (isAlike(low, high)) {
                return 0;
            }
            return Math.max(depthOf(kindsIn(low, high), base), joins);
        }

        static int depthOf(int kinds, int base) {
            int depth = 0;
            int reach = 1;
            while (reach < kinds && depth < 20) {
                reach *= base;
                depth++;
            }
            return depth;
        }

        /** For kinds of one order each the least sum of a tree's depths; else what each one needs. */
        private int leastSum(long low, long high, int joins) {
            int all = Long.bitCount(low) + Long.bitCount(high);
            if (kinds != count) {
                return isAlike(low, high) ? 0 : all * joins;
            }
            int depth = 0;
            int reach = 1;
            while (reach * base <= all && depth < 20) {
                reach *= base;
                depth++;
            }
            int over = Math.max(all - reach, 0);
            int parted = base == 3 ? (over + 1) / 2 : over;
            return all * depth + over + parted;
        }

        /** How many weighings more each order needs at least, if the goal isn't come to. */
        private int joinsFor(int sure) {
            if (!joining) {
                return 1;
            }
            if (Rows.at(groupsOf, sure) == 0) {
                Rows.put(groupsOf, sure, countGroups(sure));
            }
            return Math.max(1, Rows.at(groupsOf, sure) - 1);
        }

        /** Each thing has four bits of labels; those of one group are made alike. */
        private int countGroups(int joined) {
            int groups = things;
            int labels = 0x43210;
            for (int pair = 0; pair < pairs(); pair++) {
                int code = Rows.at(codes, pair);
                int one = labels >> 4 * (code / 10) & 15;
                int other = labels >> 4 * (code % 10) & 15;
                boolean joins = Rows.hasBit(joined, pair) && one != other;
                groups -= joins ? 1 : 0;
                for (int thing = 0; thing < things && joins; thing++) {
                    boolean moves = (labels >> 4 * thing & 15) == other;
                    labels += moves ? one - other << 4 * thing : 0;
                }
            }
            return groups;
        }

        /** The set's slot, as a new one if there was none; NONE if the ones near by are all taken. */
        private int slotOf(long low, long high) {
            long mixed = (low * 31 + high) * 0x9E3779B97F4A7C15L;
            int slot = (int) (mixed >>> 40) & SLOTS - 1;
            for (int tries = 0; tries < TRIES; tries++) {
                if (Rows.at(rounds, slot) != round) {
                    Rows.put(rounds, slot, round);
                    Rows.put(keys, 2 * slot, low);
                    Rows.put(keys, 2 * slot + 1, high);
                    Rows.put(worstOf, slot, 0);
                    Rows.put(sumOf, slot, 0);
                    return slot;
                }
                if (Rows.at(keys, 2 * slot) == low && Rows.at(keys, 2 * slot + 1) == high) {
                    return slot;
                }
                slot = slot + 1 & SLOTS - 1;
            }
            return NONE;
        }
    }

    /** The fewest pairs that part any two orders of unlike goals, if all are weighed. */
    private static final class Once {
        private static final int SETS = 1024;

        /** 1 for a set of pairs that has all those by which some two such orders differ. */
        private final int[] holds = new int[SETS];

        int fewestPairs(Search search) {
            Rows.fill(holds, 0);
            for (int i = 0; i < search.count; i++) {
                for (int j = 0; j < i; j++) {
                    if (Rows.at(search.goals, i) != Rows.at(search.goals, j)) {
                        int unlike = Rows.at(search.marks, i) ^ Rows.at(search.marks, j);
                        Rows.put(holds, (unlike | unlike >> 10 | unlike >> 20) & SETS - 1, 1);
                    }
                }
            }
            for (int pair = 0; pair < search.pairs(); pair++) {
                for (int set = 0; set < SETS; set++) {
                    if (Rows.hasBit(set, pair) && Rows.at(holds, set ^ 1 << pair) != 0) {
                        Rows.put(holds, set, 1);
                    }
                }
            }
            return leastSet((1 << search.pairs()) - 1);
        }

        private int leastSet(int all) {
            int best = NONE;
            for (int set = 0; set <= all; set++) {
                boolean enough = Rows.at(holds, all ^ set) == 0;
                if (enough && (best == NONE || Integer.bitCount(set) < Integer.bitCount(best))) {
                    best = set;
                }
            }
            return best;
        }
    }

    /**
     * The fewest weighings if one at most may be a lie. A state is two sets of orders: those by
     * which all was true, and those by which one answer was a lie. What is behind a state has a
     * part of its true set, or the same and a part of its other one: so it is found ahead of it.
     */
    private static final class Liar {
        static final int MOST_NEEDED = 12;
        private static final int MANY = 13;
        private static final int SETS = 64;

        private final int[] needs = new int[SETS * SETS];
        private final int[] alike = new int[SETS];
        private final int[] truths = new int[3 * Orders.PAIRS];

        int fewestWithALie(Search search) {
            int all = (1 << Math.min(search.count, LIAR_ORDERS)) - 1;
            loadTruths(search);
            for (int set = 0; set <= all; set++) {
                Rows.put(alike, set, isAlike(search, set) ? 1 : 0);
            }
            for (int clean = 0; clean <= all; clean++) {
                for (int stained = 0; stained <= all; stained++) {
                    if ((clean & stained) == 0) {
                        Rows.put(needs, clean * SETS + stained, needOf(clean, stained, search.pairs()));
                    }
                }
            }
            return Rows.at(needs, all * SETS);
        }

        private void loadTruths(Search search) {
            Rows.fill(truths, 0);
            for (int i = 0; i < search.count; i++) {
                for (int bit = 0; bit < truths.length; bit++) {
                    if (Rows.hasBit(Rows.at(search.marks, i), bit)) {
                        truths[bit] |= 1 << i;
                    }
                }
            }
        }

        private static boolean isAlike(Search search, int set) {
            int first = Rows.lowestBit(set);
            for (int i = 0; i < search.count; i++) {
                if (Rows.hasBit(set, i) && Rows.at(search.goals, i) != Rows.at(search.goals, first)) {
                    return false;
                }
            }
            return true;
        }

        private int needOf(int clean, int stained, int pairs) {
            if (Rows.at(alike, clean | stained) != 0) {
                return 0;
            }
            int best = MANY;
            for (int pair = 0; pair < pairs; pair++) {
                best = Math.min(best, 1 + worstBehind(clean, stained, pair));
            }
            return best;
        }

        private int worstBehind(int clean, int stained, int pair) {
            int worst = 0;
            for (int bit = pair; bit < truths.length; bit += Orders.PAIRS) {
                int truth = Rows.at(truths, bit);
                int cleanThen = clean & truth;
                int stainedThen = stained & truth | clean & ~truth;
                if (cleanThen == clean && stainedThen == stained) {
                    return MANY;
                }
                worst = Math.max(worst, Rows.at(needs, cleanThen * SETS + stainedThen));
            }
            return worst;
        }
    }

    /** Sends orders through a plan; each done has a number of its own: 3 * its two + what was said. */
    private static final class Judge {
        private static final int ROOT_DONE = 3 * Street.MOST_TWOS;

        private final int[] comers = new int[ROOT_DONE + 1];
        private final int[] goals = new int[ROOT_DONE + 1];
        private final int[] mixed = new int[ROOT_DONE + 1];
        int most;
        int all;

        void begin() {
            Rows.fill(comers, 0);
            Rows.fill(mixed, 0);
            most = 0;
            all = 0;
        }

        void follow(Street street, int plan, Orders orders, int order, int goal) {
            int done = ROOT_DONE;
            int two = Rows.at(street.roots, plan);
            int steps = 0;
            while (two != Street.DONE && steps <= Street.MOST_TWOS) {
                int first = Rows.at(street.firsts, two);
                int second = Rows.at(street.seconds, two);
                done = 3 * two + orders.saidBy(order, first, second);
                two = Rows.at(street.ways, done);
                steps++;
            }
            most = Math.max(most, steps);
            all += steps;
            comeTo(done, goal);
        }

        private void comeTo(int done, int goal) {
            if (Rows.at(comers, done) == 0) {
                Rows.put(goals, done, goal);
            } else if (Rows.at(goals, done) != goal) {
                Rows.put(mixed, done, 1);
            }
            Rows.add(comers, done, 1);
        }

        int unknown() {
            int sum = 0;
            for (int done = 0; done < comers.length; done++) {
                sum += Rows.at(mixed, done) != 0 ? comers[done] : 0;
            }
            return sum;
        }
    }

    /**
     * The weights 1 .. 6 by which all that counts is so. They are laid thing by thing; for the last
     * thing all six are tried at once, as bits (bit w - 1 for a weight w).
     */
    private static final class Guesses {
        private static final int MOST_WEIGHT = 6;
        private static final int ALL = 63;
        private static final int ASK_NONE = 0;
        private static final int ASK_ONE = 1;
        private static final int ASK_ALL = 2;
        private static final int STALE = -1;

        private int things;
        private int sticks;
        private int rules;
        private final int[] ruleFirst = new int[MOST_WEIGHINGS];
        private final int[] ruleSecond = new int[MOST_WEIGHINGS];
        private final int[] ruleSaid = new int[MOST_WEIGHINGS];
        private final int[] sums = new int[32];
        private final int[] laid = new int[Street.MOST_THINGS];
        private final int[] firstRow = new int[Street.MOST_THINGS];
        private final int[] leastOf = new int[Street.MOST_THINGS];
        private final int[] mostOf = new int[Street.MOST_THINGS];
        int count;
        private int known = STALE;
        private int asked;
        private final int[] askFirst = new int[90];
        private final int[] askSecond = new int[90];
        private final int[] downs = new int[90];
        private final int[] ups = new int[90];

        void load(Street street, Book book, int k) {
            int loaded = 0;
            boolean changed = things != street.things || sticks != street.sticks;
            things = street.things;
            sticks = street.sticks;
            for (int i = 0; i < book.weighings; i++) {
                int first = Rows.at(book.firsts, i);
                int second = Rows.at(book.seconds, i);
                int said = Rows.at(book.saids, i);
                if (book.counts(i, k) && !isRule(first, second, said, loaded)) {
                    changed |= !isRuleAt(loaded, first, second, said);
                    Rows.put(ruleFirst, loaded, first);
                    Rows.put(ruleSecond, loaded, second);
                    Rows.put(ruleSaid, loaded, said);
                    loaded++;
                }
            }
            if (changed || loaded != rules) {
                known = STALE;
            }
            rules = loaded;
        }

        private boolean isRule(int first, int second, int said, int among) {
            for (int i = 0; i < among; i++) {
                if (isRuleAt(i, first, second, said)) {
                    return true;
                }
            }
            return false;
        }

        private boolean isRuleAt(int i, int first, int second, int said) {
            return Rows.at(ruleFirst, i) == first && Rows.at(ruleSecond, i) == second && Rows.at(ruleSaid, i) == said;
        }

        void guessAll() {
            if (known == STALE) {
                asked = 0;
                guess();
                known = ASK_NONE;
            }
        }

        int sayings(int first, int second) {
            asked = 0;
            ask(first, second);
            guess();
            known = ASK_ONE;
            int down = Rows.at(downs, 0);
            int up = Rows.at(ups, 0);
            return (count > down + up ? 1 : 0) + (down > 0 ? 2 : 0) + (up > 0 ? 4 : 0);
        }

        /** Two heaps are as good in either order: the first one is the lesser. */
        int bestHeaps(int what) {
            if (known != ASK_ALL) {
                askAll();
                guess();
                known = ASK_ALL;
            }
            int best = NONE;
            int fewestLeft = 0;
            for (int i = 0; i < asked && count > 0; i++) {
                int down = Rows.at(downs, i);
                int up = Rows.at(ups, i);
                int worst = Math.max(Math.max(down, up), count - down - up);
                if (best == NONE || worst < fewestLeft) {
                    best = i;
                    fewestLeft = worst;
                }
            }
            if (best == NONE) {
                return NONE;
            }
            return what == 0 ? Rows.at(askFirst, best) : what == 1 ? Rows.at(askSecond, best) : fewestLeft;
        }

        private void askAll() {
            asked = 0;
            for (int first = 1; first < 1 << things; first++) {
                for (int second = first + 1; second < 1 << things; second++) {
                    if ((first & second) == 0) {
                        ask(first, second);
                    }
                }
            }
        }

        private void ask(int first, int second) {
            Rows.put(askFirst, asked, first);
            Rows.put(askSecond, asked, second);
            asked++;
        }

        int firstOf(int thing) {
            return Rows.at(firstRow, thing);
        }

        int extremeOf(int thing, boolean most) {
            return Rows.at(most ? mostOf : leastOf, thing);
        }

        private void guess() {
            count = 0;
            Rows.fill(downs, 0);
            Rows.fill(ups, 0);
            Rows.fill(leastOf, MOST_WEIGHT + 1);
            Rows.fill(mostOf, 0);
            if (things == 0) {
                count = 1;
            }
            layFrom(this, 0);
        }

        private static void layFrom(Guesses g, int thing) {
            if (thing < 0 || thing >= g.things || thing >= Street.MOST_THINGS) {
                return;
            }
            if (thing == g.things - 1) {
                g.layLast(thing);
                return;
            }
            for (int weight = 1; weight <= MOST_WEIGHT; weight++) {
                g.lay(thing, weight);
                if (g.holds(thing)) {
                    layFrom(g, thing + 1);
                }
            }
        }

        private void lay(int thing, int weight) {
            Rows.put(laid, thing, weight);
            int bit = 1 << thing;
            for (int set = 0; set < bit; set++) {
                Rows.put(sums, bit | set, Rows.at(sums, set) + weight);
            }
        }

        /** The rules whose highest thing this is; the others are looked at elsewhere. */
        private boolean holds(int thing) {
            for (int i = 0; i < rules; i++) {
                int first = Rows.at(ruleFirst, i);
                int second = Rows.at(ruleSecond, i);
                if ((first | second) >> thing == 1) {
                    int more = Rows.at(sums, first) - Rows.at(sums, second);
                    int said = more > sticks ? 1 : -more > sticks ? 2 : 0;
                    if (said != Rows.at(ruleSaid, i)) {
                        return false;
                    }
                }
            }
            return true;
        }

        private void layLast(int last) {
            int fit = ALL;
            for (int i = 0; i < rules && fit != 0; i++) {
                int first = Rows.at(ruleFirst, i);
                int second = Rows.at(ruleSecond, i);
                if ((first | second) >> last == 1) {
                    fit &= fitting(first, second, Rows.at(ruleSaid, i), last);
                }
            }
            if (fit == 0) {
                return;
            }
            note(fit, last);
            for (int i = 0; i < asked; i++) {
                int first = Rows.at(askFirst, i);
                int second = Rows.at(askSecond, i);
                int fits = fitsOf(first, second, last);
                Rows.add(downs, i, Integer.bitCount(fit & fits));
                Rows.add(ups, i, Integer.bitCount(fit & fits >> MOST_WEIGHT));
            }
        }

        private void note(int fit, int last) {
            int least = Rows.lowestBit(fit) + 1;
            int most = least;
            for (int weight = least; weight <= MOST_WEIGHT; weight++) {
                most = Rows.hasBit(fit, weight - 1) ? weight : most;
            }
            for (int thing = 0; thing <= last; thing++) {
                int low = thing == last ? least : Rows.at(laid, thing);
                int high = thing == last ? most : Rows.at(laid, thing);
                Rows.put(leastOf, thing, Math.min(Rows.at(leastOf, thing), low));
                Rows.put(mostOf, thing, Math.max(Rows.at(mostOf, thing), high));
                if (count == 0) {
                    Rows.put(firstRow, thing, low);
                }
            }
            count += Integer.bitCount(fit);
        }

        /** The last thing's weights by which the balance says this of two heaps. */
        private int fitting(int first, int second, int said, int last) {
            int fits = fitsOf(first, second, last);
            int down = ALL & fits;
            int up = fits >> MOST_WEIGHT;
            return said == 1 ? down : said == 2 ? up : ALL & ~down & ~up;
        }

        /** The last thing's weights by which the first goes down, and above them those for the second. */
        private int fitsOf(int first, int second, int last) {
            int bit = 1 << last;
            int more = Rows.at(sums, first & ~bit) - Rows.at(sums, second & ~bit);
            int down = more > sticks ? ALL : 0;
            int up = -more > sticks ? ALL : 0;
            if ((first & bit) != 0) {
                down = ALL & ~upTo(sticks - more);
                up = upTo(-more - sticks - 1);
            } else if ((second & bit) != 0) {
                down = upTo(more - sticks - 1);
                up = ALL & ~upTo(sticks + more);
            }
            return up << MOST_WEIGHT | down;
        }

        private static int upTo(int weight) {
            return weight <= 0 ? 0 : weight >= MOST_WEIGHT ? ALL : (1 << weight) - 1;
        }
    }
}
