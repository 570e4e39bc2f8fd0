import java.util.Arrays;

/**
 * A heap told as a text, whose things ride in the cars of trains; each step empties the first car
 * of the first train. The words in capitals in the comments are those of DOC.md.
 */
public final class TrainCollector {
    public static final int NONE = -1;

    private static final int THINGS = 40;
    private static final int TOLD_THINGS = 24;
    private static final int LINKS = 4;
    private static final int ROOTS = 8;
    // One train for each thing, a new one that has no car yet, and one to shift down from.
    private static final int TRAINS = THINGS + 2;
    private static final int LEAST_UNITS = 8;
    private static final int MOST_UNITS = 99;
    private static final int LAST_STEP = 999;
    private static final int OLDEST = 99;
    private static final int AHEAD = 60;
    private static final int TAPE = 1600;
    private static final int STATEMENTS = 80;
    private static final int LETTERS = 6;

    private static final int POPS = 0;
    private static final int FRESH = 1;
    private static final int COSTS = 2;

    // Code of a SUM or TEST in the order of a stack: numbers stand for themselves.
    private static final int FACT = -1;
    private static final int FACTS = 4;
    private static final int ADD = -10;
    private static final int SUBTRACT = -11;
    private static final int MULTIPLY = -12;
    private static final int DIVIDE = -13;
    private static final int REMAIN = -14;
    private static final int LEAST = -15;
    private static final int MOST = -16;
    private static final int LESS = -17;
    private static final int MORE = -18;
    private static final int SAME = -19;
    private static final int BOTH = -20;
    private static final int EITHER = -21;
    private static final int NOT = -22;
    private static final int PICK = -23;

    private final int[] tape = new int[TAPE];
    private int taped = 0;
    private final Reader reader = new Reader();
    private Plan plan = new Plan();
    private final Yard yard = new Yard();
    private final Yard draft = new Yard();
    private final Mover mover = new Mover();
    private final Diary diary = new Diary();
    private final Past past = new Past();
    private final Outlook outlook = new Outlook();
    private final Guess guess = new Guess();
    private final Picture picture = new Picture();
    private final int[] refused = new int[6];
    private final int[] holding = new int[3];
    private int seed = 1;
    // Tells the tables of what is ahead that they are out of date.
    private int changes = 0;

    public TrainCollector() {
    }

    public int feed(int a, int b, int c, int d, int e) {
        if (taped + 20 > TAPE) {
            return refuse(0);
        }
        feedNumber(a);
        feedNumber(b);
        feedNumber(c);
        feedNumber(d);
        feedNumber(e);
        return taped;
    }

    public boolean end(int n) {
        if (n < 0 || n > taped) {
            refuse(0);
            return false;
        }
        taped = n;
        return true;
    }

    public int heap() {
        int length = takeTape();
        if (!reader.read(tape, length)) {
            return refuse(1);
        }
        Plan told = reader.plan;
        reader.plan = plan;
        plan = told;
        yard.settle(plan);
        guess.forget();
        startAfresh();
        return plan.statements;
    }

    public int fault(int what) {
        switch (what) {
            case 0: return reader.fault;
            case 1: return reader.place;
            default: return NONE;
        }
    }

    public int has(int what) {
        switch (what) {
            case 0: return plan.units;
            case 1: return Long.bitCount(yard.there);
            case 2: return Long.bitCount(yard.live());
            case 3: return yard.trains;
            case 4: return yard.allCars();
            case 5: return yard.load(yard.there);
            case 6: return yard.step;
            case 7: return diary.count;
            case 8: return guess.met;
            case 9: return past.count;
            case 10: return seed;
            default: return NONE;
        }
    }

    public int letter(int told, int k) {
        if (told < 0 || told >= plan.things || k < 0 || k >= LETTERS) {
            return NONE;
        }
        int packed = at(plan.names, told);
        for (int n = LETTERS - 1; n > k; n--) {
            packed /= 27;
        }
        return packed % 27;
    }

    public int thing(int thing, int what) {
        if (!yard.isThere(thing)) {
            return NONE;
        }
        switch (what) {
            case 0: return at(yard.size, thing);
            case 1: return at(yard.train, thing);
            case 2: return at(yard.car, thing);
            case 3: return at(yard.place, thing);
            case 4: return in(yard.live(), thing) ? 1 : 0;
            case 5: return yard.refs(thing, yard.mates(thing));
            case 6: return at(yard.age, thing);
            case 7: return in(yard.marked, thing) ? 1 : 0;
            case 8: return mover.isPopular(yard, plan, thing, yard.mates(thing)) ? 1 : 0;
            default: return NONE;
        }
    }

    public int link(int thing, int k) {
        return yard.isThere(thing) ? yard.linkOf(thing, k) : NONE;
    }

    public int root(int k) {
        return at(yard.roots, k);
    }

    public int train(int train, int what) {
        if (train < 0 || train >= yard.trains) {
            return NONE;
        }
        long group = yard.riders(train);
        switch (what) {
            case 0: return at(yard.cars, train);
            case 1: return Long.bitCount(group);
            case 2: return yard.load(group);
            case 3: return yard.refsInto(group);
            default: return NONE;
        }
    }

    public int car(int train, int car, int what) {
        if (train < 0 || train >= yard.trains || car < 0 || car >= at(yard.cars, train)) {
            return NONE;
        }
        long group = yard.riders(train, car);
        switch (what) {
            case 0: return Long.bitCount(group);
            case 1: return yard.load(group);
            case 2: return yard.refsInto(group);
            default: return NONE;
        }
    }

    public int falls(int thing) {
        if (!yard.isThere(thing)) {
            return NONE;
        }
        outlook.look(yard, plan, mover, changes);
        return at(outlook.fallAt, thing);
    }

    public int clean() {
        outlook.look(yard, plan, mover, changes);
        return outlook.cleanAt;
    }

    public int later(int n, int what) {
        if (!hasHeap() || n < 0 || n > AHEAD || what < 0 || what >= Outlook.COUNTS) {
            return NONE;
        }
        outlook.look(yard, plan, mover, changes);
        return n > outlook.reach ? NONE : at(outlook.counts, n * Outlook.COUNTS + what);
    }

    public int retains(int thing) {
        return yard.isThere(thing) ? Bonds.retained(yard, thing) : NONE;
    }

    public int holder(int what) {
        if (what < 0 || what > 2) {
            return NONE;
        }
        draft.copy(yard);
        return Bonds.findHolder(draft, holding) ? at(holding, what) : NONE;
    }

    public int far(int thing) {
        return yard.isThere(thing) ? Bonds.distance(yard, thing) : NONE;
    }

    public int ring(int thing) {
        if (!yard.isThere(thing)) {
            return NONE;
        }
        return in(yard.reach(yard.linkedFrom(thing), yard.there), thing) ? 1 : 0;
    }

    public int odds(int thing) {
        int lives = Long.bitCount(yard.live());
        if (lives == 0) {
            return NONE;
        }
        int rows = lives * LINKS * lives;
        if (thing == NONE) {
            return 100 * rows;
        }
        if (!yard.isThere(thing)) {
            return NONE;
        }
        if (!in(yard.live(), thing)) {
            return 0;
        }
        draft.copy(yard);
        return plan.churn * Bonds.rowsAlive(draft, thing) + (100 - plan.churn) * rows;
    }

    public int meet() {
        int length = takeTape();
        return guess.meetRows(tape, length) ? guess.met : refuse(5);
    }

    public int sizes(int thing, int k) {
        if (!yard.isThere(thing) || k < NONE) {
            return NONE;
        }
        guess.look(yard, plan, mover, thing, guess.farthest(), changes);
        return k == NONE ? guess.left() : guess.nthLeft(k);
    }

    public int tells(int thing, int what) {
        if (!yard.isThere(thing) || what < 0 || what > 2) {
            return NONE;
        }
        guess.look(yard, plan, mover, thing, Guess.DEEPEST, changes);
        return guess.findTelling(LAST_STEP - yard.step) ? at(guess.telling, what) : NONE;
    }

    public int steps(int n) {
        if (!canStep(n)) {
            return refuse(2);
        }
        startAct();
        int fell = 0;
        for (int i = 0; i < n && i < AHEAD; i++) {
            stepAndKeep();
            fell += mover.fell;
        }
        return fell;
    }

    public int chance(int n) {
        if (!canStep(n)) {
            return refuse(2);
        }
        startAct();
        int churned = 0;
        for (int i = 0; i < n && i < AHEAD; i++) {
            if (churnBySeed()) {
                churned++;
            }
            stepAndKeep();
        }
        return churned;
    }

    public int make(int size, int root) {
        int number = yard.leastFree();
        if (!hasHeap() || size < 1 || size > plan.units || root < 0 || root >= ROOTS || number == NONE) {
            return refuse(3);
        }
        startAct();
        if (yard.trains == 0 || mover.wantsTrain(yard, plan)) {
            yard.beginTrain();
        }
        yard.add(number, size);
        yard.lay(number, yard.trains - 1, plan.units);
        put(yard.roots, root, number);
        return number;
    }

    public boolean set(int thing, int k, int to) {
        long live = yard.live();
        boolean can = in(live, thing) && k >= 0 && k < LINKS && (to == NONE || in(live, to));
        if (!can || yard.linkOf(thing, k) == to) {
            refuse(3);
            return false;
        }
        startAct();
        yard.point(thing, k, to);
        return true;
    }

    public boolean aim(int root, int to) {
        boolean can = root >= 0 && root < ROOTS && (to == NONE || in(yard.live(), to));
        if (!can || at(yard.roots, root) == to) {
            refuse(3);
            return false;
        }
        startAct();
        put(yard.roots, root, to);
        return true;
    }

    public boolean undo() {
        if (!past.restore(yard, diary)) {
            refuse(4);
            return false;
        }
        changes++;
        return true;
    }

    public boolean seed(int seed) {
        if (seed < 0) {
            refuse(5);
            return false;
        }
        this.seed = seed;
        return true;
    }

    public int kept(int k, int what) {
        return diary.told(k, what);
    }

    public int image() {
        picture.write(yard);
        return picture.count;
    }

    public int octet(int k) {
        return k >= 0 && k < picture.count ? at(picture.bytes, k) : NONE;
    }

    public boolean on() {
        int length = takeTape();
        if (!hasHeap() || !Picture.read(tape, length, plan.units, draft)) {
            refuse(5);
            return false;
        }
        yard.copy(draft);
        startAfresh();
        return true;
    }

    public int status(int what) {
        return at(refused, what);
    }

    private void feedNumber(int number) {
        for (int shift = 24; shift >= 0; shift -= 8) {
            put(tape, taped, number >>> shift & 255);
            taped++;
        }
    }

    private int takeTape() {
        int length = taped;
        taped = 0;
        return length;
    }

    private int refuse(int kind) {
        put(refused, kind, at(refused, kind) + 1);
        return NONE;
    }

    private boolean hasHeap() {
        return plan.units > 0;
    }

    private boolean canStep(int n) {
        return hasHeap() && n >= 1 && n <= AHEAD && yard.step + n <= LAST_STEP;
    }

    private void startAfresh() {
        diary.count = 0;
        past.count = 0;
        changes++;
    }

    private void startAct() {
        past.save(yard, diary);
        changes++;
    }

    private void stepAndKeep() {
        int step = yard.step;
        mover.step(yard, plan);
        diary.add(step, mover.fell, mover.moved);
    }

    private boolean churnBySeed() {
        int drawn = draw(100);
        long live = yard.live();
        int lives = Long.bitCount(live);
        if (drawn >= plan.churn || lives == 0) {
            return false;
        }
        int first = nth(live, draw(lives));
        int k = draw(LINKS);
        int second = nth(live, draw(lives));
        yard.point(first, k, second);
        return true;
    }

    private int draw(int m) {
        seed = (int) (1103515245L * seed + 12345L & 0x7fffffffL);
        return m > 0 ? seed / 64 % m : 0;
    }

    private static int at(int[] row, int k) {
        return k >= 0 && k < row.length ? row[k] : NONE;
    }

    private static void put(int[] row, int k, int value) {
        if (k >= 0 && k < row.length) {
            row[k] = value;
        }
    }

    private static long maskAt(long[] row, int k) {
        return k >= 0 && k < row.length ? row[k] : 0L;
    }

    private static void putMask(long[] row, int k, long value) {
        if (k >= 0 && k < row.length) {
            row[k] = value;
        }
    }

    private static boolean in(long group, int thing) {
        return thing >= 0 && thing < THINGS && (group >>> thing & 1L) != 0L;
    }

    private static long bit(int thing) {
        return thing >= 0 && thing < THINGS ? 1L << thing : 0L;
    }

    private static int lowest(long group) {
        return Long.bitCount((group & -group) - 1L);
    }

    private static int nth(long group, int n) {
        long rest = group;
        for (int i = 0; i < n && i < THINGS; i++) {
            rest &= rest - 1L;
        }
        return rest == 0L ? NONE : lowest(rest);
    }

    /** What a text told: all that heap() needs to begin anew, and the compiled pops, fresh, costs. */
    private static final class Plan {
        int units;
        int churn;
        int statements;
        int things;
        int rootsTold;
        int codes;
        final int[] names = new int[TOLD_THINGS];
        final int[] size = new int[TOLD_THINGS];
        final int[] begins = new int[TOLD_THINGS];
        final int[] linked = new int[TOLD_THINGS];
        final int[] links = new int[TOLD_THINGS * LINKS];
        final int[] roots = new int[ROOTS];
        final int[] code = new int[TAPE];
        final int[] codeFrom = new int[3];
        final int[] codeLength = new int[3];

        void clear() {
            units = 0;
            churn = 0;
            statements = 0;
            things = 0;
            rootsTold = 0;
            codes = 0;
            Arrays.fill(begins, 0);
            Arrays.fill(linked, 0);
            Arrays.fill(links, NONE);
            Arrays.fill(roots, NONE);
            Arrays.fill(codeFrom, 0);
            Arrays.fill(codeLength, 0);
        }

        int named(int name) {
            for (int t = 0; t < things && t < TOLD_THINGS; t++) {
                if (names[t] == name) {
                    return t;
                }
            }
            return NONE;
        }

        void emit(int word) {
            put(code, codes, word);
            codes++;
        }
    }

    /**
     * Reads a text into a plan. It is cut into tokens first, as a 7th letter or a 5th digit is a
     * FAULT wherever it stands; then each token is looked at once, from the left on.
     */
    private static final class Reader {
        static final int END = 0;
        static final int BAD = 1;
        static final int NUMBER = 2;
        static final int NAME = 3;
        static final int OWN = 4;
        static final int SIGN = 5;

        // Each own word takes six places, so that its number tells where it stands.
        static final String OWN_WORDS = "units thing size  next  link  to    root  churn pops  fresh costs step  refs  age   trainscars  load  if    or    and   not   all   min   max   ";
        static final int OWN_COUNT = 24;
        static final int UNITS = 0;
        static final int THING = 1;
        static final int SIZE = 2;
        static final int NEXT = 3;
        static final int LINK = 4;
        static final int TO = 5;
        static final int ROOT = 6;
        static final int CHURN = 7;
        static final int POPS_WORD = 8;
        static final int FRESH_WORD = 9;
        static final int COSTS_WORD = 10;
        static final int STEP = 11;
        static final int REFS = 12;
        static final int AGE = 13;
        static final int TRAINS_WORD = 14;
        static final int CARS = 15;
        static final int LOAD = 16;
        static final int IF = 17;
        static final int OR = 18;
        static final int AND = 19;
        static final int NOT_WORD = 20;
        static final int ALL = 21;
        static final int MIN = 22;
        static final int MAX = 23;
        static final int MOST_OPEN = 7;

        final int[] kinds = new int[TAPE + 1];
        final int[] starts = new int[TAPE + 1];
        // A number's worth, a name's letters as one number, an own word's number, a sign's byte,
        // where the fault is in a bad one.
        final int[] values = new int[TAPE + 1];
        int fault;
        int place = NONE;
        // The one that is written to: its reader takes it away and leaves another.
        Plan plan = new Plan();
        private int tokens;
        private int now;
        private int kind;
        private int start;
        private int value;
        private int open;
        private int topic;
        private boolean trainDue;

        boolean read(int[] text, int length) {
            fault = 0;
            place = NONE;
            open = 0;
            trainDue = false;
            plan.clear();
            cut(text, length);
            now = NONE;
            next();
            for (int n = 0; n <= STATEMENTS && fault == 0 && kind != END; n++) {
                if (n == STATEMENTS) {
                    fail(6, start);
                } else {
                    statement(n == 0);
                }
            }
            if (plan.statements == 0) {
                fail(1, length);
            }
            return fault == 0;
        }

        private void cut(int[] text, int length) {
            tokens = 0;
            int from = 0;
            for (int n = 0; n <= TAPE && from < length; n++) {
                int c = at(text, from);
                if (isBlank(c)) {
                    from++;
                } else {
                    from = cutToken(text, length, from);
                }
            }
            addToken(END, length, 0);
        }

        /** Where the next token may begin: the text's length behind one that is bad. */
        private int cutToken(int[] text, int length, int from) {
            int c = at(text, from);
            int before = at(text, from - 1);
            if (isLetter(c) && isDigit(before) || isDigit(c) && isLetter(before)) {
                addToken(BAD, from, from);
                return length;
            }
            if (isLetter(c)) {
                return cutWord(text, length, from);
            }
            if (isDigit(c)) {
                return cutNumber(text, length, from);
            }
            addToken(SIGN, from, c);
            return from + 1;
        }

        private int cutWord(int[] text, int length, int from) {
            int end = from;
            int packed = 0;
            for (int n = 0; n < LETTERS; n++) {
                boolean more = end < length && isLetter(at(text, end));
                packed = packed * 27 + (more ? at(text, end) - 'a' + 1 : 0);
                end += more ? 1 : 0;
            }
            if (end < length && isLetter(at(text, end))) {
                addToken(BAD, from, end);
                return length;
            }
            int own = ownWord(text, from, end);
            addToken(own == NONE ? NAME : OWN, from, own == NONE ? packed : own);
            return end;
        }

        private int cutNumber(int[] text, int length, int from) {
            int end = from;
            int worth = 0;
            for (int n = 0; n < 4 && end < length && isDigit(at(text, end)); n++) {
                worth = worth * 10 + at(text, end) - '0';
                end++;
            }
            if (end < length && isDigit(at(text, end))) {
                addToken(BAD, from, end);
                return length;
            }
            addToken(NUMBER, from, worth);
            return end;
        }

        private int ownWord(int[] text, int from, int end) {
            for (int word = 0; word < OWN_COUNT; word++) {
                boolean same = true;
                for (int n = 0; n < LETTERS && same; n++) {
                    int c = from + n < end ? at(text, from + n) : ' ';
                    int i = word * LETTERS + n;
                    same = i < OWN_WORDS.length() && OWN_WORDS.charAt(i) == c;
                }
                if (same) {
                    return word;
                }
            }
            return NONE;
        }

        private void addToken(int ofKind, int from, int worth) {
            put(kinds, tokens, ofKind);
            put(starts, tokens, from);
            put(values, tokens, worth);
            tokens++;
        }

        private void statement(boolean first) {
            int from = start;
            int word = ownNow();
            if (first != (word == UNITS)) {
                fail(1, where());
            }
            switch (word) {
                case UNITS:
                    next();
                    plan.units = number(LEAST_UNITS, MOST_UNITS);
                    break;
                case THING: thingTold(from); break;
                case NEXT:
                    next();
                    trainDue = plan.things > 0;
                    break;
                case LINK: linkTold(from); break;
                case ROOT: rootTold(from); break;
                case CHURN:
                    next();
                    plan.churn = number(0, 100);
                    break;
                case POPS_WORD: formula(POPS, from); break;
                case FRESH_WORD: formula(FRESH, from); break;
                case COSTS_WORD: formula(COSTS, from); break;
                default: fail(1, where()); break;
            }
            sign(';');
            if (fault == 0) {
                plan.statements++;
            }
        }

        private void thingTold(int from) {
            if (plan.things >= TOLD_THINGS) {
                fail(6, from);
            }
            next();
            int name = name();
            if (plan.named(name) != NONE) {
                fail(2, start);
            }
            next();
            own(SIZE);
            int size = number(1, plan.units);
            put(plan.names, plan.things, name);
            put(plan.size, plan.things, size);
            put(plan.begins, plan.things, trainDue ? 1 : 0);
            trainDue = false;
            plan.things++;
        }

        private void linkTold(int from) {
            next();
            int thing = thingNamed();
            int k = at(plan.linked, thing);
            if (k >= LINKS) {
                fail(6, from);
            }
            next();
            own(TO);
            int to = thingNamed();
            next();
            if (thing >= 0 && k >= 0 && k < LINKS) {
                put(plan.links, thing * LINKS + k, to);
                put(plan.linked, thing, k + 1);
            }
        }

        private void rootTold(int from) {
            if (plan.rootsTold >= ROOTS) {
                fail(6, from);
            }
            next();
            put(plan.roots, plan.rootsTold, thingNamed());
            plan.rootsTold++;
            next();
        }

        private void formula(int about, int from) {
            if (at(plan.codeLength, about) > 0) {
                fail(6, from);
            }
            next();
            topic = about;
            int begin = plan.codes;
            if (about == COSTS) {
                sum();
            } else {
                test();
            }
            put(plan.codeFrom, about, begin);
            put(plan.codeLength, about, plan.codes - begin);
        }

        /** An `or` waits for the FACTS behind it, as `and` binds more. */
        private void test() {
            boolean owed = false;
            fact();
            for (int n = 0; n < TAPE && fault == 0; n++) {
                if (ownNow() == AND) {
                    next();
                    fact();
                    plan.emit(BOTH);
                } else if (ownNow() == OR) {
                    next();
                    if (owed) {
                        plan.emit(EITHER);
                    }
                    owed = true;
                    fact();
                } else {
                    break;
                }
            }
            if (owed) {
                plan.emit(EITHER);
            }
        }

        /** Each call within itself has one more open, and more than seven open is a FAULT. */
        private void fact() {
            if (fault != 0) {
                return;
            }
            if (ownNow() == NOT_WORD) {
                openOne();
                fact();
                open--;
                plan.emit(NOT);
            } else if (signNow() == '[') {
                openOne();
                test();
                sign(']');
                open--;
            } else if (ownNow() == ALL) {
                next();
                plan.emit(1);
            } else {
                sum();
                int compare = compareNow();
                if (compare == 0) {
                    fail(1, where());
                }
                next();
                sum();
                plan.emit(compare);
            }
        }

        /** A + or - waits for the PARTS behind it, as * / % bind more. */
        private void sum() {
            int owed = 0;
            part();
            for (int n = 0; n < TAPE && fault == 0; n++) {
                int strong = productNow();
                int weak = signNow() == '+' ? ADD : signNow() == '-' ? SUBTRACT : 0;
                if (strong != 0) {
                    next();
                    part();
                    plan.emit(strong);
                } else if (weak != 0) {
                    next();
                    if (owed != 0) {
                        plan.emit(owed);
                    }
                    owed = weak;
                    part();
                } else {
                    break;
                }
            }
            if (owed != 0) {
                plan.emit(owed);
            }
        }

        private void part() {
            if (fault != 0) {
                return;
            }
            int word = ownNow();
            int fact = factNow();
            if (kind == NUMBER) {
                plan.emit(value);
                next();
            } else if (fact != NONE) {
                plan.emit(FACT - fact);
                next();
            } else if (signNow() == '(') {
                openOne();
                sum();
                sign(')');
                open--;
            } else if (word == MIN || word == MAX || word == IF) {
                call(word);
            } else {
                fail(1, where());
            }
        }

        private void call(int word) {
            next();
            if (signNow() != '(') {
                fail(1, where());
            }
            openOne();
            if (word == IF) {
                test();
                sign(',');
            }
            sum();
            sign(',');
            sum();
            sign(')');
            open--;
            plan.emit(word == IF ? PICK : word == MIN ? LEAST : MOST);
        }

        private void openOne() {
            if (open >= MOST_OPEN) {
                fail(5, start);
            }
            open++;
            next();
        }

        private int compareNow() {
            switch (signNow()) {
                case '<': return LESS;
                case '>': return MORE;
                case '=': return SAME;
                default: return 0;
            }
        }

        private int productNow() {
            switch (signNow()) {
                case '*': return MULTIPLY;
                case '/': return DIVIDE;
                case '%': return REMAIN;
                default: return 0;
            }
        }

        /** The facts of one topic are none in the other. */
        private int factNow() {
            int word = ownNow();
            if (word == STEP) {
                return 0;
            }
            int first = topic == FRESH ? TRAINS_WORD : REFS;
            if (topic != FRESH && word == SIZE) {
                return 1;
            }
            if (topic != FRESH) {
                return word == REFS || word == AGE ? word - first + 2 : NONE;
            }
            return word >= TRAINS_WORD && word <= LOAD ? word - first + 1 : NONE;
        }

        private int number(int low, int high) {
            int number = value;
            if (kind != NUMBER) {
                fail(1, where());
            } else if (number < low || number > high) {
                fail(4, start);
            }
            next();
            return number;
        }

        private int name() {
            if (kind != NAME) {
                fail(1, where());
            }
            return value;
        }

        private int thingNamed() {
            int thing = plan.named(name());
            if (thing == NONE) {
                fail(3, start);
            }
            return thing;
        }

        private void own(int word) {
            if (ownNow() != word) {
                fail(1, where());
            }
            next();
        }

        private void sign(int c) {
            if (signNow() != c) {
                fail(1, where());
            }
            next();
        }

        /** Tokens are looked at from the left on, so the first that fails counts. */
        private void fail(int number, int byteAt) {
            if (fault == 0) {
                fault = number;
                place = byteAt;
            }
        }

        private void next() {
            now++;
            boolean more = now >= 0 && now < tokens && now <= TAPE;
            kind = more ? kinds[now] : END;
            start = more ? starts[now] : start;
            value = more ? values[now] : 0;
        }

        private int where() {
            return kind == BAD ? value : start;
        }

        private int ownNow() {
            return kind == OWN ? value : NONE;
        }

        private int signNow() {
            return kind == SIGN ? value : NONE;
        }

        private static boolean isBlank(int c) {
            return c == 10 || c == 32;
        }

        private static boolean isLetter(int c) {
            return c >= 'a' && c <= 'z';
        }

        private static boolean isDigit(int c) {
            return c >= '0' && c <= '9';
        }
    }

    /** Works out what a SUM or TEST is worth by the facts put there before. */
    private static final class Worth {
        static final int LIMIT = 1000000;
        static final int STACK = 128;

        // step; then size, refs, age of a thing, or trains, cars, load.
        final int[] facts = new int[FACTS];
        private final int[] stack = new int[STACK];
        private int top;

        int run(Plan plan, int topic) {
            int from = at(plan.codeFrom, topic);
            int length = at(plan.codeLength, topic);
            if (length <= 0) {
                return withoutText(topic);
            }
            top = 0;
            for (int i = 0; i < length && i < TAPE; i++) {
                int code = at(plan.code, from + i);
                if (code >= 0) {
                    push(code);
                } else if (code > FACT - FACTS) {
                    push(at(facts, FACT - code));
                } else if (code == NOT) {
                    push(1 - pop());
                } else if (code == PICK) {
                    int no = pop();
                    int yes = pop();
                    push(pop() != 0 ? yes : no);
                } else {
                    int right = pop();
                    push(joined(code, pop(), right));
                }
            }
            return pop();
        }

        private int withoutText(int topic) {
            if (topic == COSTS) {
                return at(facts, 1);
            }
            return at(facts, 2) > 3 ? 1 : 0;
        }

        private static int joined(int code, int a, int b) {
            switch (code) {
                case ADD: return bounded((long) a + b);
                case SUBTRACT: return bounded((long) a - b);
                case MULTIPLY: return bounded((long) a * b);
                case DIVIDE: return b == 0 ? 0 : Math.floorDiv(a, b);
                case REMAIN: return b == 0 ? 0 : Math.floorMod(a, b);
                case LEAST: return a < b ? a : b;
                case MOST: return a > b ? a : b;
                case LESS: return a < b ? 1 : 0;
                case MORE: return a > b ? 1 : 0;
                case SAME: return a == b ? 1 : 0;
                case BOTH: return a & b;
                case EITHER: return a | b;
                default: return 0;
            }
        }

        private static int bounded(long result) {
            if (result > LIMIT) {
                return LIMIT;
            }
            return result < -LIMIT ? -LIMIT : (int) result;
        }

        private void push(int value) {
            if (top < STACK) {
                put(stack, top, value);
                top++;
            }
        }

        private int pop() {
            if (top <= 0) {
                return 0;
            }
            top--;
            return at(stack, top);
        }
    }

    /** The THINGS there are, what refers to them, and where they ride. */
    private static final class Yard {
        final int[] size = new int[THINGS];
        final int[] age = new int[THINGS];
        final int[] train = new int[THINGS];
        final int[] car = new int[THINGS];
        final int[] place = new int[THINGS];
        final int[] links = new int[THINGS * LINKS];
        final int[] roots = new int[ROOTS];
        final int[] cars = new int[TRAINS];
        // Who has a link to each thing: the rules ask this far more often than links change.
        final long[] from = new long[THINGS];
        long there;
        long marked;
        int trains;
        int step;

        Yard() {
            Arrays.fill(links, NONE);
            Arrays.fill(roots, NONE);
        }

        void clear() {
            Arrays.fill(size, 0);
            Arrays.fill(age, 0);
            Arrays.fill(links, NONE);
            Arrays.fill(roots, NONE);
            Arrays.fill(cars, 0);
            Arrays.fill(from, 0L);
            there = 0L;
            marked = 0L;
            trains = 0;
            step = 0;
        }

        void copy(Yard other) {
            System.arraycopy(other.size, 0, size, 0, THINGS);
            System.arraycopy(other.age, 0, age, 0, THINGS);
            System.arraycopy(other.train, 0, train, 0, THINGS);
            System.arraycopy(other.car, 0, car, 0, THINGS);
            System.arraycopy(other.place, 0, place, 0, THINGS);
            System.arraycopy(other.links, 0, links, 0, THINGS * LINKS);
            System.arraycopy(other.roots, 0, roots, 0, ROOTS);
            System.arraycopy(other.cars, 0, cars, 0, TRAINS);
            System.arraycopy(other.from, 0, from, 0, THINGS);
            there = other.there;
            marked = other.marked;
            trains = other.trains;
            step = other.step;
        }

        void settle(Plan plan) {
            clear();
            for (int t = 0; t < plan.things && t < TOLD_THINGS; t++) {
                if (t == 0 || at(plan.begins, t) != 0) {
                    beginTrain();
                }
                add(t, at(plan.size, t));
                lay(t, trains - 1, plan.units);
            }
            for (int t = 0; t < plan.things && t < TOLD_THINGS; t++) {
                for (int k = 0; k < LINKS; k++) {
                    point(t, k, at(plan.links, t * LINKS + k));
                }
            }
            System.arraycopy(plan.roots, 0, roots, 0, ROOTS);
        }

        boolean isThere(int t) {
            return in(there, t);
        }

        int leastFree() {
            for (int t = 0; t < THINGS; t++) {
                if (!in(there, t)) {
                    return t;
                }
            }
            return NONE;
        }

        void add(int t, int units) {
            put(size, t, units);
            put(age, t, 0);
            there |= bit(t);
        }

        void drop(int t) {
            for (int k = 0; k < LINKS; k++) {
                put(links, t * LINKS + k, NONE);
            }
            for (int to = 0; to < THINGS; to++) {
                from[to] &= ~bit(t);
            }
            put(size, t, 0);
            there &= ~bit(t);
            marked &= ~bit(t);
        }

        void beginTrain() {
            put(cars, trains, 0);
            trains++;
        }

        void lay(int t, int to, int units) {
            int last = at(cars, to) - 1;
            int taken = 0;
            int count = 0;
            for (int s = 0; s < THINGS; s++) {
                if (s != t && size[s] > 0 && train[s] == to && car[s] == last) {
                    taken += size[s];
                    count++;
                }
            }
            if (last < 0 || taken + at(size, t) > units) {
                last++;
                count = 0;
                put(cars, to, last + 1);
            }
            put(train, t, to);
            put(car, t, last);
            put(place, t, count);
        }

        void dropFirstCar() {
            for (int t = 0; t < THINGS; t++) {
                if (train[t] == 0) {
                    car[t]--;
                }
            }
            cars[0]--;
            if (cars[0] <= 0) {
                dropFirstTrain();
            }
        }

        void dropFirstTrain() {
            for (int t = 0; t < THINGS; t++) {
                train[t]--;
            }
            System.arraycopy(cars, 1, cars, 0, TRAINS - 1);
            trains--;
        }

        /** One STEP is over. */
        void pass() {
            for (int t = 0; t < THINGS; t++) {
                if (size[t] > 0 && age[t] < OLDEST) {
                    age[t]++;
                }
            }
            step += step < LAST_STEP ? 1 : 0;
        }

        int linkOf(int t, int k) {
            return t >= 0 && k >= 0 && k < LINKS ? at(links, t * LINKS + k) : NONE;
        }

        void point(int t, int k, int to) {
            int old = linkOf(t, k);
            put(links, t * LINKS + k, to);
            if (old != NONE && !in(linkedFrom(t), old)) {
                putMask(from, old, maskAt(from, old) & ~bit(t));
            }
            putMask(from, to, maskAt(from, to) | bit(t));
        }

        long linkedFrom(int t) {
            long found = 0L;
            for (int k = 0; k < LINKS; k++) {
                found |= bit(at(links, t * LINKS + k));
            }
            return found;
        }

        long rooted() {
            long found = 0L;
            for (int r = 0; r < ROOTS; r++) {
                found |= bit(roots[r]);
            }
            return found;
        }

        long live() {
            return reach(rooted(), there);
        }

        /** Those within a group to which a way by links leads from the first ones, with these. */
        long reach(long first, long within) {
            long seen = first & within;
            long rest = seen;
            for (int n = 0; n < THINGS && rest != 0L; n++) {
                int t = lowest(rest);
                rest &= rest - 1L;
                long found = linkedFrom(t) & within & ~seen;
                seen |= found;
                rest |= found;
            }
            return seen;
        }

        long riders(int inTrain) {
            long found = 0L;
            for (int t = 0; t < THINGS; t++) {
                if (size[t] > 0 && train[t] == inTrain) {
                    found |= bit(t);
                }
            }
            return found;
        }

        long riders(int inTrain, int inCar) {
            long found = 0L;
            for (int t = 0; t < THINGS; t++) {
                if (size[t] > 0 && train[t] == inTrain && car[t] == inCar) {
                    found |= bit(t);
                }
            }
            return found;
        }

        long mates(int t) {
            return riders(at(train, t), at(car, t));
        }

        int allCars() {
            int count = 0;
            for (int i = 0; i < trains && i < TRAINS; i++) {
                count += cars[i];
            }
            return count;
        }

        int load(long group) {
            int sum = 0;
            for (int t = 0; t < THINGS; t++) {
                sum += in(group, t) ? size[t] : 0;
            }
            return sum;
        }

        /** Roots to a thing, and links to it from those that are not of a group. */
        int refs(int t, long group) {
            int count = 0;
            for (int r = 0; r < ROOTS; r++) {
                count += roots[r] == t ? 1 : 0;
            }
            long sources = maskAt(from, t) & ~group;
            for (int n = 0; n < THINGS && sources != 0L; n++) {
                int first = lowest(sources) * LINKS;
                sources &= sources - 1L;
                for (int k = 0; k < LINKS; k++) {
                    count += at(links, first + k) == t ? 1 : 0;
                }
            }
            return count;
        }

        int refsInto(long group) {
            int count = 0;
            for (int t = 0; t < THINGS; t++) {
                count += in(group, t) ? refs(t, group) : 0;
            }
            return count;
        }

        boolean isReferredTo(int t, long rooted, long group) {
            return in(rooted, t) || (maskAt(from, t) & ~group) != 0L;
        }
    }

    /** Makes STEPS in a yard, and tells of the latest one what it did. */
    private static final class Mover {
        static final int BY_ROOT = 1;
        static final int BY_MARK = 2;
        static final int BY_TRAIN = 3;
        static final int BY_CAR = 4;
        // No car has this number: those that STAY get theirs when the STEP ends.
        static final int STAYING = 1000;
        static final int DEAREST = 99;

        // What is ahead is tried out here.
        final Yard ahead = new Yard();
        int fell;
        int moved;
        int cost;
        boolean futile;
        private final Worth worth = new Worth();
        private final int[] waiting = new int[THINGS];
        private final long[] aboard = new long[TRAINS];
        private long rooted;
        private long left;
        private int waits;
        private int chosen;
        private int rule;
        private int stays;
        private int stayTrain;
        private boolean onlyByCar;

        void step(Yard y, Plan plan) {
            fell = 0;
            moved = 0;
            cost = 0;
            futile = false;
            if (y.trains > 0) {
                gather(y);
                if (firstTrainIsWanted(y)) {
                    for (int n = 0; n < THINGS && choose(y); n++) {
                        move(y, plan);
                    }
                    endFirstCar(y);
                } else {
                    fall(y, aboard[0]);
                    y.dropFirstTrain();
                }
            }
            y.pass();
        }

        boolean isPopular(Yard y, Plan plan, int t, long car) {
            weigh(y, t, car);
            return worth.run(plan, POPS) != 0;
        }

        boolean wantsTrain(Yard y, Plan plan) {
            int last = y.trains - 1;
            put(worth.facts, 0, y.step);
            put(worth.facts, 1, y.trains);
            put(worth.facts, 2, at(y.cars, last));
            put(worth.facts, 3, y.load(y.riders(last)));
            return worth.run(plan, FRESH) != 0;
        }

        private void weigh(Yard y, int t, long car) {
            put(worth.facts, 0, y.step);
            put(worth.facts, 1, at(y.size, t));
            put(worth.facts, 2, y.refs(t, car));
            put(worth.facts, 3, at(y.age, t));
        }

        private void gather(Yard y) {
            rooted = y.rooted();
            left = 0L;
            waits = 0;
            stays = 0;
            onlyByCar = true;
            Arrays.fill(aboard, 0L);
            for (int t = 0; t < THINGS; t++) {
                if (y.size[t] > 0) {
                    int train = y.train[t];
                    putMask(aboard, train, maskAt(aboard, train) | bit(t));
                    if (train == 0 && y.car[t] == 0) {
                        put(waiting, y.place[t], t);
                        left |= bit(t);
                        waits++;
                    }
                }
            }
        }

        private boolean firstTrainIsWanted(Yard y) {
            boolean wanted = false;
            for (int t = 0; t < THINGS && !wanted; t++) {
                wanted = in(aboard[0], t) && y.isReferredTo(t, rooted, aboard[0]);
            }
            return wanted;
        }

        private void fall(Yard y, long group) {
            for (int t = 0; t < THINGS; t++) {
                if (in(group, t)) {
                    y.drop(t);
                    fell++;
                }
            }
        }

        /** Rule by rule: of all that must by the first of these the first in the car. */
        private boolean choose(Yard y) {
            chosen = NONE;
            for (int r = BY_ROOT; r <= BY_CAR && chosen == NONE; r++) {
                rule = r;
                chosen = firstBy(y, r);
            }
            return chosen != NONE;
        }

        private void endFirstCar(Yard y) {
            fall(y, left);
            couple(y);
            y.dropFirstCar();
            if (fell == 0 && onlyByCar) {
                futile = true;
                markOne(y);
            }
        }

        private int firstBy(Yard y, int r) {
            long able = r == BY_ROOT ? left & rooted : r == BY_MARK ? left & y.marked : left;
            long others = r == BY_TRAIN ? ~aboard[0] : aboard[0] & ~left;
            for (int i = 0; i < waits && i < THINGS && able != 0L; i++) {
                int t = waiting[i];
                if (in(able, t) && (r <= BY_MARK || (maskAt(y.from, t) & others) != 0L)) {
                    return t;
                }
            }
            return NONE;
        }

        private void move(Yard y, Plan plan) {
            int t = chosen;
            int to = target(y);
            weigh(y, t, left);
            if (worth.run(plan, POPS) != 0) {
                stay(y, t, to);
            } else {
                int asked = worth.run(plan, COSTS);
                cost += asked < 0 ? 0 : asked > DEAREST ? DEAREST : asked;
                y.lay(t, to, plan.units);
            }
            left &= ~bit(t);
            aboard[0] &= ~bit(t);
            putMask(aboard, to, maskAt(aboard, to) | bit(t));
            y.marked &= ~bit(t);
            moved++;
            onlyByCar = onlyByCar && rule == BY_CAR;
        }

        private int target(Yard y) {
            if (rule == BY_CAR) {
                return 0;
            }
            if (rule == BY_TRAIN) {
                long sources = maskAt(y.from, chosen);
                int to = 1;
                while (to < y.trains && to < TRAINS && (sources & maskAt(aboard, to)) == 0L) {
                    to++;
                }
                return to;
            }
            if (y.trains == 1) {
                y.beginTrain();
            }
            return y.trains - 1;
        }

        private void stay(Yard y, int t, int to) {
            if (stays == 0) {
                stayTrain = to;
            }
            // Until the STEP ends aboard tells its train.
            put(y.car, t, STAYING);
            stays++;
        }

        /**
         * Those that STAYED get the car behind the last one of the train of the first that did, in it
         * one behind the other as they were in the first car, whichever STAYED first.
         */
        private void couple(Yard y) {
            if (stays == 0) {
                return;
            }
            int number = at(y.cars, stayTrain);
            put(y.cars, stayTrain, number + 1);
            int seated = 0;
            for (int i = 0; i < waits && i < THINGS; i++) {
                int t = waiting[i];
                if (at(y.car, t) == STAYING) {
                    put(y.train, t, stayTrain);
                    put(y.car, t, number);
                    put(y.place, t, seated);
                    seated++;
                }
            }
        }

        private void markOne(Yard y) {
            long first = y.riders(0);
            int best = NONE;
            for (int t = 0; t < THINGS && (y.marked & first) == 0L; t++) {
                if (in(first, t) && y.isReferredTo(t, rooted, first) && (best == NONE || isAhead(y, t, best))) {
                    best = t;
                }
            }
            y.marked |= bit(best);
        }

        private static boolean isAhead(Yard y, int a, int b) {
            int cars = at(y.car, a) - at(y.car, b);
            return cars < 0 || cars == 0 && at(y.place, a) < at(y.place, b);
        }
    }

    /** What holds what. Those that take links away want a yard that may be spoiled. */
    private static final class Bonds {
        static int retained(Yard y, int t) {
            long without = ~bit(t);
            long rest = y.reach(y.rooted() & without, y.there & without);
            return Long.bitCount(y.live()) - Long.bitCount(rest);
        }

        static int distance(Yard y, int t) {
            long seen = y.rooted() & y.there;
            int far = 0;
            for (int n = 0; n < THINGS && !in(seen, t); n++) {
                long next = seen;
                for (int s = 0; s < THINGS; s++) {
                    next |= in(seen, s) ? y.linkedFrom(s) : 0L;
                }
                seen = next;
                far++;
            }
            return in(seen, t) ? far : NONE;
        }

        /** Into found: the thing (none for a root), the number, how many are lost. */
        static boolean findHolder(Yard y, int[] found) {
            long live = y.live();
            put(found, 2, NONE);
            for (int r = 0; r < ROOTS; r++) {
                int to = y.roots[r];
                if (to != NONE) {
                    y.roots[r] = NONE;
                    weighHolder(y, live, NONE, r, found);
                    y.roots[r] = to;
                }
            }
            for (int i = 0; i < THINGS * LINKS; i++) {
                int t = i / LINKS;
                int to = y.links[i];
                if (in(live, t) && to != NONE) {
                    y.links[i] = NONE;
                    weighHolder(y, live, t, i % LINKS, found);
                    y.links[i] = to;
                }
            }
            return at(found, 2) != NONE;
        }

        private static void weighHolder(Yard y, long live, int t, int number, int[] found) {
            int lost = Long.bitCount(live) - Long.bitCount(y.live());
            if (lost > at(found, 2)) {
                put(found, 0, t);
                put(found, 1, number);
                put(found, 2, lost);
            }
        }

        /** Of all rows of a live thing, a link of it, a live thing: by how many a live one lives. */
        static int rowsAlive(Yard y, int t) {
            long live = y.live();
            int lives = Long.bitCount(live);
            int rows = 0;
            for (int i = 0; i < THINGS * LINKS; i++) {
                if (in(live, i / LINKS)) {
                    int to = y.links[i];
                    y.links[i] = NONE;
                    // Without its link the first thing still lives: all that the second reaches do.
                    rows += in(y.live(), t) ? lives : Long.bitCount(leadingTo(y, t, live));
                    y.links[i] = to;
                }
            }
            return rows;
        }

        private static long leadingTo(Yard y, int t, long within) {
            long seen = bit(t);
            boolean more = true;
            for (int n = 0; n < THINGS && more; n++) {
                long before = seen;
                for (int s = 0; s < THINGS; s++) {
                    if (in(within & ~seen, s) && (y.linkedFrom(s) & seen) != 0L) {
                        seen |= bit(s);
                    }
                }
                more = seen != before;
            }
            return seen & within;
        }
    }

    /** What comes AHEAD, worked out once for each state that is asked about. */
    private static final class Outlook {
        static final int COUNTS = 5;

        final int[] counts = new int[(AHEAD + 1) * COUNTS];
        final int[] fallAt = new int[THINGS];
        int cleanAt;
        int reach;
        private int known = NONE;

        void look(Yard now, Plan plan, Mover mover, int change) {
            if (known == change) {
                return;
            }
            known = change;
            Yard y = mover.ahead;
            y.copy(now);
            long rubbish = y.there & ~y.live();
            int cost = 0;
            int futile = 0;
            reach = 0;
            cleanAt = rubbish == 0L ? 0 : NONE;
            Arrays.fill(fallAt, NONE);
            count(y, 0, 0, 0);
            for (int n = 1; n <= AHEAD && y.step < LAST_STEP; n++) {
                mover.step(y, plan);
                cost += mover.cost;
                futile += mover.futile ? 1 : 0;
                reach = n;
                count(y, n, cost, futile);
                noteFallen(now.there & ~y.there, n);
                if (cleanAt == NONE && (rubbish & y.there) == 0L) {
                    cleanAt = n;
                }
            }
        }

        private void count(Yard y, int n, int cost, int futile) {
            int i = n * COUNTS;
            put(counts, i, y.trains);
            put(counts, i + 1, y.allCars());
            put(counts, i + 2, Long.bitCount(y.there));
            put(counts, i + 3, cost);
            put(counts, i + 4, futile);
        }

        private void noteFallen(long gone, int n) {
            for (int t = 0; t < THINGS; t++) {
                if (in(gone, t) && fallAt[t] == NONE) {
                    fallAt[t] = n;
                }
            }
        }
    }

    /** MET, and what it leaves of the SIZES of the thing that was asked about last. */
    private static final class Guess {
        static final int ROWS = 16;
        static final int DEEPEST = 20;
        static final int KINDS = 3;
        static final int PER_SIZE = (DEEPEST + 1) * KINDS;

        int met;
        final int[] telling = new int[3];
        private final int[] rows = new int[ROWS * 3];
        private final int[] counts = new int[(MOST_UNITS + 1) * PER_SIZE];
        private final int[] tally = new int[THINGS + 2];
        private int units;
        private int thing = NONE;
        private int deep;
        private int known = NONE;

        void forget() {
            met = 0;
        }

        boolean meetRows(int[] tape, int length) {
            if (length < 3 || length > ROWS * 3 || length % 3 != 0) {
                return false;
            }
            boolean good = true;
            for (int i = 0; i < length; i += 3) {
                good = good && at(tape, i) <= DEEPEST && at(tape, i + 1) < KINDS && at(tape, i + 2) <= THINGS;
            }
            if (good) {
                System.arraycopy(tape, 0, rows, 0, length);
                met = length / 3;
            }
            return good;
        }

        int farthest() {
            int most = 0;
            for (int i = 0; i < met && i < ROWS; i++) {
                int n = at(rows, i * 3);
                most = n > most ? n : most;
            }
            return most;
        }

        /** What would be counted behind up to so many steps, by each size that the thing can have. */
        void look(Yard now, Plan plan, Mover mover, int about, int need, int change) {
            if (known == change && thing == about && deep >= need) {
                return;
            }
            known = change;
            thing = about;
            deep = need;
            units = plan.units;
            Arrays.fill(counts, NONE);
            Yard y = mover.ahead;
            for (int s = 1; s <= units && s <= MOST_UNITS; s++) {
                y.copy(now);
                put(y.size, about, s);
                count(y, s, 0);
                for (int n = 1; n <= need && n <= DEEPEST && y.step < LAST_STEP; n++) {
                    mover.step(y, plan);
                    count(y, s, n);
                }
            }
        }

        private void count(Yard y, int s, int n) {
            int i = s * PER_SIZE + n * KINDS;
            put(counts, i, y.trains);
            put(counts, i + 1, y.allCars());
            put(counts, i + 2, Long.bitCount(y.there));
        }

        private int counted(int s, int n, int kind) {
            return at(counts, s * PER_SIZE + n * KINDS + kind);
        }

        /** A row whose steps do not come was counted as none, which no row tells. */
        private boolean fits(int s) {
            boolean fit = true;
            for (int i = 0; i < met && i < ROWS && fit; i++) {
                fit = counted(s, at(rows, i * 3), at(rows, i * 3 + 1)) == at(rows, i * 3 + 2);
            }
            return fit;
        }

        int left() {
            int count = 0;
            for (int s = 1; s <= units && s <= MOST_UNITS; s++) {
                count += fits(s) ? 1 : 0;
            }
            return count;
        }

        int nthLeft(int k) {
            int count = 0;
            for (int s = 1; s <= units && s <= MOST_UNITS; s++) {
                if (fits(s)) {
                    if (count == k) {
                        return s;
                    }
                    count++;
                }
            }
            return NONE;
        }

        boolean findTelling(int comes) {
            boolean found = false;
            for (int n = 1; n <= comes && n <= DEEPEST; n++) {
                for (int kind = 0; kind < KINDS; kind++) {
                    int most = mostAlike(n, kind);
                    if (most > 0 && (!found || most < telling[2])) {
                        found = true;
                        telling[0] = n;
                        telling[1] = kind;
                        telling[2] = most;
                    }
                }
            }
            return found;
        }

        private int mostAlike(int n, int kind) {
            int most = 0;
            Arrays.fill(tally, 0);
            for (int s = 1; s <= units && s <= MOST_UNITS; s++) {
                if (fits(s)) {
                    int number = counted(s, n, kind);
                    int alike = at(tally, number) + 1;
                    put(tally, number, alike);
                    most = alike > most ? alike : most;
                }
            }
            return most;
        }
    }

    /** What was KEPT of the last STEPS, the oldest first. */
    private static final class Diary {
        static final int MOST = 40;
        static final int WHATS = 3;

        int count;
        private final int[] rows = new int[MOST * WHATS];

        void add(int step, int fell, int moved) {
            if (count >= MOST) {
                System.arraycopy(rows, WHATS, rows, 0, (MOST - 1) * WHATS);
                count = MOST - 1;
            }
            put(rows, count * WHATS, step);
            put(rows, count * WHATS + 1, fell);
            put(rows, count * WHATS + 2, moved);
            count++;
        }

        int told(int k, int what) {
            boolean can = k >= 0 && k < count && what >= 0 && what < WHATS;
            return can ? at(rows, k * WHATS + what) : NONE;
        }

        void copy(Diary other) {
            System.arraycopy(other.rows, 0, rows, 0, MOST * WHATS);
            count = other.count;
        }
    }

    /** How all was ahead of the last ACTS, in a ring. */
    private static final class Past {
        static final int MOST = 20;

        int count;
        private int next;
        private final Yard[] yards = new Yard[MOST];
        private final Diary[] diaries = new Diary[MOST];

        Past() {
            for (int i = 0; i < MOST; i++) {
                yards[i] = new Yard();
                diaries[i] = new Diary();
            }
        }

        void save(Yard yard, Diary diary) {
            if (next < 0 || next >= MOST || yards[next] == null || diaries[next] == null) {
                return;
            }
            yards[next].copy(yard);
            diaries[next].copy(diary);
            next = (next + 1) % MOST;
            count += count < MOST ? 1 : 0;
        }

        boolean restore(Yard yard, Diary diary) {
            int latest = (next + MOST - 1) % MOST;
            if (count == 0 || latest < 0 || yards[latest] == null || diaries[latest] == null) {
                return false;
            }
            yard.copy(yards[latest]);
            diary.copy(diaries[latest]);
            next = latest;
            count--;
            return true;
        }
    }

    /** An IMAGE, written and read. */
    private static final class Picture {
        static final int NOTHING = 255;
        static final int HEAD = 2 + ROOTS;
        static final int PER_THING = 6 + LINKS;
        static final int MOST = HEAD + THINGS * PER_THING + 1;

        final int[] bytes = new int[MOST];
        int count;

        void write(Yard y) {
            count = 0;
            add(y.step / 256);
            add(y.step % 256);
            for (int r = 0; r < ROOTS; r++) {
                add(y.roots[r] == NONE ? NOTHING : y.roots[r]);
            }
            for (int t = 0; t < THINGS; t++) {
                add(y.size[t]);
                if (y.size[t] > 0) {
                    writeThing(y, t);
                }
            }
            add(check(bytes, count));
        }

        private void writeThing(Yard y, int t) {
            add(at(y.train, t));
            add(at(y.car, t));
            add(at(y.place, t));
            add(at(y.age, t));
            add(in(y.marked, t) ? 1 : 0);
            for (int k = 0; k < LINKS; k++) {
                int to = y.linkOf(t, k);
                add(to == NONE ? NOTHING : to);
            }
        }

        private void add(int value) {
            put(bytes, count, value);
            count++;
        }

        private static int check(int[] row, int length) {
            int c = 239;
            for (int i = 0; i < length && i < row.length; i++) {
                c = (5 * c + row[i]) % 251;
            }
            return c;
        }

        /** False leaves the yard spoiled. */
        static boolean read(int[] tape, int length, int units, Yard y) {
            y.clear();
            if (length <= HEAD + THINGS || length > MOST || check(tape, length - 1) != at(tape, length - 1)) {
                return false;
            }
            y.step = at(tape, 0) * 256 + at(tape, 1);
            int next = HEAD;
            boolean good = y.step <= LAST_STEP;
            for (int t = 0; t < THINGS && good; t++) {
                int size = at(tape, next);
                if (size != 0) {
                    good = next + PER_THING < length && size <= units && readThing(tape, next, y, t);
                }
                next += size != 0 ? PER_THING : 1;
            }
            return good && next == length - 1 && readBonds(tape, y) && countCars(y) && carsHold(y, units);
        }

        private static boolean readThing(int[] tape, int from, Yard y, int t) {
            int age = at(tape, from + 4);
            int flag = at(tape, from + 5);
            y.add(t, at(tape, from));
            put(y.train, t, at(tape, from + 1));
            put(y.car, t, at(tape, from + 2));
            put(y.place, t, at(tape, from + 3));
            put(y.age, t, age);
            y.marked |= flag == 1 ? bit(t) : 0L;
            return age <= OLDEST && flag <= 1;
        }

        /** Links may be to things that come later in the image: they are read when all are there. */
        private static boolean readBonds(int[] tape, Yard y) {
            boolean good = true;
            for (int r = 0; r < ROOTS; r++) {
                int to = at(tape, 2 + r);
                good = good && (to == NOTHING || y.isThere(to));
                y.roots[r] = to == NOTHING ? NONE : to;
            }
            int next = HEAD;
            for (int t = 0; t < THINGS; t++) {
                for (int k = 0; k < LINKS && y.isThere(t) && good; k++) {
                    int to = at(tape, next + 6 + k);
                    good = to == NOTHING || y.isThere(to);
                    y.point(t, k, to == NOTHING || !good ? NONE : to);
                }
                next += y.isThere(t) ? PER_THING : 1;
            }
            return good;
        }

        /** Each place has one thing, and each but the first has one that it comes behind. */
        private static boolean countCars(Yard y) {
            boolean good = true;
            for (int t = 0; t < THINGS && good; t++) {
                if (y.isThere(t)) {
                    int train = at(y.train, t);
                    int car = at(y.car, t);
                    int place = at(y.place, t);
                    good = ridersAt(y, train, car, place) == 1
                        && (place == 0 || ridersAt(y, train, car, place - 1) == 1)
                        && (car == 0 || ridersAt(y, train, car - 1, 0) == 1)
                        && (train == 0 || ridersAt(y, train - 1, 0, 0) == 1);
                    put(y.cars, train, Math.max(at(y.cars, train), car + 1));
                    y.trains = Math.max(y.trains, train + 1);
                }
            }
            return good;
        }

        private static int ridersAt(Yard y, int train, int car, int place) {
            int count = 0;
            for (int t = 0; t < THINGS; t++) {
                boolean here = y.size[t] > 0 && y.train[t] == train && y.car[t] == car;
                count += here && y.place[t] == place ? 1 : 0;
            }
            return count;
        }

        private static boolean carsHold(Yard y, int units) {
            boolean good = true;
            for (int t = 0; t < THINGS && good; t++) {
                good = !y.isThere(t) || y.load(y.mates(t)) <= units;
            }
            return good;
        }
    }
}
