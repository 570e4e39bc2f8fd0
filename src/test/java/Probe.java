/** What the tests of edges share: the object in use, the sentence of the document that is tested, and what was wrong. */
abstract class Probe {
    static final int NONE = TrainCollector.NONE;
    static final int LOW = Integer.MIN_VALUE;
    static final int HIGH = Integer.MAX_VALUE;
    static TrainCollector x = new TrainCollector();
    private static String sentence = "";
    private static int wrong = 0;
    private static int checked = 0;
    // What an object answers is promised for 512 calls: a text that is told late is told to a new one.
    private static final int MANY = 300;
    private static int calls = 0;

    /** What follows tests these words of the document, on a new object. */
    static void says(String words) {
        sentence = words;
        anew();
    }

    static void anew() {
        x = new TrainCollector();
        calls = 0;
    }

    static void due(String call, long got, long want) {
        checked++;
        calls++;
        if (got != want) {
            wrong++;
            System.out.println("\"" + sentence + "\": " + call + " answered " + got + ", due is " + want);
        }
    }

    static void due(String call, boolean got, boolean want) {
        due(call, got ? 1 : 0, want ? 1 : 0);
    }

    static void put(int... bytes) {
        put(x, bytes);
    }

    static void put(TrainCollector on, int... bytes) {
        on.end(0);
        for (int i = 0; i < bytes.length; i += 20) {
            int[] five = new int[5];
            for (int k = 0; k < 20; k++) {
                five[k / 4] = five[k / 4] << 8 | (i + k < bytes.length ? bytes[i + k] & 255 : 0);
            }
            on.feed(five[0], five[1], five[2], five[3], five[4]);
        }
        on.end(bytes.length);
    }

    static void put(TrainCollector on, String text) {
        put(on, text.chars().toArray());
    }

    static int heap(String text) {
        if (calls > MANY) {
            anew();
        }
        put(x, text);
        calls += 3 + text.length() / 20;
        return x.heap();
    }

    /** The text is a HEAP of so many STATEMENTS. */
    static void told(String text, int statements) {
        due("heap() of " + text, heap(text), statements);
        due("fault(0) of " + text, x.fault(0), 0);
        due("fault(1) of " + text, x.fault(1), NONE);
    }

    static void told(String text) {
        told(text, (int) text.chars().filter(c -> c == ';').count());
    }

    static void faulty(String text, int fault, int place) {
        due("heap() of " + text, heap(text), NONE);
        due("fault(0) of " + text, x.fault(0), fault);
        due("fault(1) of " + text, x.fault(1), place);
    }

    static void stepsTo(int step) {
        stepsTo(x, step);
    }

    static void stepsTo(TrainCollector on, int step) {
        for (int n = 0; n < 20 && on.has(6) < step; n++) {
            on.steps(Math.min(60, step - on.has(6)));
        }
    }

    static void rides(int thing, int train, int car, int place) {
        due("thing(" + thing + ", 1)", x.thing(thing, 1), train);
        due("thing(" + thing + ", 2)", x.thing(thing, 2), car);
        due("thing(" + thing + ", 3)", x.thing(thing, 3), place);
    }

    static void kept(int k, int step, int fell, int moved) {
        due("kept(" + k + ", 0)", x.kept(k, 0), step);
        due("kept(" + k + ", 1)", x.kept(k, 1), fell);
        due("kept(" + k + ", 2)", x.kept(k, 2), moved);
    }

    static int[] imageOf(TrainCollector of) {
        int[] bytes = new int[Math.max(0, of.image())];
        for (int i = 0; i < bytes.length; i++) {
            bytes[i] = of.octet(i);
        }
        return bytes;
    }

    /** With its last byte as the others ask for it. */
    static int[] checked(int... bytes) {
        int[] row = bytes.clone();
        int c = 239;
        for (int i = 0; i < row.length - 1; i++) {
            c = (5 * c + row[i]) % 251;
        }
        if (row.length > 0) {
            row[row.length - 1] = c;
        }
        return row;
    }

    static int[] changed(int[] bytes, int at, int value) {
        int[] row = bytes.clone();
        row[at] = value;
        return checked(row);
    }

    static void finish() {
        System.out.println(wrong == 0 ? checked + " answers are as due" : wrong + " answers are not as due");
        if (wrong != 0) {
            System.exit(1);
        }
    }
}
