/** For each promise of the document what a call answers at the edges of its arguments, and with nothing to tell of. */
public final class CallEdgeTest extends Probe {
    private static final int[] FAR_OFF = {LOW, LOW + 1, -65536, -256, -64, -41, -40, -2, 255, 256, 1000, 65536, HIGH - 1, HIGH};
    // a rides alone, b and c in the car behind; d in the second train; c and e are rubbish.
    private static final String FIVE = "units 8;thing a size 8;thing b size 2;thing c size 3;next;thing d size 4;thing e size 1;"
        + "link b to a;link b to d;link d to b;link c to b;link e to e;root b;root d;churn 60;";

    private interface Asked {
        int by(int argument);
    }

    /** Outside of low .. high the call answers NONE; within it does not, but for those told. */
    private static void within(String call, int low, int high, Asked asked) {
        for (int k : FAR_OFF) {
            if (k < low || k > high) {
                due(call + " by " + k, asked.by(k), NONE);
            }
        }
        for (int k = low - 3; k < low; k++) {
            due(call + " by " + k, asked.by(k), NONE);
        }
        for (int k = high + 1; k < high + 4; k++) {
            due(call + " by " + k, asked.by(k), NONE);
        }
        for (int k = low; k <= high && k < low + 70; k++) {
            due(call + " by " + k + " is not NONE", asked.by(k) != NONE, true);
        }
    }

    private static void five() {
        anew();
        told(FIVE);
    }

    private static void newObject() {
        says("Promise 1: No heap, no things; the seed is 1");
        for (int what = 0; what < 10; what++) {
            due("has(" + what + ")", x.has(what), 0);
        }
        due("has(10)", x.has(10), 1);
        for (int t = -2; t <= 40; t++) {
            due("thing(" + t + ", 0)", x.thing(t, 0), NONE);
            due("letter(" + t + ", 0)", x.letter(t, 0), NONE);
            due("link(" + t + ", 0)", x.link(t, 0), NONE);
            due("root(" + t + ")", x.root(t), NONE);
            due("train(" + t + ", 0)", x.train(t, 0), NONE);
            due("car(" + t + ", 0, 0)", x.car(t, 0, 0), NONE);
            due("kept(" + t + ", 0)", x.kept(t, 0), NONE);
            due("octet(" + t + ")", x.octet(t), NONE);
        }
        anew();
        for (int n = -1; n <= 61; n++) {
            for (int what = 0; what < 5; what++) {
                due("later(" + n + ", " + what + ")", x.later(n, what), NONE);
            }
        }
        anew();
        due("clean()", x.clean(), 0);
        due("fault(0)", x.fault(0), 0);
        due("fault(1)", x.fault(1), NONE);
        for (int k = -1; k < 3; k++) {
            due("falls", x.falls(k), NONE);
            due("retains", x.retains(k), NONE);
            due("holder", x.holder(k), NONE);
            due("far", x.far(k), NONE);
            due("ring", x.ring(k), NONE);
            due("odds", x.odds(k), NONE);
            due("sizes", x.sizes(k, NONE), NONE);
            due("tells", x.tells(k, 0), NONE);
        }
        for (int what = 0; what < 6; what++) {
            due("status(" + what + ")", x.status(what), 0);
        }
        x.chance(1);
        due("a refused chance() draws nothing", x.has(10), 1);
        due("undo()", x.undo(), false);
        due("the tape is empty", x.end(1), false);
        due("an image of nothing", x.image(), 51);
        due("octet(50)", x.octet(50), lastOfNothing());
        due("octet(51)", x.octet(51), NONE);
    }

    private static int lastOfNothing() {
        int c = 239;
        for (int i = 0; i < 50; i++) {
            c = (5 * c + (i >= 2 && i < 10 ? 255 : 0)) % 251;
        }
        return c;
    }

    private static void feeding() {
        says("Promise 2: Twenty bytes come behind those on the tape: how many there are; NONE if there would be more than 1600");
        for (int n = 1; n <= 80; n++) {
            due("feed", x.feed(0, 0, 0, 0, 0), 20 * n);
        }
        due("at 1600", x.feed(0, 0, 0, 0, 0), NONE);
        for (int left : new int[] {1599, 1590, 1581}) {
            due("end(" + left + ")", x.end(left), true);
            due("at " + left, x.feed(0, 0, 0, 0, 0), NONE);
        }
        due("end(1580)", x.end(1580), true);
        due("at 1580", x.feed(0, 0, 0, 0, 0), 1600);
        due("refused", x.status(0), 4);
        x.end(7);
        due("at 7", x.feed(0, 0, 0, 0, 0), 27);
        says("Promise 2: of each number the highest first");
        told("units 8;");
        // An image of no thing at STEP 258 with its bytes told by whole numbers, some of them below 0.
        int[] image = checked(changed(new int[51], 0, 1));
        image[1] = 2;
        for (int r = 2; r < 10; r++) {
            image[r] = 255;
        }
        image = checked(image);
        x.feed(0x0102FFFF, -1, 0xFFFF0000, 0, 0);
        x.feed(0, 0, 0, 0, 0);
        x.feed(0, 0, image[50] << 16, 0, 0);
        due("end(51)", x.end(51), true);
        due("on() with its last byte elsewhere", x.on(), false);
        x.feed(0x0102FFFF, -1, 0xFFFF0000, 0, 0);
        x.feed(0, 0, 0, 0, 0);
        x.feed(0, 0, image[50] << 8, HIGH, LOW);
        due("end(51)", x.end(51), true);
        due("on()", x.on(), true);
        due("STEP", x.has(6), 258);
    }

    private static void ending() {
        says("Promise 3: The tape has its first n bytes alone: true; false if it has not so many, or n is below 0");
        due("end(0) of none", x.end(0), true);
        due("end(1) of none", x.end(1), false);
        x.feed(0, 0, 0, 0, 0);
        int[] no = {LOW, -20, -1, 21, 22, 40, 1600, HIGH};
        for (int n : no) {
            due("end(" + n + ") of 20", x.end(n), false);
        }
        due("refused", x.status(0), 9);
        for (int n : new int[] {20, 20, 19, 1, 1, 0, 0}) {
            due("end(" + n + ")", x.end(n), true);
        }
        due("end(1) of 0", x.end(1), false);
        due("refused", x.status(0), 10);
        for (int i = 0; i < 80; i++) {
            x.feed(0, 0, 0, 0, 0);
        }
        due("end(1601)", x.end(1601), false);
        due("end(1600)", x.end(1600), true);
        says("Promise 3: the first n bytes");
        put(x, "units 9;units 8;");
        x.end(8);
        due("heap()", x.heap(), 1);
        due("has(0)", x.has(0), 9);
        says("Promise 4: The tape (it goes)");
        told("units 9;");
        due("behind heap()", x.end(1), false);
        heap("units 7;");
        due("behind a refused one", x.end(1), false);
        put(0, 0, 0);
        x.meet();
        due("behind meet()", x.end(1), false);
        put(0);
        x.meet();
        due("behind a refused one", x.end(1), false);
        int[] image = imageOf(x);
        put(image);
        x.on();
        due("behind on()", x.end(1), false);
        put(1, 2);
        x.on();
        due("behind a refused one", x.end(1), false);
        due("feed", x.feed(0, 0, 0, 0, 0), 20);
    }

    private static void heaps() {
        says("Promise 4: Without one all is as at first, nothing is KEPT or MET, no ACT can be undone; the seed stays");
        told("units 8;thing a size 8;thing b size 8;link b to a;root b;pops step>5;fresh all;costs 7;churn 100;");
        x.chance(30);
        x.make(3, 4);
        x.set(2, 1, 2);
        put(0, 0, 0);
        x.meet();
        x.steps(9);
        int seed = x.has(10);
        told("units 9;thing bcd size 3;thing c size 2;root c;");
        int[] want = {9, 2, 1, 1, 1, 5, 0, 0, 0, 0, seed};
        for (int what = 0; what < want.length; what++) {
            due("has(" + what + ")", x.has(what), want[what]);
        }
        due("undo()", x.undo(), false);
        due("no link", x.link(0, 0), NONE);
        due("no root", x.root(1), NONE);
        due("no root", x.root(4), NONE);
        due("no THING", x.thing(2, 0), NONE);
        due("no age", x.thing(0, 6), 0);
        due("no mark", x.thing(1, 7), 0);
        due("no pops", x.thing(1, 8), 0);
        due("no costs", x.later(1, 3), 2);
        due("no fresh", x.make(1, 7) * 10 + x.thing(2, 1), 20);
        due("no churn", x.odds(0), 0);
        due("letters", x.letter(0, 0) * 100 + x.letter(1, 0), 203);
        says("Promise 5: fault: 0 without, and ahead of any; its place NONE without; NONE for another what");
        within("fault", 0, 0, k -> k == 1 ? NONE : x.fault(k));
        due("fault(1)", x.fault(1), NONE);
        heap("units 7;");
        within("fault", 0, 1, k -> x.fault(k));
        heap("units 8;");
        due("fault(0) of the latest", x.fault(0), 0);
        due("fault(1) of the latest", x.fault(1), NONE);
        heap("");
        due("fault(0) of the latest", x.fault(0), 1);
        due("fault(1) of the latest", x.fault(1), 0);
    }

    private static void hasAndLetters() {
        says("Promise 6: has: NONE for others");
        told(FIVE);
        within("has", 0, 10, k -> x.has(k));
        says("Promise 7: Letter k (0 .. 5) of the NAME; 0 behind it; NONE when none was told");
        told("units 8;thing abcxyz size 1;thing m size 2;thing no size 3;root no;");
        within("letter(0, k)", 0, 5, k -> x.letter(0, k));
        within("letter(1, k)", 0, 5, k -> x.letter(1, k));
        within("letter(told, 0)", 0, 2, k -> x.letter(k, 0));
        within("letter(told, 5)", 0, 2, k -> x.letter(k, 5));
        anew();
        told("units 8;thing abcxyz size 1;next;thing m size 2;root m;");
        int[][] want = {{1, 2, 3, 24, 25, 26}, {13, 0, 0, 0, 0, 0}};
        for (int turn = 0; turn < 2; turn++) {
            for (int k = 0; k < 6; k++) {
                due("letter(0, " + k + ")", x.letter(0, k), want[0][k]);
                due("letter(1, " + k + ")", x.letter(1, k), want[1][k]);
            }
            due("letter(2, 0)", x.letter(2, 0), NONE);
            due("told is told, though it falls, and another has its number", x.steps(1), 1);
            due("make", x.make(1, 0), turn);
        }
    }

    private static void lookingAtThings() {
        says("Promise 8: thing: NONE when there is none such, or for others");
        told(FIVE);
        for (int what = 0; what < 9; what++) {
            int w = what;
            five();
            within("thing(t, " + what + ")", 0, 4, t -> x.thing(t, w));
        }
        five();
        within("thing(4, what)", 0, 8, what -> x.thing(4, what));
        due("a FALLEN one", x.steps(2) > 0 && x.thing(2, 0) == NONE, true);
        says("Promise 9: link: NONE: to none; NONE when there are none such");
        told(FIVE);
        int[][] links = {{NONE, NONE, NONE, NONE}, {0, 3, NONE, NONE}, {1, NONE, NONE, NONE}, {1, NONE, NONE, NONE},
            {4, NONE, NONE, NONE}};
        for (int t = 0; t < 5; t++) {
            for (int k = 0; k < 4; k++) {
                due("link(" + t + ", " + k + ")", x.link(t, k), links[t][k]);
            }
            int at = t;
            within("link(" + t + ", k)", 0, -1, k -> k >= 0 && k < 4 ? NONE : x.link(at, k));
            due("link(" + t + ", 4)", x.link(t, 4), NONE);
            due("link(" + t + ", -4)", x.link(t, -4), NONE);
        }
        anew();
        told(FIVE + "link a to b;link a to b;link a to b;link a to b;");
        within("link(0, k)", 0, 3, k -> x.link(0, k));
        within("link(t, 0)", 0, 4, t -> x.link(t, 0));
        says("Promise 10: root: NONE: to none; NONE when there is none such");
        told(FIVE + "root a;root a;root a;root a;root a;root a;");
        within("root", 0, 7, k -> x.root(k));
        x.aim(7, NONE);
        due("to none", x.root(7), NONE);
        told(FIVE);
        for (int r = 2; r < 8; r++) {
            due("root(" + r + ")", x.root(r), NONE);
        }
    }

    private static void lookingAtTrains() {
        says("Promise 11: train: NONE when there is none such, or for others");
        told(FIVE);
        int[][] trains = {{2, 3, 13, 2}, {1, 2, 5, 2}};
        for (int t = 0; t < 2; t++) {
            for (int what = 0; what < 4; what++) {
                due("train(" + t + ", " + what + ")", x.train(t, what), trains[t][what]);
            }
        }
        within("train(0, what)", 0, 3, what -> x.train(0, what));
        within("train(1, what)", 0, 3, what -> x.train(1, what));
        within("train(t, 0)", 0, 1, t -> x.train(t, 0));
        within("train(t, 3)", 0, 1, t -> x.train(t, 3));
        says("Promise 12: car: NONE when there are none such, or for others");
        told(FIVE);
        int[][] cars = {{1, 8, 1}, {2, 5, 2}, {2, 5, 2}};
        for (int i = 0; i < 3; i++) {
            for (int what = 0; what < 3; what++) {
                due("car " + i + ", " + what, x.car(i / 2, i % 2, what), cars[i][what]);
            }
        }
        within("car(0, 0, what)", 0, 2, what -> x.car(0, 0, what));
        within("car(0, c, 0)", 0, 1, c -> x.car(0, c, 0));
        within("car(1, c, 2)", 0, 0, c -> x.car(1, c, 2));
        within("car(t, 0, 1)", 0, 1, t -> x.car(t, 0, 1));
        anew();
        told("units 8;");
        due("no TRAIN", x.train(0, 0), NONE);
        due("no CAR", x.car(0, 0, 0), NONE);
    }

    private static void lookingAhead() {
        says("Promise 13: falls: NONE when it has not, or there is none such");
        told(FIVE);
        due("falls(4)", x.falls(4) > 0, true);
        due("falls(1)", x.falls(1), NONE);
        within("falls of none", 0, -1, t -> t >= 0 && t < 5 ? NONE : x.falls(t));
        due("falls(5)", x.falls(5), NONE);
        says("Promise 15: later: NONE when n can't be, without a heap, or for others");
        for (int what = 0; what < 5; what++) {
            int w = what;
            five();
            within("later(n, " + what + ")", 0, 60, n -> x.later(n, w));
        }
        five();
        within("later(0, what)", 0, 4, what -> x.later(0, what));
        within("later(60, what)", 0, 4, what -> x.later(60, what));
        due("later(61, 5)", x.later(61, 5), NONE);
        five();
        due("no costs now", x.later(0, 3), 0);
        due("none FUTILE now", x.later(0, 4), 0);
        says("Promise 16: retains, 18: far, 19: ring: NONE when there is none such");
        told(FIVE);
        within("retains", 0, 4, t -> x.retains(t));
        within("ring", 0, 4, t -> x.ring(t));
        five();
        within("far", 0, 1, t -> t == 2 || t == 3 || t == 4 ? NONE : x.far(t));
        due("far(3)", x.far(3), 0);
        due("far of RUBBISH", x.far(2), NONE);
        due("far of none", x.far(5), NONE);
        says("Promise 17: holder: NONE for others");
        told("units 8;thing a size 1;thing b size 1;link a to b;root a;root a;");
        within("holder", 0, 2, what -> x.holder(what));
        says("Promise 20: odds: all rows for the THING NONE. NONE when there is none such");
        told(FIVE);
        within("odds", -1, 4, t -> x.odds(t));
    }

    private static void meeting() {
        says("Promise 21: MET, 1 to 16 rows of three bytes: how many rows; NONE when it is none such");
        for (int n = 0; n <= 60; n++) {
            put(new int[n]);
            boolean can = n % 3 == 0 && n >= 3 && n <= 48;
            int before = x.has(8);
            due("meet() of " + n + " bytes", x.meet(), can ? n / 3 : NONE);
            due("has(8)", x.has(8), can ? n / 3 : before);
        }
        due("refused", x.status(5), 61 - 16);
        says("Promise 21: STEPS AHEAD (0 .. 20), 0, 1 or 2, a number (0 .. 40)");
        int[][] edges = {{0, 20}, {0, 2}, {0, 40}};
        for (int rows : new int[] {1, 2, 16}) {
            for (int at = 0; at < 3 * rows; at++) {
                anew();
                for (int value : new int[] {0, edges[at % 3][1], edges[at % 3][1] + 1, 127, 128, 255}) {
                    int[] bytes = new int[3 * rows];
                    bytes[at] = value;
                    put(bytes);
                    due("byte " + at + " of " + rows + " rows is " + value, x.meet(), value <= edges[at % 3][1] ? rows : NONE);
                }
            }
        }
        says("Promise 22: sizes: how many (k NONE), the k-th, rising. NONE when there is none such");
        told(FIVE);
        within("sizes(0, k)", -1, 7, k -> x.sizes(0, k));
        within("sizes(t, -1)", 0, 4, t -> x.sizes(t, NONE));
        within("sizes(t, 7)", 0, 4, t -> x.sizes(t, 7));
        says("Promise 23: tells: NONE for others, when there is none such");
        told(FIVE);
        within("tells(0, what)", 0, 2, what -> x.tells(0, what));
        within("tells(t, 2)", 0, 4, t -> x.tells(t, 2));
    }

    private static void seedAndKept() {
        says("Promise 30: The seed: true; false when it is below 0");
        for (int seed : new int[] {0, 1, 64, HIGH - 1, HIGH}) {
            due("seed(" + seed + ")", x.seed(seed), true);
            due("has(10)", x.has(10), seed);
        }
        for (int seed : new int[] {-1, -2, LOW, LOW + 1}) {
            due("seed(" + seed + ")", x.seed(seed), false);
            due("has(10)", x.has(10), HIGH);
        }
        due("refused", x.status(5), 4);
        says("Promise 31: kept: NONE when there is none such, or for others");
        told(FIVE);
        due("none yet", x.kept(0, 0), NONE);
        x.steps(3);
        within("kept(k, 0)", 0, 2, k -> x.kept(k, 0));
        within("kept(2, what)", 0, 2, what -> x.kept(2, what));
        x.steps(60);
        within("kept(k, 2)", 0, 39, k -> x.kept(k, 2));
        says("Promise 33: octet: Byte k of the latest image(); NONE when there is none such");
        told(FIVE);
        within("octet ahead of any", 0, -1, k -> x.octet(k));
        int length = x.image();
        due("image()", length, 51 + 5 * 9);
        within("octet", 0, length - 1, k -> x.octet(k));
        x.steps(9);
        due("as it was", x.octet(10), 8);
        due("octet(95)", x.octet(95) >= 0, true);
        int fewer = x.image();
        due("a shorter one", fewer < length, true);
        due("octet behind it", x.octet(fewer), NONE);
        says("Promise 35: status: NONE for others");
        within("status", 0, 5, what -> x.status(what));
    }

    public static void main(String[] args) {
        newObject();
        feeding();
        ending();
        heaps();
        hasAndLetters();
        lookingAtThings();
        lookingAtTrains();
        lookingAhead();
        meeting();
        seedAndKept();
        finish();
    }
}
