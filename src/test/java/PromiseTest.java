/** For each promise of the document calls with the answers that are due, worked out by hand. */
public final class PromiseTest {
    private static final int NONE = TrainCollector.NONE;
    private static int wrong = 0;
    private static int promise = 0;
    private static TrainCollector x = new TrainCollector();

    // a, b ride in the first train, c in the second; c holds a, b is rubbish.
    private static final String THREE =
        "units 10;thing a size 4;thing b size 3;next;thing c size 5;link c to a;root c;";
    // One train of two cars: b holds a from the car behind it, so that the first step is futile.
    private static final String FUTILE = "units 8;thing a size 8;thing b size 8;link b to a;root b;";
    // The text of the document's first example in ../shared/tests.
    private static final String SIX = "units 10;thing a size 4;thing b size 4;thing c size 6;next;thing d size 5;"
        + "thing e size 5;thing f size 3;link a to b;link b to a;link d to c;link c to e;root d;link f to f;churn 50;";

    private static final String LATE =
        "units 8;thing a size 3;thing b size 2;root a;root b;pops step=19 and size>3;";

    private static void due(String call, long got, long want) {
        if (got != want) {
            wrong++;
            System.out.println("promise " + promise + ": " + call + " answered " + got + ", due is " + want);
        }
    }

    private static void due(String call, boolean got, boolean want) {
        due(call, got ? 1 : 0, want ? 1 : 0);
    }

    private static void begin(int number) {
        promise = number;
        x = new TrainCollector();
    }

    private static void put(int... bytes) {
        x.end(0);
        for (int i = 0; i < bytes.length; i += 20) {
            int[] five = new int[5];
            for (int k = 0; k < 20; k++) {
                five[k / 4] = five[k / 4] << 8 | (i + k < bytes.length ? bytes[i + k] & 255 : 0);
            }
            x.feed(five[0], five[1], five[2], five[3], five[4]);
        }
        x.end(bytes.length);
    }

    private static void put(String text) {
        put(text.chars().toArray());
    }

    private static int heap(String text) {
        put(text);
        return x.heap();
    }

    private static void told(String text) {
        int answer = heap(text);
        due("heap() of " + text, answer > 0, true);
    }

    private static void faulty(String text, int fault, int place) {
        due("heap() of " + text, heap(text), NONE);
        due("fault(0) of " + text, x.fault(0), fault);
        due("fault(1) of " + text, x.fault(1), place);
    }

    private static void good(String text) {
        heap(text);
        due("fault(0) of " + text, x.fault(0), 0);
    }

    private static void kept(int k, int step, int fell, int moved) {
        due("kept(" + k + ", 0)", x.kept(k, 0), step);
        due("kept(" + k + ", 1)", x.kept(k, 1), fell);
        due("kept(" + k + ", 2)", x.kept(k, 2), moved);
    }

    private static void rides(int thing, int train, int car, int place) {
        due("thing(" + thing + ", 1)", x.thing(thing, 1), train);
        due("thing(" + thing + ", 2)", x.thing(thing, 2), car);
        due("thing(" + thing + ", 3)", x.thing(thing, 3), place);
    }

    private static int[] imageOf(TrainCollector y) {
        int[] bytes = new int[y.image()];
        for (int i = 0; i < bytes.length; i++) {
            bytes[i] = y.octet(i);
        }
        return bytes;
    }

    private static int[] checked(int[] bytes) {
        int c = 239;
        for (int i = 0; i < bytes.length - 1; i++) {
            c = (5 * c + bytes[i]) % 251;
        }
        bytes[bytes.length - 1] = c;
        return bytes;
    }

    private static void newObject() {
        begin(1);
        due("NONE", NONE, -1);
        for (int what = 0; what < 10; what++) {
            due("has(" + what + ")", x.has(what), 0);
        }
        due("has(10)", x.has(10), 1);
        due("thing(0, 0)", x.thing(0, 0), NONE);
        due("root(0)", x.root(0), NONE);
        due("clean()", x.clean(), 0);
    }

    private static void feed() {
        begin(2);
        due("feed", x.feed(-1, 0, 0x01020304, 0, 0), 20);
        for (int i = 2; i <= 80; i++) {
            due("feed", x.feed(0, 0, 0, 0, 0), 20 * i);
        }
        due("feed beyond 1600", x.feed(0, 0, 0, 0, 0), NONE);
        due("status(0)", x.status(0), 1);
        due("end(1600)", x.end(1600), true);
        x.end(1581);
        due("feed to 1601", x.feed(0, 0, 0, 0, 0), NONE);
        x.end(1580);
        due("feed to 1600", x.feed(0, 0, 0, 0, 0), 1600);
        // The highest byte is first: "unit", "s 9;" and blanks.
        x.end(0);
        due("feed", x.feed('u' << 24 | 'n' << 16 | 'i' << 8 | 't', 's' << 24 | ' ' << 16 | '9' << 8 | ';', 0x20202020,
            0x20202020, 0x20202020), 20);
        due("heap()", x.heap(), 1);
        due("feed after heap()", x.feed(0, 0, 0, 0, 0), 20);
    }

    private static void end() {
        begin(3);
        due("end(0)", x.end(0), true);
        due("end(1)", x.end(1), false);
        due("end(-1)", x.end(-1), false);
        due("status(0)", x.status(0), 2);
        x.feed(0, 0, 0, 0, 0);
        due("end(21)", x.end(21), false);
        due("end(20)", x.end(20), true);
        due("end(3)", x.end(3), true);
        due("end(4)", x.end(4), false);
        due("feed", x.feed(0, 0, 0, 0, 0), 23);
        due("end(min)", x.end(Integer.MIN_VALUE), false);
        due("status(0)", x.status(0), 5);
    }

    private static void heapCall() {
        begin(4);
        due("heap() of nothing", x.heap(), NONE);
        due("status(1)", x.status(1), 1);
        due("heap()", heap(THREE), 7);
        x.seed(77);
        x.steps(1);
        put(0, 2, 2);
        due("meet()", x.meet(), 1);
        due("heap() with a fault", heap("units 8;thing"), NONE);
        due("all stays: things", x.has(1), 2);
        due("all stays: step", x.has(6), 1);
        due("all stays: kept", x.has(7), 1);
        due("all stays: met", x.has(8), 1);
        due("all stays: acts", x.has(9), 1);
        due("all stays: letter", x.letter(2, 0), 3);
        due("the tape goes", x.end(1), false);
        x.image();
        due("heap() anew", heap("units 12 ;\nnext;next;thing abc size 12;next;next;"), 6);
        for (int what = 6; what <= 9; what++) {
            due("has(" + what + ")", x.has(what), 0);
        }
        due("units", x.has(0), 12);
        due("trains", x.has(3), 1);
        due("the seed stays", x.has(10), 77);
        due("refusals stay", x.status(1), 2);
        due("the latest image stays", x.octet(1), 1);
        due("a root is none", x.root(0), NONE);
        x.make(1, 0);
        due("an empty train is none", x.thing(1, 1), 0);
        told(FUTILE);
        x.steps(1);
        told(FUTILE);
        due("none is marked", x.thing(1, 7), 0);
        due("none is old", x.thing(1, 6), 0);
        String sum = "1" + "+1".repeat(40);
        for (int i = 0; i < 9; i++) {
            told("units 9;thing a size 3;root a;costs " + sum + ";pops " + sum + "<" + sum + ";");
        }
        due("the ninth text", x.later(1, 3), 41);
        sum = "1" + "+1".repeat(700);
        told("units 9;thing a size 3;root a;costs " + sum + "-700+" + "min(0,1)*".repeat(10) + "1;");
        due("a long text", x.later(1, 3), 1);
    }

    private static void faultsOfWords() {
        begin(5);
        due("fault(0) ahead of any", x.fault(0), 0);
        due("fault(1) ahead of any", x.fault(1), NONE);
        due("fault(2)", x.fault(2), NONE);
        due("fault(-1)", x.fault(-1), NONE);
        faulty("", 1, 0);
        faulty(" \n ", 1, 3);
        faulty("thing a size 3;", 1, 0);
        faulty("units 8", 1, 7);
        faulty("units 8;  ;", 1, 10);
        faulty("units 8;units 8;", 1, 8);
        faulty("units;", 1, 5);
        faulty("units8;", 1, 5);
        faulty("units 8thing", 1, 7);
        faulty("Units 8;", 1, 0);
        faulty("units 8;\tnext;", 1, 8);
        faulty("units 8;thing A size 3;", 1, 14);
        faulty("units 8;thing sevenab size 3;", 1, 20);
        faulty("units 8;abcdefgh;", 1, 14);
        faulty("units abcdefgh;", 1, 12);
        faulty("units 00008;", 1, 10);
        faulty("units 8;next 12345;", 1, 17);
        faulty("units 8;thing thing size 3;", 1, 14);
        faulty("units 8;thing load size 3;", 1, 14);
        faulty("units 8;thing a;", 1, 15);
        faulty("units 8;thing a size 3;link a a;", 1, 30);
        faulty("units 8;thing a size 3;link a to size;", 1, 33);
        faulty("units 8;nex", 1, 8);
        faulty("units 8;\u00e9;", 1, 8);
        good("units 0008;");
        due("fault(1) without", x.fault(1), NONE);
        good("\n units\n8\n;\nthing sixabc size 8;link sixabc to sixabc;root sixabc;");
    }

    private static void faultsOfKinds() {
        begin(5);
        faulty("units 8;thing a size 3;thing b size 3;thing a", 2, 44);
        faulty("units 8;link a", 3, 13);
        faulty("units 8;thing a size 3;link a to b", 3, 33);
        faulty("units 8;root b", 3, 13);
        faulty("units 7", 4, 6);
        faulty("units 100", 4, 6);
        faulty("units 8;thing a size 9", 4, 21);
        faulty("units 8;thing a size 0", 4, 21);
        faulty("units 8;churn 101", 4, 14);
        good("units 99;thing a size 99;churn 100;churn 0;");
        faulty("units 8;thing a size 3;link a to a;link a to a;link a to a;link a to a;link a", 6, 71);
        faulty("units 8;pops all;next;pops", 6, 22);
        faulty("units 8;fresh all;fresh", 6, 18);
        faulty("units 8;costs 1;costs", 6, 16);
        faulty("units 8;thing a size 3;" + "root a;".repeat(8) + "root", 6, 79);
        StringBuilder things = new StringBuilder("units 8;");
        for (char c = 'a'; c < 'a' + 24; c++) {
            things.append("thing ").append(c).append(" size 1;");
        }
        good(things.toString());
        due("THINGS", x.has(1), 24);
        faulty(things + " thing", 6, things.length() + 1);
        String eighty = "units 8;" + "next;".repeat(79);
        due("80 STATEMENTS", heap(eighty), 80);
        good(eighty + "\n ");
        faulty(eighty + " next;", 6, eighty.length() + 1);
        faulty(eighty + "units 9;", 6, eighty.length());
        faulty(eighty + "abcdefgh", 6, eighty.length());
    }

    private static void faultsOfSums() {
        begin(5);
        faulty("units 8;pops load>1;", 1, 13);
        faulty("units 8;fresh size>1;", 1, 14);
        faulty("units 8;fresh refs>1;", 1, 14);
        faulty("units 8;fresh age>1;", 1, 14);
        faulty("units 8;costs trains;", 1, 14);
        faulty("units 8;costs all;", 1, 14);
        faulty("units 8;costs 1<2;", 1, 15);
        faulty("units 8;pops 1;", 1, 14);
        faulty("units 8;pops 1<2<3;", 1, 16);
        faulty("units 8;pops (1<2);", 1, 15);
        faulty("units 8;pops [1];", 1, 15);
        faulty("units 8;pops all or;", 1, 19);
        faulty("units 8;pops all 1<2;", 1, 17);
        faulty("units 8;pops 1<2and all;", 1, 16);
        faulty("units 8;pops not3<4;", 1, 16);
        faulty("units 8;costs -1;", 1, 14);
        faulty("units 8;costs min 1;", 1, 18);
        faulty("units 8;costs min(1;", 1, 19);
        faulty("units 8;costs min(1,2,3);", 1, 21);
        faulty("units 8;costs if(1,2,3);", 1, 18);
        faulty("units 8;costs if(all,2);", 1, 22);
        faulty("units 8;costs a;", 1, 14);
        faulty("units 8;costs (1;", 1, 16);
        faulty("units 8;costs 1);", 1, 15);
        good("units 8;costs (((((((1)))))));");
        good("units 8;costs (1)+(2)+(3)+(4)+(5)+(6)+(7)+(8)+(9);");
        faulty("units 8;costs ((((((((", 5, 21);
        faulty("units 8;costs (((((((min(", 5, 24);
        good("units 8;pops not not not not not not not all;");
        good("units 8;pops not not not not not not not all and not not all or not all;");
        faulty("units 8;pops not not not not not not not not", 5, 41);
        faulty("units 8;pops [[[not[if([[1", 5, 24);
        faulty("units 8;pops [[[[[[[[", 5, 20);
        faulty("units 8;costs ((((((([", 1, 21);
        good("units 8;pops if ( all , step , age ) < max ( size , refs ) ;fresh[load=cars]or trains>0;costs 9999;");
    }

    private static void has() {
        begin(6);
        told(SIX);
        int[] want = {10, 6, 3, 2, 4, 27, 0, 0, 0, 0, 1};
        for (int what = 0; what < want.length; what++) {
            due("has(" + what + ")", x.has(what), want[what]);
        }
        x.steps(2);
        x.aim(7, 3);
        x.seed(5);
        put(0, 0, 0, 1, 1, 1);
        x.meet();
        int[] then = {10, 4, 3, 1, 2, 19, 2, 2, 2, 2, 5};
        for (int what = 0; what < then.length; what++) {
            due("has(" + what + ")", x.has(what), then[what]);
        }
        due("has(11)", x.has(11), NONE);
        due("has(-1)", x.has(-1), NONE);
    }

    private static void letter() {
        begin(7);
        told("units 8;thing abcxyz size 1;thing m size 2;");
        int[] want = {1, 2, 3, 24, 25, 26};
        for (int k = 0; k < 6; k++) {
            due("letter(0, " + k + ")", x.letter(0, k), want[k]);
            due("letter(1, " + k + ")", x.letter(1, k), k == 0 ? 13 : 0);
        }
        due("letter(0, 6)", x.letter(0, 6), NONE);
        due("letter(0, -1)", x.letter(0, -1), NONE);
        due("letter(2, 0)", x.letter(2, 0), NONE);
        due("letter(-1, 0)", x.letter(-1, 0), NONE);
        x.steps(1);
        due("it fell", x.thing(0, 0), NONE);
        due("letter(0, 0) of a fallen one", x.letter(0, 0), 1);
        due("a made one has none", x.make(1, 0), 0);
        x.make(1, 1);
        due("made", x.make(1, 2), 2);
        due("letter(2, 0) of a made one", x.letter(2, 0), NONE);
    }

    private static void thing() {
        begin(8);
        told(THREE + "link c to a;link a to b;link b to a;link a to a;pops refs=2 and age<2;");
        int[] a = {4, 0, 0, 0, 1, 2, 0, 0, 1};
        int[] b = {3, 0, 0, 1, 1, 0, 0, 0, 0};
        int[] c = {5, 1, 0, 0, 1, 1, 0, 0, 0};
        for (int what = 0; what < 9; what++) {
            due("thing(0, " + what + ")", x.thing(0, what), a[what]);
            due("thing(1, " + what + ")", x.thing(1, what), b[what]);
            due("thing(2, " + what + ")", x.thing(2, what), c[what]);
        }
        due("thing(0, 9)", x.thing(0, 9), NONE);
        due("thing(0, -1)", x.thing(0, -1), NONE);
        due("thing(3, 0)", x.thing(3, 0), NONE);
        due("thing(-1, 0)", x.thing(-1, 0), NONE);
        due("thing(40, 0)", x.thing(40, 0), NONE);
        due("thing(64, 0)", x.thing(64, 0), NONE);
        told(FUTILE);
        x.steps(1);
        due("marked", x.thing(1, 7), 1);
        due("not marked", x.thing(0, 7), 0);
        due("age", x.thing(0, 6), 1);
        due("pops without text", x.thing(0, 8), 0);
        told("units 8;thing a size 1;root a;root a;root a;");
        due("refs 3 is not above 3", x.thing(0, 8), 0);
        x.aim(3, 0);
        due("refs 4 is", x.thing(0, 8), 1);
        due("step by step", x.steps(60) + x.steps(39), 0);
        due("age 99", x.thing(0, 6), 99);
        x.steps(1);
        due("age 99 at most", x.thing(0, 6), 99);
    }

    private static void links() {
        begin(9);
        told("units 8;thing a size 1;thing b size 1;link a to b;link a to a;link a to b;root a;");
        due("link(0, 0)", x.link(0, 0), 1);
        due("link(0, 1)", x.link(0, 1), 0);
        due("link(0, 2)", x.link(0, 2), 1);
        due("link(0, 3)", x.link(0, 3), NONE);
        due("link(1, 0)", x.link(1, 0), NONE);
        due("link(0, 4)", x.link(0, 4), NONE);
        due("link(0, -1)", x.link(0, -1), NONE);
        due("link(1, -1)", x.link(1, -1), NONE);
        due("link(2, 0)", x.link(2, 0), NONE);
        due("link(-1, 4)", x.link(-1, 4), NONE);
        due("link(40, 0)", x.link(40, 0), NONE);
    }

    private static void roots() {
        begin(10);
        told("units 8;thing a size 1;thing b size 1;root b;root a;root b;");
        due("root(0)", x.root(0), 1);
        due("root(1)", x.root(1), 0);
        due("root(2)", x.root(2), 1);
        due("root(3)", x.root(3), NONE);
        due("root(8)", x.root(8), NONE);
        due("root(-1)", x.root(-1), NONE);
    }

    private static void trains() {
        begin(11);
        told(THREE + "thing d size 6;link a to b;link b to c;link d to c;link c to b;root a;root a;");
        int[] first = {1, 2, 7, 4};
        int[] second = {2, 2, 11, 2};
        for (int what = 0; what < 4; what++) {
            due("train(0, " + what + ")", x.train(0, what), first[what]);
            due("train(1, " + what + ")", x.train(1, what), second[what]);
        }
        due("train(0, 4)", x.train(0, 4), NONE);
        due("train(0, -1)", x.train(0, -1), NONE);
        due("train(2, 0)", x.train(2, 0), NONE);
        due("train(-1, 0)", x.train(-1, 0), NONE);
    }

    private static void cars() {
        begin(12);
        told(THREE + "thing d size 6;link a to b;link b to c;link d to c;link c to b;root a;root a;");
        int[] ab = {2, 7, 4};
        int[] c = {1, 5, 3};
        int[] d = {1, 6, 0};
        for (int what = 0; what < 3; what++) {
            due("car(0, 0, " + what + ")", x.car(0, 0, what), ab[what]);
            due("car(1, 0, " + what + ")", x.car(1, 0, what), c[what]);
            due("car(1, 1, " + what + ")", x.car(1, 1, what), d[what]);
        }
        due("car(0, 0, 3)", x.car(0, 0, 3), NONE);
        due("car(0, 0, -1)", x.car(0, 0, -1), NONE);
        due("car(0, 1, 0)", x.car(0, 1, 0), NONE);
        due("car(0, -1, 0)", x.car(0, -1, 0), NONE);
        due("car(2, 0, 0)", x.car(2, 0, 0), NONE);
        due("car(-1, 0, 0)", x.car(-1, 0, 0), NONE);
        told("units 8;thing a size 5;thing b size 3;thing c size 1;");
        due("a car may be full", x.car(0, 0, 1), 8);
        due("a car holds no more", x.car(0, 1, 0), 1);
    }

    private static void falls() {
        begin(13);
        told(SIX);
        due("falls(0)", x.falls(0), 1);
        due("falls(1)", x.falls(1), 1);
        due("falls(5)", x.falls(5), 4);
        due("falls(2)", x.falls(2), NONE);
        due("falls(6)", x.falls(6), NONE);
        due("falls(-1)", x.falls(-1), NONE);
        due("nothing has changed", x.has(1), 6);
        x.steps(1);
        due("falls(5) one on", x.falls(5), 3);
        due("falls(0) of a fallen one", x.falls(0), NONE);
        x.undo();
        due("falls(5) undone", x.falls(5), 4);
    }

    private static void clean() {
        begin(14);
        told(SIX);
        due("clean()", x.clean(), 4);
        x.steps(4);
        due("clean() now", x.clean(), 0);
        x.aim(0, NONE);
        due("clean() of what is rubbish by now", x.clean() > 0, true);
        told("units 8;thing a size 8;");
        for (int i = 0; i < 16; i++) {
            x.steps(60);
        }
        due("step 960", x.has(6), 960);
        x.steps(39);
        due("nothing to fall", x.clean(), 0);
        x.make(8, 0);
        due("a live one", x.clean(), 0);
        x.aim(0, NONE);
        due("no step comes", x.clean(), NONE);
        due("falls none", x.falls(0), NONE);
    }

    private static void later() {
        begin(15);
        due("later(0, 0) without a heap", x.later(0, 0), NONE);
        told(THREE);
        int[][] want = {{2, 2, 3, 0, 0}, {1, 1, 2, 4, 0}, {1, 1, 2, 13, 0}};
        for (int n = 0; n < 3; n++) {
            for (int what = 0; what < 5; what++) {
                due("later(" + n + ", " + what + ")", x.later(n, what), want[n][what]);
            }
        }
        due("later(60, 3)", x.later(60, 3), 4 + 59 * 9);
        due("later(61, 0)", x.later(61, 0), NONE);
        due("later(-1, 0)", x.later(-1, 0), NONE);
        due("later(1, 5)", x.later(1, 5), NONE);
        due("later(1, -1)", x.later(1, -1), NONE);
        told(FUTILE);
        due("later(1, 4)", x.later(1, 4), 1);
        due("later(2, 4)", x.later(2, 4), 1);
        due("later(1, 3)", x.later(1, 3), 8);
        told("units 8;");
        due("without a train no step is futile", x.later(9, 4), 0);
        for (int i = 0; i < 16; i++) {
            x.steps(60);
        }
        due("later(39, 0)", x.later(39, 0), 0);
        due("not beyond 999", x.later(40, 0), NONE);
        told("units 10;thing a size 4;root a;costs size-9;");
        due("costs below 0", x.later(3, 3), 0);
        told("units 10;thing a size 4;root a;costs size*99;");
        due("costs above 99", x.later(3, 3), 3 * 99);
        told("units 10;thing a size 4;root a;costs step*10+refs*3+age+size;");
        due("costs by step, refs, age, size", x.later(3, 3), 7 + 18 + 29);
    }

    private static void sums() {
        String[][] rows = {{"7/2", "3"}, {"(0-7)/2+9", "5"}, {"7/(0-2)+9", "5"}, {"7%3", "1"}, {"(0-7)%3", "2"},
            {"7%(0-3)+9", "7"}, {"5/0", "0"}, {"5%0", "0"}, {"9-3-2", "4"}, {"2+3*4", "14"}, {"2*3%4", "2"},
            {"20/3*3", "18"}, {"9999*9999/9999", "99"}, {"(9999*9999)-(9999*100)", "99"},
            {"(0-9999*9999)+9999*99+9999+101", "1"}, {"(0-9999*9999)+9999*100+109", "9"}, {"min(3,4)+max(5,6)", "9"},
            {"if(1<2,3,4)", "3"}, {"if(2<1,3,4)", "4"}, {"if(1=1 and 2>1,3,4)", "3"},
            {"if(all or all and 1=2,3,4)", "3"}, {"if([all or all]and 1=2,3,4)", "4"}, {"if(not 1=2,3,4)", "3"},
            {"if(not all or all,3,4)", "3"}, {"if(not[all or all],3,4)", "4"}, {"if(1=2 or 1=2 or 1=1,3,4)", "3"},
            {"if(1>1,3,4)", "4"}, {"if(1<1,3,4)", "4"}, {"1-2+3", "2"}, {"0012", "12"}};
        promise = 15;
        for (String[] row : rows) {
            told("units 10;thing a size 4;root a;costs " + row[0] + ";");
            due("costs " + row[0], x.later(1, 3), Integer.parseInt(row[1]));
        }
    }

    private static void retains() {
        begin(16);
        told(SIX);
        int[] want = {0, 0, 2, 3, 1, 0};
        for (int t = 0; t < 6; t++) {
            due("retains(" + t + ")", x.retains(t), want[t]);
        }
        due("retains(6)", x.retains(6), NONE);
        due("retains(-1)", x.retains(-1), NONE);
        x.aim(1, 4);
        due("retains(2) of less", x.retains(2), 1);
        due("retains(3) of less", x.retains(3), 2);
    }

    private static void holder() {
        begin(17);
        due("holder(0) without", x.holder(0), NONE);
        due("holder(2) without", x.holder(2), NONE);
        told(SIX);
        due("holder(0)", x.holder(0), NONE);
        due("holder(1)", x.holder(1), 0);
        due("holder(2)", x.holder(2), 3);
        due("holder(3)", x.holder(3), NONE);
        due("holder(-1)", x.holder(-1), NONE);
        x.aim(1, 3);
        due("a link: its thing", x.holder(0), 3);
        due("a link: its number", x.holder(1), 0);
        due("a link: how many", x.holder(2), 2);
        due("nothing has changed", x.has(2), 3);
        told("units 8;thing a size 1;root a;root a;");
        x.aim(0, NONE);
        x.aim(2, 0);
        due("none is lost: the first root that is to one", x.holder(1), 1);
        due("none is lost", x.holder(2), 0);
        x.aim(1, NONE);
        x.aim(2, NONE);
        due("no root is to a thing", x.holder(2), NONE);
    }

    private static void far() {
        begin(18);
        told("units 9;thing a size 1;thing b size 1;thing c size 1;thing d size 1;thing e size 1;"
            + "link a to b;link b to c;link c to d;link e to a;link a to a;root a;");
        int[] want = {0, 1, 2, 3, NONE};
        for (int t = 0; t < 5; t++) {
            due("far(" + t + ")", x.far(t), want[t]);
        }
        due("far(5)", x.far(5), NONE);
        due("far(-1)", x.far(-1), NONE);
        x.set(0, 2, 3);
        due("a shorter way", x.far(3), 1);
    }

    private static void ring() {
        begin(19);
        told(SIX);
        int[] want = {1, 1, 0, 0, 0, 1};
        for (int t = 0; t < 6; t++) {
            due("ring(" + t + ")", x.ring(t), want[t]);
        }
        due("ring(6)", x.ring(6), NONE);
        due("ring(-1)", x.ring(-1), NONE);
        x.set(4, 3, 3);
        due("a ring of three", x.ring(2), 1);
    }

    private static void odds() {
        begin(20);
        due("odds(-1) without", x.odds(-1), NONE);
        told(SIX);
        due("odds(-1)", x.odds(-1), 3600);
        due("odds(2)", x.odds(2), 50 * 34 + 50 * 36);
        due("odds(3)", x.odds(3), 3600);
        due("odds(4)", x.odds(4), 3450);
        due("odds(0)", x.odds(0), 0);
        due("odds(6)", x.odds(6), NONE);
        due("odds(-2)", x.odds(-2), NONE);
        due("nothing has changed", x.link(3, 0), 2);
        told(SIX);
        told("units 8;thing a size 1;thing b size 1;link a to b;root a;");
        told("units 8;thing a size 1;thing b size 1;link a to b;root a;");
        due("without churn, though the text before had it", x.odds(1), x.odds(-1));
        x.aim(0, NONE);
        due("odds(-1) without live things", x.odds(-1), NONE);
        due("odds(0) without live things", x.odds(0), NONE);
    }

    private static void meet() {
        begin(21);
        due("meet() of nothing", x.meet(), NONE);
        put(20, 2, 40, 0, 0, 0);
        due("meet()", x.meet(), 2);
        due("the tape goes", x.end(1), false);
        due("has(8)", x.has(8), 2);
        int[][] bad = {{21, 0, 0}, {0, 3, 0}, {0, 0, 41}, {0, 0}, {0, 0, 0, 0}, new int[51], {255, 0, 0}};
        for (int[] rows : bad) {
            put(rows);
            due("meet() of a wrong one", x.meet(), NONE);
        }
        due("status(5)", x.status(5), 8);
        due("has(8) stays", x.has(8), 2);
        put(new int[48]);
        due("meet() of 16 rows", x.meet(), 16);
    }

    private static void sizes() {
        begin(22);
        due("sizes(0, -1)", x.sizes(0, -1), NONE);
        told(THREE);
        due("all", x.sizes(0, -1), 10);
        due("the first", x.sizes(0, 0), 1);
        due("the last", x.sizes(0, 9), 10);
        due("none such", x.sizes(0, 10), NONE);
        due("none such", x.sizes(0, -2), NONE);
        due("none such", x.sizes(3, -1), NONE);
        // a goes to c (5) in the second train: one car, if it takes no more than 5.
        put(1, 1, 1);
        x.meet();
        due("sizes(0, -1)", x.sizes(0, -1), 5);
        due("sizes(0, 4)", x.sizes(0, 4), 5);
        put(1, 1, 2, 1, 2, 2);
        x.meet();
        due("sizes(0, -1)", x.sizes(0, -1), 5);
        due("sizes(0, 0)", x.sizes(0, 0), 6);
        // c beside a (4): behind the second step both are laid anew.
        due("sizes(2, -1)", x.sizes(2, -1), 4);
        due("sizes(2, 0)", x.sizes(2, 0), 7);
        put(1, 1, 9);
        x.meet();
        due("none left", x.sizes(0, -1), 0);
        due("none left", x.sizes(0, 0), NONE);
        put(99, 1, 9);
        x.meet();
        due("a refused one does not count", x.sizes(0, -1), 0);
        told(THREE);
        due("another heap: all", x.sizes(0, -1), 10);
        for (int i = 0; i < 16; i++) {
            x.steps(60);
        }
        x.steps(38);
        put(1, 2, 2);
        x.meet();
        due("step 999 comes", x.sizes(0, -1), 10);
        put(2, 2, 2);
        x.meet();
        due("beyond 999 by none", x.sizes(0, -1), 0);
        told("units 99;thing a size 4;root a;");
        due("of 99 units", x.sizes(0, -1), 99);
        due("the last of 99", x.sizes(0, 98), 99);
        // In one car with b, but at the 20th step what is above 3 stays in a car of its own.
        told(LATE);
        put(20, 1, 2);
        x.meet();
        due("by 20 steps", x.sizes(0, -1), 5);
        due("by 20 steps", x.sizes(0, 0), 4);
        put(19, 1, 2);
        x.meet();
        due("by 19 steps", x.sizes(0, -1), 2);
        due("by 19 steps", x.sizes(0, 1), 8);
    }

    private static void sizesOfMany() {
        promise = 22;
        crowd();
        put(0, 2, 40);
        x.meet();
        due("40 things now", x.sizes(39, -1), 8);
        put(1, 2, 40);
        x.meet();
        due("none of them falls", x.sizes(39, -1), 8);
        due("what tells most", x.tells(39, 2) >= 1 && x.tells(39, 2) <= 8, true);
    }

    private static void tells() {
        begin(23);
        due("tells(0, 0)", x.tells(0, 0), NONE);
        told(THREE);
        // Behind one step cars are 1 by sizes 1 .. 5, 2 by 6 .. 10: no number tells more.
        due("tells(0, 0)", x.tells(0, 0), 1);
        due("tells(0, 1)", x.tells(0, 1), 1);
        due("tells(0, 2)", x.tells(0, 2), 5);
        due("tells(0, 3)", x.tells(0, 3), NONE);
        due("tells(0, -1)", x.tells(0, -1), NONE);
        due("tells(3, 0)", x.tells(3, 0), NONE);
        // What falls tells nothing: the first number of the first step.
        due("tells(1, 0)", x.tells(1, 0), 1);
        due("tells(1, 1)", x.tells(1, 1), 0);
        due("tells(1, 2)", x.tells(1, 2), 10);
        put(1, 1, 1);
        x.meet();
        due("by MET", x.tells(0, 2), 5);
        due("by MET the first of like ones", x.tells(0, 1), 0);
        put(1, 1, 7);
        x.meet();
        due("none left", x.tells(0, 0), NONE);
        told(THREE);
        for (int i = 0; i < 16; i++) {
            x.steps(60);
        }
        x.steps(38);
        due("one step comes", x.tells(0, 0), 1);
        x.steps(1);
        due("no step comes", x.tells(0, 0), NONE);
        told(LATE);
        due("the 20th step", x.tells(0, 0), 20);
        due("by cars", x.tells(0, 1), 1);
        due("4 .. 8", x.tells(0, 2), 5);
        told("units 99;thing a size 4;root a;");
        due("all of 99", x.tells(0, 2), 99);
        tellsOfMany();
    }

    /** 40 cars of one thing each; the first thing goes to the last of them, and fits in by 1 .. 3 alone. */
    private static void tellsOfMany() {
        begin(23);
        told("units 8;");
        x.make(5, 7);
        for (int i = 1; i < 40; i++) {
            due("make", x.make(5, i % 2), i);
            due("set", x.set(i, 0, i - 1), true);
        }
        due("40 cars", x.has(4), 40);
        due("40 cars behind a step", x.later(1, 1), 40);
        due("one step", x.tells(0, 0), 1);
        due("by cars", x.tells(0, 1), 1);
        due("4 .. 8", x.tells(0, 2), 5);
    }

    private static void steps() {
        begin(24);
        due("steps(1) without a heap", x.steps(1), NONE);
        told(THREE);
        due("steps(0)", x.steps(0), NONE);
        due("steps(61)", x.steps(61), NONE);
        due("steps(-1)", x.steps(-1), NONE);
        due("status(2)", x.status(2), 4);
        due("steps(2)", x.steps(2), 1);
        due("one act", x.has(9), 1);
        rides(2, 0, 0, 0);
        rides(0, 0, 0, 1);
        kept(0, 0, 1, 1);
        kept(1, 1, 0, 2);
        told(FUTILE);
        due("steps(1)", x.steps(1), 0);
        rides(1, 0, 0, 0);
        rides(0, 0, 1, 0);
        due("steps(1)", x.steps(1), 0);
        rides(0, 0, 0, 0);
        rides(1, 1, 0, 0);
        due("marked no more", x.thing(1, 7), 0);
        told(FUTILE);
        x.steps(1);
        x.aim(0, NONE);
        due("a marked one falls with its train", x.steps(1), 2);
        x.make(1, 0);
        due("make", x.make(1, 1), 1);
        due("a new one is not marked", x.thing(1, 7), 0);
        told("units 8;");
        for (int i = 0; i < 16; i++) {
            x.steps(60);
        }
        due("beyond 999", x.steps(40), NONE);
        due("up to 999", x.steps(39), 0);
        due("STEP", x.has(6), 999);
        due("none more", x.steps(1), NONE);
    }

    private static void rulesOfSteps() {
        promise = 24;
        told("units 8;thing a size 8;thing b size 8;next;thing c size 4;link b to a;link c to b;root c;");
        x.steps(1);
        due("marked by a link from another train", x.thing(1, 7), 1);
        x.set(2, 0, 0);
        due("b is rubbish", x.thing(1, 4), 0);
        due("what is marked goes all the same", x.steps(1), 0);
        rides(1, 1, 1, 0);
        due("marked no more", x.thing(1, 7), 0);
        // Roots go first, then what others refer to, to the first of their trains.
        told("units 9;thing a size 3;thing b size 3;thing c size 3;next;thing d size 3;next;thing e size 3;"
            + "link e to a;link d to a;link e to b;root c;root e;root d;");
        x.steps(1);
        rides(3, 0, 0, 0);
        rides(0, 0, 0, 1);
        rides(4, 1, 0, 0);
        rides(2, 1, 0, 1);
        rides(1, 1, 0, 2);
        // Those that stay share a car behind the train of the first; links among them are from out of it once.
        told("units 9;thing a size 3;thing b size 3;thing c size 3;next;thing d size 9;link d to b;link d to a;"
            + "root d;pops all;");
        due("the rest falls", x.steps(1), 1);
        rides(3, 0, 0, 0);
        rides(0, 0, 1, 0);
        rides(1, 0, 1, 1);
        due("staying costs nothing", x.later(5, 3), 0);
        // A new train has no car yet, but it is the last one: b goes to it, a's car comes behind.
        told("units 9;thing a size 3;thing b size 4;root a;root b;pops size=3;");
        x.steps(1);
        due("one train", x.has(3), 1);
        rides(1, 0, 0, 0);
        rides(0, 0, 1, 0);
        // What stays by a link from its own train stays there: it is futile all the same.
        told("units 8;thing a size 8;thing b size 8;link b to a;root b;pops size=8;");
        due("futile", x.later(1, 4), 1);
        x.steps(1);
        rides(0, 0, 1, 0);
        due("marked", x.thing(1, 7), 1);
        // refs are by what is so then: when b is out of the car its link to a counts.
        told("units 9;thing a size 3;thing b size 3;link b to a;link b to a;link b to a;root a;root b;pops refs>3;");
        due("not yet popular", x.thing(0, 8), 0);
        x.steps(1);
        due("a went ahead of b", x.thing(0, 3), 0);
        told("units 9;thing b size 3;thing a size 3;link b to a;link b to a;link b to a;root a;root b;pops refs>3;");
        x.steps(1);
        rides(0, 0, 0, 0);
        rides(1, 0, 1, 0);
    }

    /** In their CAR they are as they were one behind the other, whichever STAYED first. */
    private static void orderOfThoseThatStay() {
        promise = 24;
        told("units 9;thing a size 1;thing b size 1;next;thing c size 1;link c to a;root b;root c;pops all;");
        due("none falls", x.steps(1), 0);
        rides(0, 0, 1, 0);
        rides(1, 0, 1, 1);
        // d stays first, then b, a; c goes from between them, e falls.
        told("units 9;thing a size 1;thing b size 1;thing c size 2;thing d size 1;thing e size 1;next;thing f size 3;"
            + "link d to b;link b to a;link f to c;root d;root f;pops size=1;");
        due("e falls", x.steps(1), 1);
        rides(5, 0, 0, 0);
        rides(2, 0, 0, 1);
        rides(0, 0, 1, 0);
        rides(1, 0, 1, 1);
        rides(3, 0, 1, 2);
        // The train is that of the one that stayed first, b, though a is ahead of it in the car.
        told("units 9;thing a size 1;thing b size 1;next;thing c size 2;next;thing d size 2;link c to a;root b;root c;"
            + "root d;pops size=1;");
        x.steps(1);
        rides(2, 0, 0, 0);
        rides(3, 1, 0, 0);
        rides(0, 1, 1, 0);
        rides(1, 1, 1, 1);
        // Once the step is over that car is one as others: more is laid in it, and it is emptied in its turn.
        due("make", x.make(1, 3), 4);
        rides(4, 1, 1, 2);
        due("steps(1)", x.steps(1), 0);
        rides(2, 0, 1, 3);
        due("steps(2)", x.steps(2), 0);
        rides(3, 0, 0, 0);
        rides(2, 0, 0, 1);
        rides(0, 0, 1, 0);
        rides(1, 0, 1, 1);
        rides(4, 0, 1, 2);
    }

    private static void chance() {
        begin(25);
        due("chance(1) without a heap", x.chance(1), NONE);
        told(SIX);
        due("chance(0)", x.chance(0), NONE);
        due("chance(61)", x.chance(61), NONE);
        due("status(2)", x.status(2), 3);
        // By seed 1 the first number is floor(1103527590 / 64) = 17242618.
        long seed = 1;
        long[] drawn = new long[4];
        int[] of = {100, 3, 4, 3};
        for (int i = 0; i < 4; i++) {
            seed = (1103515245L * seed + 12345L) % (1L << 31);
            drawn[i] = seed / 64 % of[i];
        }
        due("chance(1)", x.chance(1), drawn[0] < 50 ? 1 : 0);
        due("the first draw is below 50", drawn[0], 18);
        due("the seed", x.has(10), seed);
        int first = new int[] {2, 3, 4}[(int) drawn[1]];
        due("the link", x.link(first, (int) drawn[2]), new int[] {2, 3, 4}[(int) drawn[3]]);
        due("one act", x.has(9), 1);
        due("chance(9)", x.chance(9) <= 9, true);
        due("one act more", x.has(9), 2);
        told("units 8;thing a size 1;root a;churn 0;");
        x.seed(1);
        due("no churn", x.chance(2), 0);
        due("a draw each", x.has(10), after(1, 2));
        told("units 8;thing a size 1;churn 100;");
        x.seed(1);
        due("no live things", x.chance(2), 0);
        due("a draw each", x.has(10), after(1, 2));
        told("units 8;thing a size 1;root a;churn 100;");
        x.seed(1);
        due("churn each time", x.chance(60), 60);
        due("four draws each", x.has(10), after(1, 240));
    }

    private static long after(long seed, int draws) {
        for (int i = 0; i < draws; i++) {
            seed = (1103515245L * seed + 12345L) % (1L << 31);
        }
        return seed;
    }

    private static void make() {
        begin(26);
        due("make(1, 0) without a heap", x.make(1, 0), NONE);
        told(THREE);
        due("make(0, 0)", x.make(0, 0), NONE);
        due("make(11, 0)", x.make(11, 0), NONE);
        due("make(1, 8)", x.make(1, 8), NONE);
        due("make(1, -1)", x.make(1, -1), NONE);
        due("status(3)", x.status(3), 5);
        due("make(5, 0)", x.make(5, 0), 3);
        rides(3, 1, 0, 1);
        due("the root is to it", x.root(0), 3);
        due("what it was to is rubbish", x.thing(2, 4), 0);
        due("one act", x.has(9), 1);
        x.steps(1);
        due("the least that is free", x.make(1, 1), 1);
        due("age", x.thing(1, 6), 0);
        told("units 8;");
        due("without a train", x.make(8, 0), 0);
        rides(0, 0, 0, 0);
        for (int i = 1; i < 6; i++) {
            due("make", x.make(8, i), i);
            rides(i, i / 4, i % 4, 0);
        }
        for (int i = 6; i < 40; i++) {
            due("make", x.make(1, 7), i);
        }
        due("make with 40", x.make(1, 7), NONE);
        told("units 8;fresh load>7 or trains=2 and step=0;");
        due("make", x.make(7, 0) + x.make(1, 1), 1);
        rides(1, 0, 0, 1);
        x.make(1, 2);
        rides(2, 1, 0, 0);
        x.make(1, 3);
        rides(3, 2, 0, 0);
        x.make(1, 4);
        rides(4, 2, 0, 1);
    }

    private static void set() {
        begin(27);
        due("set(0, 0, -1) without a heap", x.set(0, 0, NONE), false);
        told(SIX);
        due("to a live one", x.set(4, 0, 3), true);
        due("so already", x.set(4, 0, 3), false);
        due("to none", x.set(4, 0, NONE), true);
        due("none already", x.set(4, 0, NONE), false);
        due("of rubbish", x.set(0, 0, 3), false);
        due("to rubbish", x.set(4, 0, 0), false);
        due("no such thing", x.set(6, 0, 3), false);
        due("no such thing", x.set(-1, 0, 3), false);
        due("no such link", x.set(4, 4, 3), false);
        due("no such link", x.set(4, -1, 3), false);
        due("to no such thing", x.set(4, 0, 6), false);
        due("to no such thing", x.set(4, 0, -2), false);
        due("status(3)", x.status(3), 11);
        due("acts", x.has(9), 2);
        due("set(3, 0, -1)", x.set(3, 0, NONE), true);
        due("c is rubbish", x.thing(2, 4), 0);
    }

    private static void aim() {
        begin(28);
        due("aim(0, -1) without a heap", x.aim(0, NONE), false);
        told(SIX);
        due("to a live one", x.aim(7, 4), true);
        due("so already", x.aim(7, 4), false);
        due("none already", x.aim(1, NONE), false);
        due("to rubbish", x.aim(1, 0), false);
        due("no such root", x.aim(8, 3), false);
        due("no such root", x.aim(-1, 3), false);
        due("no such root", x.aim(8, NONE), false);
        due("to no such thing", x.aim(1, 6), false);
        due("to no such thing", x.aim(1, -2), false);
        due("status(3)", x.status(3), 9);
        due("to none", x.aim(0, NONE), true);
        due("root(7)", x.root(7), 4);
        due("root(0)", x.root(0), NONE);
        due("live", x.has(2), 1);
        due("acts", x.has(9), 2);
    }

    private static void undo() {
        begin(29);
        due("undo()", x.undo(), false);
        due("status(4)", x.status(4), 1);
        told(SIX);
        int[] before = imageOf(x);
        x.chance(60);
        long seed = x.has(10);
        x.make(3, 5);
        x.set(5, 0, NONE);
        due("three acts", x.has(9) >= 2, true);
        while (x.has(9) > 0) {
            due("undo()", x.undo(), true);
        }
        due("the seed stays", x.has(10), seed);
        due("nothing is kept", x.has(7), 0);
        int[] then = imageOf(x);
        due("as long", then.length, before.length);
        for (int i = 0; i < before.length && i < then.length; i++) {
            due("byte " + i, then[i], before[i]);
        }
        x.steps(30);
        x.steps(25);
        due("told as kept", x.has(7), 40);
        due("the oldest", x.kept(0, 0), 15);
        x.undo();
        due("told as kept", x.has(7), 30);
        due("the oldest", x.kept(0, 0), 0);
        for (int i = 0; i < 25; i++) {
            x.steps(1);
        }
        due("20 at most", x.has(9), 20);
        for (int i = 0; i < 20; i++) {
            due("undo()", x.undo(), true);
        }
        due("no more", x.undo(), false);
        due("STEP", x.has(6), 35);
        x.aim(6, 3);
        x.heap();
        due("a refused heap() leaves it", x.undo(), true);
        due("root(6)", x.root(6), NONE);
    }

    private static void seed() {
        begin(30);
        due("seed(0)", x.seed(0), true);
        due("has(10)", x.has(10), 0);
        due("seed(max)", x.seed(Integer.MAX_VALUE), true);
        due("seed(-1)", x.seed(-1), false);
        due("status(5)", x.status(5), 1);
        due("has(10)", x.has(10), Integer.MAX_VALUE);
        due("seed(min)", x.seed(Integer.MIN_VALUE), false);
        told("units 8;");
        x.chance(1);
        due("by the highest seed", x.has(10), after(Integer.MAX_VALUE, 1));
    }

    private static void keptCall() {
        begin(31);
        due("kept(0, 0)", x.kept(0, 0), NONE);
        told(SIX);
        x.steps(1);
        x.chance(1);
        kept(0, 0, 2, 0);
        due("kept(1, 0)", x.kept(1, 0), 1);
        due("kept(0, 3)", x.kept(0, 3), NONE);
        due("kept(0, -1)", x.kept(0, -1), NONE);
        due("kept(2, 0)", x.kept(2, 0), NONE);
        due("kept(-1, 0)", x.kept(-1, 0), NONE);
        x.later(60, 0);
        due("what is ahead is not kept", x.has(7), 2);
        x.steps(60);
        due("the oldest of 40", x.kept(0, 0), 22);
        due("the latest", x.kept(39, 0), 61);
        due("kept(40, 0)", x.kept(40, 0), NONE);
        told("units 8;");
        x.steps(2);
        kept(1, 1, 0, 0);
    }

    private static void image() {
        begin(32);
        due("image() without a heap", x.image(), 51);
        told(SIX);
        due("image()", x.image(), 105);
        x.steps(1);
        due("image()", x.image(), 51 + 4 * 9);
    }

    private static void octet() {
        begin(33);
        due("octet(0) ahead of any", x.octet(0), NONE);
        told(FUTILE + "root a;link a to b;link a to a;");
        for (int i = 0; i < 5; i++) {
            x.steps(60);
        }
        x.aim(7, 1);
        int length = x.image();
        due("image()", length, 51 + 18);
        due("STEP", x.octet(0) * 256 + x.octet(1), 300);
        due("STEP's higher byte", x.octet(0), 1);
        due("root 0", x.octet(2), 1);
        due("root 1", x.octet(3), 0);
        due("root 2", x.octet(4), 255);
        due("root 7", x.octet(9), 1);
        int[] bytes = imageOf(x);
        for (int t = 0; t < 2; t++) {
            due("size", bytes[10 + 10 * t], 8);
            due("train", bytes[11 + 10 * t], x.thing(t, 1));
            due("car", bytes[12 + 10 * t], x.thing(t, 2));
            due("place", bytes[13 + 10 * t], x.thing(t, 3));
            due("age", bytes[14 + 10 * t], 99);
            due("marked", bytes[15 + 10 * t], x.thing(t, 7));
        }
        due("link", bytes[16], 1);
        due("link", bytes[17], 0);
        due("link", bytes[18], 255);
        due("link", bytes[26], 0);
        due("no thing", bytes[30], 0);
        int check = bytes[length - 1];
        due("the last byte", check, checked(bytes)[length - 1]);
        due("octet(length)", x.octet(length), NONE);
        due("octet(-1)", x.octet(-1), NONE);
        x.steps(1);
        due("the latest image", x.octet(1), 300 % 256);
        told(FUTILE);
        x.steps(1);
        x.image();
        due("marked", x.octet(25), 1);
    }

    private static int[] changed(int[] bytes, int at, int value) {
        int[] other = bytes.clone();
        other[at] = value;
        return checked(other);
    }

    private static void on() {
        begin(34);
        int[] empty = imageOf(x);
        put(empty);
        due("on() without a heap", x.on(), false);
        due("the tape goes", x.end(1), false);
        told(SIX);
        int[] first = imageOf(x);
        x.steps(3);
        put(0, 0, 2);
        x.meet();
        put(first);
        due("on()", x.on(), true);
        due("STEP", x.has(6), 0);
        due("THINGS", x.has(1), 6);
        due("nothing is kept", x.has(7), 0);
        due("no act can be undone", x.has(9), 0);
        due("MET stays", x.has(8), 1);
        int[] again = imageOf(x);
        for (int i = 0; i < first.length; i++) {
            due("byte " + i, again[i], first[i]);
        }
        x.steps(1);
        int refused = 0;
        int[][] bad = {new int[0], java.util.Arrays.copyOf(first, first.length - 1),
            checked(java.util.Arrays.copyOf(first, first.length + 1)), changed(first, 0, 4), changed(first, 10, 11),
            changed(first, 14, 100), changed(first, 15, 2), changed(first, 2, 6), changed(first, 2, 254),
            changed(first, 16, 6), changed(first, 11, 2), changed(first, 12, 2), changed(first, 13, 2),
            changed(first, 13, 1), changed(first, 10, 7), checked(java.util.Arrays.copyOf(first, 51)), first.clone()};
        bad[bad.length - 1][bad[bad.length - 1].length - 1] ^= 1;
        for (int[] bytes : bad) {
            put(bytes);
            due("on() of wrong one " + refused, x.on(), false);
            refused++;
            due("status(5)", x.status(5), refused + 1);
            due("all stays", x.has(6) * 10 + x.has(9), 11);
        }
        put(changed(changed(first, 0, 3), 1, 999 % 256));
        due("STEP 999", x.on(), true);
        due("STEP", x.has(6), 999);
        put(changed(changed(first, 0, 3), 1, 1000 % 256));
        due("STEP 1000", x.on(), false);
        put(changed(first, 14, 99));
        due("age 99", x.on(), true);
        due("age", x.thing(0, 6), 99);
        put(changed(first, 15, 1));
        due("a flag", x.on(), true);
        due("marked", x.thing(0, 7), 1);
        put(changed(first, 10, 6));
        due("a full car", x.on(), true);
        put(changed(first, 2, 255));
        due("no root", x.on(), true);
        due("rubbish", x.has(2), 0);
        put(empty);
        due("no things", x.on(), true);
        due("no trains", x.has(3), 0);
        due("letters stay", x.letter(0, 0), 1);
        told("units 8;thing a size 8;root a;");
        int[] small = imageOf(x);
        told("units 8;thing a size 8;thing b size 8;thing c size 8;link a to b;link b to c;root c;");
        x.steps(1);
        due("holder(0)", x.holder(0), NONE);
        put(small);
        due("fewer cars", x.on(), true);
        due("cars", x.has(4), 1);
        due("cars", x.train(0, 0), 1);
        due("none is marked", x.thing(0, 7), 0);
        begin(34);
        crowd();
        due("of 40 things", x.image(), 411);
        int[] most = imageOf(x);
        due("it is checked", most[410], checked(most.clone())[410]);
        x.steps(5);
        put(most);
        due("of 40 things", x.on(), true);
        due("40 things", x.has(1), 40);
        due("what they tell", x.tells(0, 2) > 0, true);
    }

    /** 40 things of one unit, each with a link to the one made before. */
    private static void crowd() {
        told("units 8;");
        for (int i = 0; i < 40; i++) {
            due("make", x.make(1, i % 2), i);
            due("set", i == 0 || x.set(i, 0, i - 1), true);
        }
    }

    private static void status() {
        begin(35);
        for (int what = 0; what < 6; what++) {
            due("status(" + what + ")", x.status(what), 0);
        }
        due("status(6)", x.status(6), NONE);
        due("status(-1)", x.status(-1), NONE);
        x.end(1);
        x.heap();
        x.heap();
        x.steps(1);
        x.chance(1);
        x.steps(99);
        x.make(1, 0);
        x.set(0, 0, 0);
        x.aim(0, 0);
        x.aim(0, 1);
        for (int i = 0; i < 5; i++) {
            x.undo();
        }
        x.seed(-1);
        x.meet();
        x.on();
        x.seed(-2);
        x.meet();
        x.on();
        for (int what = 0; what < 6; what++) {
            due("status(" + what + ")", x.status(what), what + 1);
        }
        x.later(99, 0);
        x.has(99);
        x.octet(-1);
        x.sizes(0, 0);
        for (int what = 0; what < 6; what++) {
            due("what only asks refuses nothing: status(" + what + ")", x.status(what), what + 1);
        }
    }

    public static void main(String[] args) {
        newObject();
        feed();
        end();
        heapCall();
        faultsOfWords();
        faultsOfKinds();
        faultsOfSums();
        has();
        letter();
        thing();
        links();
        roots();
        trains();
        cars();
        falls();
        clean();
        later();
        sums();
        retains();
        holder();
        far();
        ring();
        odds();
        meet();
        sizes();
        sizesOfMany();
        tells();
        steps();
        rulesOfSteps();
        orderOfThoseThatStay();
        chance();
        make();
        set();
        aim();
        undo();
        seed();
        keptCall();
        image();
        octet();
        on();
        status();
        System.out.println(wrong == 0 ? "all answers are as due" : wrong + " answers are not as due");
        if (wrong != 0) {
            System.exit(1);
        }
    }
}
