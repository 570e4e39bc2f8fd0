import java.util.ArrayList;
import java.util.Arrays;
import java.util.List;

/**
 * Each call that is refused: what it answers, what status tells then, and that all else stays as it was. Two objects
 * are played alike, the second one with the refused call; then all that can be asked is asked of both. As an object is
 * good for 512 calls, what is asked is cut into parts, each asked of two objects of its own.
 */
public final class RefusalTest extends Probe {
    private static final int PARTS = 9;
    private static final String FIVE = "units 8;thing a size 8;thing b size 2;thing c size 3;next;thing d size 4;thing e size 1;"
        + "link b to a;link b to d;link d to b;link c to b;link e to e;root b;root d;churn 60;pops refs>2;fresh cars>1;"
        + "costs size+refs;";

    private interface Play {
        void with(TrainCollector y);
    }

    private interface Call {
        int of(TrainCollector y);
    }

    /** How it was, how much of the tape goes by the call. */
    private record Scene(String name, Play play, int left) {
    }

    private static int bit(boolean b) {
        return b ? 1 : 0;
    }

    private static void heap(TrainCollector y, String text) {
        put(y, text);
        y.heap();
    }

    // ---- what there is to be asked

    private static List<Integer> asked(TrainCollector y, int part, int kind) {
        List<Integer> all = new ArrayList<>();
        switch (part) {
            case 0: counts(y, kind, all); break;
            case 1: things(y, all); break;
            case 2: namesAndLinks(y, all); break;
            case 3: ahead(y, all); break;
            case 4: holding(y, all); break;
            case 5: sizes(y, all); break;
            case 6: latestImage(y, all); break;
            case 7: image(y, all); break;
            default: back(y, all); break;
        }
        return all;
    }

    private static void counts(TrainCollector y, int kind, List<Integer> all) {
        for (int what = 0; what <= 10; what++) {
            all.add(y.has(what));
        }
        for (int what = 0; what < 6; what++) {
            all.add(what == kind ? 0 : y.status(what));
        }
        for (int what = 0; what < 2; what++) {
            all.add(kind == 1 ? 0 : y.fault(what));
        }
        for (int k = 0; k < 40; k++) {
            for (int what = 0; what < 3; what++) {
                all.add(y.kept(k, what));
            }
        }
        for (int r = 0; r < 8; r++) {
            all.add(y.root(r));
        }
        for (int t = 0; t < 10; t++) {
            for (int what = 0; what < 4; what++) {
                all.add(y.train(t, what));
                all.add(y.car(0, t, what));
            }
        }
    }

    private static void things(TrainCollector y, List<Integer> all) {
        for (int t = 0; t < 40; t++) {
            for (int what = 0; what < 9; what++) {
                all.add(y.thing(t, what));
            }
        }
    }

    private static void namesAndLinks(TrainCollector y, List<Integer> all) {
        for (int t = 0; t < 40; t++) {
            for (int k = 0; k < 4; k++) {
                all.add(y.link(t, k));
            }
            all.add(y.letter(t, 0));
            all.add(y.letter(t, 1));
            all.add(y.falls(t));
        }
    }

    private static void ahead(TrainCollector y, List<Integer> all) {
        for (int n = 0; n <= 60; n++) {
            for (int what = 0; what < 5; what++) {
                all.add(y.later(n, what));
            }
        }
        all.add(y.clean());
    }

    private static void holding(TrainCollector y, List<Integer> all) {
        for (int t = -1; t < 40; t++) {
            all.add(y.retains(t));
            all.add(y.far(t));
            all.add(y.ring(t));
            all.add(y.odds(t));
        }
        for (int what = 0; what < 3; what++) {
            all.add(y.holder(what));
        }
    }

    private static void sizes(TrainCollector y, List<Integer> all) {
        for (int t = 0; t < 40; t++) {
            for (int k = -1; k < 3; k++) {
                all.add(y.sizes(t, k));
            }
            for (int what = 0; what < 3; what++) {
                all.add(y.tells(t, what));
            }
        }
    }

    private static void latestImage(TrainCollector y, List<Integer> all) {
        for (int k = 0; k < 412; k++) {
            all.add(y.octet(k));
        }
    }

    private static void image(TrainCollector y, List<Integer> all) {
        all.add(y.image());
        latestImage(y, all);
    }

    /** What comes by the seed, then all ACTS undone. */
    private static void back(TrainCollector y, List<Integer> all) {
        all.add(y.chance(3));
        all.add(y.make(2, 7));
        all.add(y.has(10));
        for (int n = 0; n < 21; n++) {
            all.add(bit(y.undo()));
            all.add(y.has(1));
            all.add(y.has(2));
            all.add(y.has(6));
            all.add(y.has(7));
            all.add(y.has(9));
            all.add(y.kept(0, 0));
            all.add(y.clean());
        }
        all.add(y.image());
        for (int k = 0; k < 120; k++) {
            all.add(y.octet(k));
        }
    }

    // ---- the comparison

    private static void refused(String call, int kind, int answer, Scene scene, Call refusal) {
        String name = call + ", " + scene.name();
        for (int part = 0; part < PARTS; part++) {
            TrainCollector before = new TrainCollector();
            scene.play().with(before);
            TrainCollector after = new TrainCollector();
            scene.play().with(after);
            int count = after.status(kind);
            due(name, refusal.of(after), answer);
            due("status(" + kind + ") behind " + name, after.status(kind), count + 1);
            List<Integer> was = asked(before, part, kind);
            List<Integer> is = asked(after, part, kind);
            for (int i = 0; i < was.size(); i++) {
                due("what stays behind " + name + ", part " + part + ", " + i, is.get(i), was.get(i));
            }
        }
        tapeStays(name, scene, refusal);
    }

    private static void tapeStays(String name, Scene scene, Call refusal) {
        TrainCollector y = new TrainCollector();
        scene.play().with(y);
        refusal.of(y);
        due("end() of what is left of the tape behind " + name, y.end(scene.left()), true);
        due("no more is left of the tape behind " + name, y.end(scene.left() + 1), false);
        if (scene.left() <= 1580) {
            due("feed() behind " + name, y.feed(0, 0, 0, 0, 0), scene.left() + 20);
        }
    }

    private static int after(TrainCollector y, int... bytes) {
        put(y, bytes);
        return NONE;
    }

    // ---- the scenes

    private static final Scene NEW = new Scene("new", y -> y.feed(1, 2, 3, 4, 5), 20);
    private static final Scene BUSY = new Scene("busy", RefusalTest::busy, 20);
    private static final Scene FULL = new Scene("with 40 things", y -> {
        heap(y, "units 8;");
        for (int i = 0; i < 40; i++) {
            y.make(1 + i % 8, i % 8);
        }
        y.feed(1, 2, 3, 4, 5);
    }, 20);
    private static final Scene LATE = new Scene("at STEP 999", y -> {
        heap(y, FIVE);
        stepsTo(y, 999);
        y.feed(1, 2, 3, 4, 5);
    }, 20);
    private static final Scene LATER = new Scene("at STEP 950", y -> {
        heap(y, FIVE);
        stepsTo(y, 950);
        y.feed(1, 2, 3, 4, 5);
    }, 20);

    private static void busy(TrainCollector y) {
        heap(y, "units 7;");
        y.undo();
        heap(y, FIVE);
        y.seed(4711);
        y.chance(2);
        y.make(3, 5);
        y.set(1, 2, 3);
        y.steps(1);
        y.aim(6, 3);
        put(y, 1, 2, 5, 0, 0, 2);
        y.meet();
        y.image();
        y.undo();
        y.steps(2);
        y.make(9, 0);
        y.feed(1, 2, 3, 4, 5);
    }

    /** As it was, with what is put on the tape; all of it goes. */
    private static Scene with(Scene scene) {
        return new Scene(scene.name(), scene.play(), 0);
    }

    // ---- the calls

    private static void tape() {
        says("Promise 2: feed: NONE, refused (0), if there would be more than 1600");
        for (int length : new int[] {1600, 1581}) {
            refused("feed()", 0, NONE, new Scene("with " + length + " bytes", y -> {
                busy(y);
                put(y, " ".repeat(length));
            }, length), y -> y.feed(-1, -1, -1, -1, -1));
        }
        due("what is on the tape stays", textStays(y -> y.feed(-1, -1, -1, -1, -1), 1600), 1);
        says("Promise 3: end: false, refused (0), if it has not so many, or n is below 0");
        for (int n : new int[] {LOW, -1, 21, HIGH}) {
            refused("end(" + n + ")", 0, 0, BUSY, y -> bit(y.end(n)));
            refused("end(" + n + ")", 0, 0, NEW, y -> bit(y.end(n)));
        }
        refused("end(1) of none", 0, 0, new Scene("empty", y -> y.has(0), 0), y -> bit(y.end(1)));
        due("what is on the tape stays", textStays(y -> bit(y.end(1601)), 1600), 1);
        due("what is on the tape stays", textStays(y -> bit(y.end(-1)), 8), 1);
    }

    private static int textStays(Call refusal, int length) {
        TrainCollector y = new TrainCollector();
        put(y, "units 8;" + " ".repeat(length - 8));
        refusal.of(y);
        return y.heap();
    }

    private static void texts() {
        says("Promise 4: heap: NONE, refused (1), with a FAULT (all stays)");
        String[][] rows = {{"", "1", "0"}, {"units 9;thing", "1", "13"}, {"units 9;thing a size 1;thing a", "2", "29"},
            {"units 9;thing a size 1;root b", "3", "28"}, {"units 100;", "4", "6"}, {"units 9;thing a size 1;costs ((((((((", "5", "36"},
            {"units 9;pops not all;fresh not all;costs 50;pops all;", "6", "44"},
            {"units 9;thing z size 1;thing y size 2;link z to y;root z;churn 99;pops all;fresh all;costs 9;@", "1", "93"},
            {"units 9;" + "next;".repeat(79) + "next;", "6", "403"}};
        for (String[] row : rows) {
            for (Scene scene : List.of(NEW, BUSY, FULL, LATE)) {
                Call told = y -> {
                    put(y, row[0]);
                    return y.heap();
                };
                refused("heap() of " + row[0], 1, NONE, with(scene), told);
                TrainCollector y = new TrainCollector();
                scene.play().with(y);
                told.of(y);
                due("fault(0) of " + row[0], y.fault(0), Integer.parseInt(row[1]));
                due("fault(1) of " + row[0], y.fault(1), Integer.parseInt(row[2]));
            }
        }
    }

    private static void steps() {
        says("Promise 24: steps: NONE, refused (2), when it can't be (beyond STEP 999, without a heap)");
        for (int n : new int[] {LOW, -1, 0, 61, HIGH}) {
            refused("steps(" + n + ")", 2, NONE, BUSY, y -> y.steps(n));
            refused("chance(" + n + ")", 2, NONE, BUSY, y -> y.chance(n));
        }
        for (int n : new int[] {1, 60}) {
            refused("steps(" + n + ")", 2, NONE, NEW, y -> y.steps(n));
            refused("steps(" + n + ")", 2, NONE, LATE, y -> y.steps(n));
            refused("chance(" + n + ")", 2, NONE, NEW, y -> y.chance(n));
            refused("chance(" + n + ")", 2, NONE, LATE, y -> y.chance(n));
        }
        refused("steps(50)", 2, NONE, LATER, y -> y.steps(50));
        refused("chance(50)", 2, NONE, LATER, y -> y.chance(50));
        for (boolean seeded : new boolean[] {false, true}) {
            TrainCollector y = new TrainCollector();
            LATER.play().with(y);
            due("49 STEPS to 999", (seeded ? y.chance(49) : y.steps(49)) != NONE, true);
            due("STEP", y.has(6), 999);
            heap(y, FIVE);
            due("60 STEPS", (seeded ? y.chance(60) : y.steps(60)) != NONE, true);
            due("1 STEP", (seeded ? y.chance(1) : y.steps(1)) != NONE, true);
            due("STEP", y.has(6), 61);
            due("none refused", y.status(2), 0);
        }
    }

    private static void makes() {
        says("Promise 26: make: NONE, refused (3), when there are 40 THINGS, they can't be, or without a heap");
        int[][] rows = {{0, 0}, {-1, 0}, {LOW, 0}, {9, 0}, {HIGH, 0}, {1, -1}, {1, 8}, {1, LOW}, {1, HIGH}, {0, 8}};
        for (int[] row : rows) {
            refused("make(" + row[0] + ", " + row[1] + ")", 3, NONE, BUSY, y -> y.make(row[0], row[1]));
        }
        refused("make(1, 0) with 40", 3, NONE, FULL, y -> y.make(1, 0));
        refused("make(8, 7) with 40", 3, NONE, FULL, y -> y.make(8, 7));
        refused("make(1, 0)", 3, NONE, NEW, y -> y.make(1, 0));
        says("Promise 26: A THING of a size (1 .. units), a ROOT (0 .. 7) is to it: its number");
        heap(x, "units 8;");
        due("make(1, 0)", x.make(1, 0), 0);
        due("make(8, 7)", x.make(8, 7), 1);
        due("make(8, 0)", x.make(8, 0), 2);
        due("make(1, 7)", x.make(1, 7), 3);
        for (int i = 4; i < 40; i++) {
            due("make", x.make(8, 3), i);
        }
        due("with 40", x.make(1, 1), NONE);
        due("one falls", x.steps(1) > 0, true);
        due("the 40th again", x.make(1, 1), 0);
        due("refused", x.status(3), 1);
    }

    private static void sets() {
        says("Promise 27: set: false, refused (3), when it is so already, they are not LIVE, or there are none such");
        Scene told = new Scene("told", y -> {
            heap(y, FIVE);
            y.feed(1, 2, 3, 4, 5);
        }, 20);
        // a, b, d are LIVE, c and e are not; b's LINKS are to a, d, none, none.
        int[][] rows = {{1, 0, 0}, {1, 1, 3}, {1, 2, NONE}, {1, 3, NONE}, {2, 0, 0}, {2, 0, NONE}, {4, 3, 1}, {1, 0, 2}, {1, 0, 4},
            {1, -1, 3}, {1, 4, 3}, {1, 4, NONE}, {1, LOW, NONE}, {1, HIGH, 3}, {-1, 0, 3}, {5, 0, 3}, {40, 0, NONE}, {LOW, 0, 3},
            {HIGH, 0, 3}, {1, 0, -2}, {1, 0, 5}, {1, 0, 40}, {1, 0, LOW}, {1, 0, HIGH}, {-1, 0, NONE}, {0, -1, 0}, {65, 0, 0}};
        for (int[] row : rows) {
            refused("set(" + row[0] + ", " + row[1] + ", " + row[2] + ")", 3, 0, told, y -> bit(y.set(row[0], row[1], row[2])));
        }
        refused("set(0, 0, -1)", 3, 0, NEW, y -> bit(y.set(0, 0, NONE)));
        refused("set(0, 0, 0)", 3, 0, NEW, y -> bit(y.set(0, 0, 0)));
        says("Promise 27: A LINK (0 .. 3) of a LIVE THING is to a LIVE THING, or to none (NONE): true");
        told.play().with(x);
        int[][] good = {{1, 0, NONE}, {1, 0, 1}, {1, 3, 3}, {3, 3, 1}, {3, 3, 3}, {3, 3, NONE}, {3, 2, 1}, {1, 1, 1}};
        for (int[] row : good) {
            due("set", x.set(row[0], row[1], row[2]), true);
            due("link", x.link(row[0], row[1]), row[2]);
        }
        due("none refused", x.status(3), 0);
        due("a is RUBBISH by it", x.thing(0, 4), 0);
        says("Promise 28: aim: false, refused (3), when it is so already, that is not LIVE, or there are none such");
        int[][] aims = {{0, 1}, {1, 3}, {2, NONE}, {7, NONE}, {2, 2}, {0, 4}, {8, 1}, {-1, 1}, {8, NONE}, {-1, NONE}, {LOW, 1}, {HIGH, 1},
            {2, 5}, {2, 40}, {2, -2}, {2, LOW}, {2, HIGH}, {0, 65}};
        for (int[] row : aims) {
            refused("aim(" + row[0] + ", " + row[1] + ")", 3, 0, told, y -> bit(y.aim(row[0], row[1])));
        }
        refused("aim(0, -1)", 3, 0, NEW, y -> bit(y.aim(0, NONE)));
        refused("aim(0, 0)", 3, 0, NEW, y -> bit(y.aim(0, 0)));
        says("Promise 28: A ROOT (0 .. 7) is to a LIVE THING, or to none (NONE): true");
        told.play().with(x);
        int[][] fine = {{7, 0}, {7, 3}, {7, NONE}, {0, NONE}, {0, 1}, {1, 1}, {6, 0}};
        for (int[] row : fine) {
            due("aim", x.aim(row[0], row[1]), true);
            due("root", x.root(row[0]), row[1]);
        }
        due("none refused", x.status(3), 0);
    }

    private static void undos() {
        says("Promise 29: undo: false, refused (4), when none can be");
        refused("undo()", 4, 0, NEW, y -> bit(y.undo()));
        refused("undo() of a text", 4, 0, new Scene("told", y -> heap(y, FIVE), 0), y -> bit(y.undo()));
        refused("undo() of all", 4, 0, new Scene("undone", y -> {
            busy(y);
            for (int i = 0; i < 20 && y.has(9) > 0; i++) {
                y.undo();
            }
        }, 20), y -> bit(y.undo()));
        refused("undo() behind on()", 4, 0, new Scene("by an image", y -> {
            heap(y, FIVE);
            y.steps(3);
            put(y, checked(emptyImage()));
            y.on();
        }, 0), y -> bit(y.undo()));
        refused("undo() of a 21st", 4, 0, new Scene("20 undone", y -> {
            heap(y, FIVE);
            for (int i = 0; i < 25; i++) {
                y.steps(1);
            }
            for (int i = 0; i < 20; i++) {
                y.undo();
            }
        }, 0), y -> bit(y.undo()));
        says("Promise 30: seed: false, refused, when it is below 0");
        for (int seed : new int[] {-1, LOW}) {
            refused("seed(" + seed + ")", 5, 0, BUSY, y -> bit(y.seed(seed)));
            refused("seed(" + seed + ")", 5, 0, NEW, y -> bit(y.seed(seed)));
        }
    }

    private static int[] emptyImage() {
        int[] bytes = new int[51];
        for (int r = 2; r < 10; r++) {
            bytes[r] = 255;
        }
        return bytes;
    }

    private static void meets() {
        says("Promise 21: meet: NONE, refused (5), when it is none such");
        int[][] rows = {{}, {0}, {0, 0}, {0, 0, 0, 0}, new int[49], new int[51], {21, 0, 0}, {0, 3, 0}, {0, 0, 41}, {255, 255, 255},
            {0, 0, 0, 21, 0, 0}, {0, 0, 0, 0, 3, 0}, {0, 0, 0, 0, 0, 41}, {0, 0, 41, 0, 0, 0}};
        for (int[] row : rows) {
            for (Scene scene : List.of(NEW, BUSY)) {
                refused("meet() of " + row.length, 5, NONE, with(scene), y -> {
                    after(y, row);
                    return y.meet();
                });
            }
        }
    }

    private static void images() {
        says("Promise 34: on: false, refused (5), all staying, if it is none such, or without a heap");
        refused("on() without a heap", 5, 0, with(NEW), y -> {
            after(y, checked(emptyImage()));
            return bit(y.on());
        });
        TrainCollector told = new TrainCollector();
        heap(told, FIVE);
        int[] good = imageOf(told);
        TrainCollector full = new TrainCollector();
        FULL.play().with(full);
        full.end(0);
        int[] most = imageOf(full);
        for (int[] bytes : List.of(good, most)) {
            for (Scene scene : List.of(BUSY, LATE)) {
                TrainCollector y = new TrainCollector();
                scene.play().with(y);
                after(y, bytes);
                due("on()", y.on(), true);
                due("none refused", y.status(5), 0);
                int[] then = imageOf(y);
                due("as long", then.length, bytes.length);
                for (int i = 0; i < bytes.length; i++) {
                    due("byte " + i, then[i], bytes[i]);
                }
            }
        }
        for (int[] bytes : badImages(good)) {
            refused("on() of " + Arrays.toString(bytes), 5, 0, with(BUSY), y -> {
                after(y, bytes);
                return bit(y.on());
            });
        }
        // The last THING is at 400: it is alone in its CAR; the one ahead of it, at 390, leaves no room for it.
        int[][] changes = {{400, 9}, {400, 0}, {401, 1}, {401, 255}, {402, 255}, {402, most[402] + 1}, {403, 1}, {403, 200}, {404, 100},
            {405, 2}, {406, 40}, {409, 40}, {409, 254}, {9, 40}, {10, 9}, {13, 1}};
        for (int[] change : changes) {
            refused("on() of a wrong one of 40 things: " + change[0], 5, 0, with(FULL), y -> {
                after(y, changed(most, change[0], change[1]));
                return bit(y.on());
            });
        }
        refused("on() of one with a CAR of 7 and 8", 5, 0, with(FULL), y -> {
            after(y, changed(changed(most, 402, most[392]), 403, 1));
            return bit(y.on());
        });
        alone();
    }

    /** One THING alone has to be in the first place of the first CAR of the first TRAIN. */
    private static void alone() {
        int[] image = new int[60];
        Arrays.fill(image, 2, 10, 255);
        Arrays.fill(image, 16, 20, 255);
        image[10] = 8;
        for (int at = 11; at <= 13; at++) {
            int place = at;
            refused("on() of one THING with " + at + " not 0", 5, 0, with(BUSY), y -> {
                after(y, changed(image, place, 1));
                return bit(y.on());
            });
        }
        refused("on() of one THING above units", 5, 0, with(BUSY), y -> {
            after(y, changed(image, 10, 9));
            return bit(y.on());
        });
        says("Promise 34: on: one THING alone");
        heap(x, FIVE);
        put(checked(image));
        due("on()", x.on(), true);
        due("has(5)", x.has(5), 8);
    }

    private static int[] cut(int[] bytes, int length) {
        int[] row = new int[length];
        System.arraycopy(bytes, 0, row, 0, Math.min(length, bytes.length));
        return row;
    }

    /** a at 10, b at 20, c at 30, d at 40, e at 50: size, TRAIN, CAR, place, STEPS, flag, 4 LINKS. */
    private static List<int[]> badImages(int[] good) {
        List<int[]> bad = new ArrayList<>();
        for (int length : new int[] {0, 1, 2, 9, 10, 11, 50, 51, 90, good.length - 2, good.length - 1, good.length + 1,
            good.length + 2, 411, 412, 500}) {
            bad.add(cut(good, length));
            bad.add(checked(cut(good, length)));
        }
        int[] off = good.clone();
        off[off.length - 1] = (off[off.length - 1] + 1) % 251;
        bad.add(off);
        int[][] changes = {{0, 4}, {0, 255}, {10, 0}, {10, 9}, {20, 9}, {10, 255}, {95 - 2, 1}, {11, 1}, {11, 2}, {11, 255}, {12, 2},
            {12, 3}, {12, 255}, {13, 1}, {13, 2}, {13, 255}, {21, 1}, {22, 0}, {22, 2}, {22, 3}, {23, 1}, {23, 2}, {33, 0}, {33, 2},
            {33, 40}, {41, 0}, {41, 2}, {42, 1}, {43, 1}, {43, 2}, {53, 0}, {53, 2}, {14, 100}, {14, 255}, {54, 100}, {15, 2}, {15, 255},
            {55, 2}, {2, 5}, {2, 39}, {2, 40}, {2, 254}, {9, 5}, {9, 128}, {16, 5}, {16, 40}, {16, 254}, {19, 5}, {59, 5}, {59, 254},
            {20, 6}, {30, 7}, {40, 8}, {50, 5}};
        for (int[] change : changes) {
            bad.add(changed(good, change[0], change[1]));
        }
        bad.add(changed(changed(good, 0, 3), 1, 1000 % 256));
        bad.add(changed(changed(good, 41, 3), 51, 3));
        bad.add(changed(changed(good, 41, 2), 51, 2));
        bad.add(changed(changed(good, 42, 1), 52, 1));
        bad.add(changed(changed(good, 22, 2), 32, 2));
        bad.add(changed(changed(good, 23, 1), 33, 2));
        bad.add(changed(changed(good, 43, 1), 53, 2));
        bad.add(changed(changed(changed(good, 11, 2), 21, 2), 31, 2));
        return bad;
    }

    private static void goodImages() {
        says("Promise 34: on: STEP 999, sizes of units, STEPS of THINGS 99 at most; flags 0, 1; sizes of a CAR no more than units");
        int[][][] rows = {{{0, 3}, {1, 231}}, {{0, 2}, {1, 255}}, {{10, 1}}, {{10, 8}}, {{20, 5}}, {{30, 6}}, {{40, 7}}, {{50, 4}},
            {{14, 99}}, {{54, 99}}, {{15, 1}}, {{55, 1}}, {{15, 1}, {25, 1}, {35, 1}, {45, 1}, {55, 1}}, {{2, 255}}, {{2, 4}}, {{9, 0}},
            {{16, 255}}, {{16, 0}}, {{19, 4}}, {{59, 0}}, {{13, 0}}, {{23, 1}, {33, 0}}, {{12, 1}, {22, 0}, {32, 0}},
            {{11, 1}, {21, 1}, {31, 1}, {41, 0}, {51, 0}}, {{51, 2}, {53, 0}}, {{52, 1}, {53, 0}}, {{32, 2}, {33, 0}},
            {{31, 2}, {32, 0}, {33, 0}}, {{30, 2}, {31, 1}, {32, 0}, {33, 2}}};
        heap(x, FIVE);
        int[] good = imageOf(x);
        for (int[][] row : rows) {
            anew();
            heap(x, FIVE);
            int[] bytes = good;
            for (int[] change : row) {
                bytes = changed(bytes, change[0], change[1]);
            }
            put(bytes);
            due("on() of " + Arrays.toString(bytes), x.on(), true);
            int[] then = imageOf(x);
            for (int i = 0; i < bytes.length; i++) {
                due("byte " + i, then[i], bytes[i]);
            }
            due("KEPT", x.has(7), 0);
            due("ACTS", x.has(9), 0);
        }
        says("Promise 34: on: true, all is as it tells");
        asItTells("at first", y -> heap(y, FIVE));
        asItTells("behind 3 STEPS", y -> {
            heap(y, FIVE);
            y.steps(3);
        });
        asItTells("with numbers that are free", y -> {
            heap(y, FIVE);
            y.steps(1);
            y.make(2, 5);
            y.set(1, 1, NONE);
            y.steps(20);
            y.make(3, 6);
            y.set(3, 3, 1);
        });
        asItTells("FUTILE", y -> {
            heap(y, FIVE);
            y.aim(1, NONE);
            y.steps(2);
        });
        asItTells("with 40 THINGS", y -> {
            heap(y, "units 8;fresh cars>4;");
            for (int i = 0; i < 40; i++) {
                y.make(1 + i % 8, i % 8);
            }
            y.set(39, 3, 38);
            y.set(38, 0, 39);
            y.aim(7, NONE);
        });
        says("Promise 34: nothing is KEPT, no ACT can be undone; the rest is of the HEAP");
        busy(x);
        int seed = x.has(10);
        put(good);
        due("on()", x.on(), true);
        due("KEPT", x.has(7), 0);
        due("ACTS", x.has(9), 0);
        due("MET", x.has(8), 2);
        due("the seed", x.has(10), seed);
        due("units", x.has(0), 8);
        due("letters", x.letter(4, 0), 5);
        due("fault", x.fault(0), 0);
        due("status(5)", x.status(5), 0);
        due("no THINGS: on()", emptied(), 1);
        due("no THINGS", x.has(1), 0);
        due("no TRAINS", x.has(3), 0);
        due("make", x.make(8, 0), 0);
    }

    /** An object by an image is asked all that the one is asked which came to be so by itself. */
    private static void asItTells(String name, Play play) {
        TrainCollector source = new TrainCollector();
        play.with(source);
        int[] image = imageOf(source);
        for (int part = 1; part < PARTS - 1; part++) {
            TrainCollector is = new TrainCollector();
            heap(is, image.length > 300 ? "units 8;fresh cars>4;" : FIVE);
            is.chance(3);
            for (int i = 0; i < 5; i++) {
                is.make(8, 1);
            }
            is.holder(0);
            put(is, image);
            due("on() of " + name, is.on(), true);
            TrainCollector was = new TrainCollector();
            play.with(was);
            was.image();
            is.image();
            List<Integer> want = asked(was, part, NONE);
            List<Integer> got = asked(is, part, NONE);
            for (int i = 0; i < want.size(); i++) {
                boolean letter = part == 2 && (i % 7 == 4 || i % 7 == 5);
                due("what is told " + name + ", part " + part + ", " + i, letter ? 0 : got.get(i), letter ? 0 : want.get(i));
            }
            for (int what = 0; what < 7; what++) {
                due("has(" + what + ") " + name, is.has(what), was.has(what));
            }
            for (int r = 0; r < 8; r++) {
                due("root(" + r + ") " + name, is.root(r), was.root(r));
                due("train(" + r + ", 0) " + name, is.train(r, 0), was.train(r, 0));
                due("train(" + r + ", 3) " + name, is.train(r, 3), was.train(r, 3));
            }
        }
    }

    private static int emptied() {
        put(checked(emptyImage()));
        return bit(x.on());
    }

    public static void main(String[] args) {
        tape();
        texts();
        steps();
        makes();
        sets();
        undos();
        meets();
        images();
        goodImages();
        finish();
    }
}
