import java.util.Arrays;

/** The edges that part III of the document's terms names: what is AHEAD, what holds what, MET, SIZES, TELLING, IMAGES. */
public final class AheadEdgeTest extends Probe {
    private static final int[] tellings = new int[3];
    private static final String ONE = "units 8;thing a size 3;root a;";

    // ---- AHEAD

    private static void ahead() {
        says("AHEAD are STEPS as they come from now on without DRAWS");
        told(ONE + "churn 100;");
        due("later(60, 3)", x.later(60, 3), 180);
        due("falls(0)", x.falls(0), NONE);
        due("no DRAW", x.has(10), 1);
        due("no STEP", x.has(6), 0);
        due("not KEPT", x.has(7), 0);
        due("no LINK", x.link(0, 0), NONE);
        due("no age", x.thing(0, 6), 0);
        says("(60 at most");
        told(ONE);
        due("later(59, 3)", x.later(59, 3), 177);
        due("later(60, 3)", x.later(60, 3), 180);
        due("later(61, 3)", x.later(61, 3), NONE);
        says("not beyond STEP 999)");
        int[][] rows = {{938, 60}, {939, 60}, {940, 59}, {998, 1}, {999, 0}};
        told(ONE);
        for (int[] row : rows) {
            stepsTo(row[0]);
            due("later(" + row[1] + ", 3) at " + row[0], x.later(row[1], 3), 3 * row[1]);
            due("later(" + (row[1] + 1) + ", 3) at " + row[0], x.later(row[1] + 1, 3), NONE);
            due("later(0, 2) at " + row[0], x.later(0, 2), 1);
        }
    }

    /**
     * Ten things in cars of the first train, each held by the one behind it: the last of them leaves by its root, the
     * others go round behind it, then the ninth leaves, and so on: 55 steps. Then so many trains of one thing each,
     * then r, which is rubbish.
     */
    private static String slow(int trains) {
        StringBuilder text = new StringBuilder("units 8;");
        for (char c = 'a'; c <= 'j'; c++) {
            text.append("thing ").append(c).append(" size 8;");
        }
        for (int i = 0; i < trains; i++) {
            text.append("next;thing x").append((char) ('a' + i)).append(" size 8;root x").append((char) ('a' + i)).append(';');
        }
        text.append("next;thing r size 8;root j;");
        for (char c = 'a'; c < 'j'; c++) {
            text.append("link ").append((char) (c + 1)).append(" to ").append(c).append(';');
        }
        return text.toString();
    }

    private static void sixty() {
        for (int trains = 0; trains <= 6; trains++) {
            says("Behind how many STEPS AHEAD (1 .. 60) a THING has FALLEN; NONE when it has not");
            told(slow(trains));
            int r = 10 + trains;
            int behind = 56 + trains;
            due("falls(" + r + ") behind " + behind, x.falls(r), behind <= 60 ? behind : NONE);
            due("falls(0)", x.falls(0), NONE);
            due("clean() behind " + behind, x.clean(), behind <= 60 ? behind : NONE);
            due("later(" + (behind <= 60 ? behind : 60) + ", 2)", x.later(Math.min(60, behind), 2), behind <= 60 ? r : r + 1);
            x.steps(1);
            due("falls(" + r + ") one step on", x.falls(r), behind <= 61 ? behind - 1 : NONE);
            due("clean() one step on", x.clean(), behind <= 61 ? behind - 1 : NONE);
            stepsTo(behind - 1);
            due("it is there", x.thing(r, 0), 8);
            due("falls(" + r + ") at the next", x.falls(r), 1);
            due("so it comes", x.steps(1), 1);
            due("falls(" + r + ") behind it", x.falls(r), NONE);
            due("clean() behind it", x.clean(), 0);
        }
        says("later: what these STEPS cost together, how many of them are FUTILE");
        oneByOne(slow(2), 30);
        oneByOne(slow(5) + "costs size+step-refs;pops refs>1;", 10);
        oneByOne("units 8;thing a size 8;next;thing b size 8;root a;root b;", 0);
    }

    /** How many of n STEPS are FUTILE, how dear they are: as they are one by one. */
    private static void oneByOne(String text, int atLeast) {
        told(text);
        int[] futile = new int[61];
        int[] cost = new int[61];
        for (int n = 1; n <= 60; n++) {
            futile[n] = x.later(n, 4);
            cost[n] = x.later(n, 3);
        }
        int sum = 0;
        int dear = 0;
        for (int n = 1; n <= 60; n++) {
            sum += x.later(1, 4);
            dear += x.later(1, 3);
            x.steps(1);
            due("later(" + n + ", 4)", futile[n], sum);
            due("later(" + n + ", 3)", cost[n], dear);
        }
        due("so many are FUTILE", sum >= atLeast, true);
    }

    private static void each() {
        says("falls: 1 .. for each of 40, train by train");
        told("units 8;fresh all;");
        for (int i = 0; i < 40; i++) {
            x.make(8, 0);
        }
        for (int i = 0; i < 39; i++) {
            due("falls(" + i + ")", x.falls(i), i + 1);
        }
        due("falls(39)", x.falls(39), NONE);
        due("clean()", x.clean(), 39);
        says("falls, clean: what has FALLEN by STEP 999, and what has not");
        for (int at = 995; at <= 999; at++) {
            anew();
            told("units 8;fresh all;");
            stepsTo(at);
            for (int i = 0; i < 4; i++) {
                x.make(8, 0);
            }
            x.aim(0, NONE);
            for (int i = 0; i < 4; i++) {
                due("falls(" + i + ") at " + at, x.falls(i), at + i < 999 ? i + 1 : NONE);
            }
            due("clean() at " + at, x.clean(), at == 995 ? 4 : NONE);
        }
        says("clean (0: now)");
        due("without a heap", new TrainCollector().clean(), 0);
        told("units 8;");
        due("without THINGS", x.clean(), 0);
        told(ONE);
        due("without RUBBISH", x.clean(), 0);
        told(ONE + "thing b size 1;");
        due("with some", x.clean(), 1);
        says("clean: all that is RUBBISH now, not what comes to be so");
        told("units 8;thing a size 8;next;thing b size 8;root b;");
        due("clean()", x.clean(), 1);
    }

    // ---- what holds what

    private static void chain(int things) {
        told("units 8;");
        for (int i = 0; i < things; i++) {
            x.make(1, i % 2);
            if (i > 0) {
                x.set(i, 0, i - 1);
            }
        }
        x.aim(things % 2, NONE);
    }

    private static void holding() {
        says("A THING RETAINS as many LIVE THINGS as would not be LIVE without it (itself, too)");
        chain(40);
        for (int t = 0; t < 40; t++) {
            due("retains(" + t + ")", x.retains(t), t + 1);
            due("far(" + t + ")", x.far(t), 39 - t);
            due("ring(" + t + ")", x.ring(t), 0);
        }
        x.set(0, 3, 39);
        due("a ring of 40: ring(0)", x.ring(0), 1);
        due("a ring of 40: ring(39)", x.ring(39), 1);
        due("a ring of 40: far(0)", x.far(0), 39);
        told("units 8;thing a size 1;thing b size 1;thing c size 1;link a to c;link b to c;root a;root b;link c to c;");
        due("itself alone: retains(0)", x.retains(0), 1);
        due("held by two: retains(2)", x.retains(2), 1);
        says("(0: it is RUBBISH)");
        told(ONE + "thing b size 1;link b to b;link b to a;");
        due("retains(1)", x.retains(1), 0);
        due("retains(0)", x.retains(0), 1);
        says("A THING is as FAR as the fewest LINKS from one to which there is a ROOT to it; NONE when it is RUBBISH");
        due("far(0)", x.far(0), NONE);
        told("units 8;thing a size 1;thing b size 1;thing c size 1;thing d size 1;link a to b;link b to c;link d to c;root a;"
            + "root a;");
        due("far(0)", x.far(0), 0);
        due("far(1)", x.far(1), 1);
        due("far(2)", x.far(2), 2);
        due("far(3)", x.far(3), NONE);
        x.aim(7, 2);
        due("far(2) by a ROOT of its own", x.far(2), 0);
        says("It is in a RING, if there is a way by LINKS from it to itself");
        told("units 8;thing a size 1;thing b size 1;thing c size 1;thing d size 1;link a to a;link b to c;link c to b;link d to b;"
            + "root d;");
        due("by a LINK to itself", x.ring(0), 1);
        due("by two", x.ring(1), 1);
        due("by two", x.ring(2), 1);
        due("one that leads to it is not", x.ring(3), 0);
    }

    private static void holderIs(String text, int thing, int number, int lost) {
        told(text);
        due("holder(0) of " + text, x.holder(0), thing);
        due("holder(1) of " + text, x.holder(1), number);
        due("holder(2) of " + text, x.holder(2), lost);
    }

    private static void holders() {
        String abc = "units 8;thing a size 1;thing b size 1;thing c size 1;";
        says("The HOLDER is the ROOT, the LINK of a LIVE THING, by which, were it to none, most THINGS would be LIVE no more");
        holderIs(abc + "link a to b;link b to c;root a;root a;", 0, 0, 2);
        holderIs(abc + "root a;link b to c;root b;", NONE, 1, 2);
        holderIs(abc + "link a to b;link a to c;link c to b;root a;root a;", 0, 1, 1);
        says("of like ones the first: ROOTS ahead of LINKS, those by THINGS");
        holderIs(abc + "root a;root b;", NONE, 0, 1);
        holderIs(abc + "root b;root a;", NONE, 0, 1);
        holderIs(abc + "root c;root c;root c;link c to b;link b to a;root b;root b;", 1, 0, 1);
        holderIs(abc + "link c to b;link c to a;root c;root c;", 2, 0, 1);
        holderIs(abc + "link a to a;link b to c;link a to c;link b to b;link b to b;root a;root b;link a to b;", NONE, 0, 1);
        holderIs(abc + "root a;root a;link a to b;link a to c;", 0, 0, 1);
        holderIs(abc + "root c;root c;root c;root c;root c;root c;root c;root a;link a to b;", NONE, 7, 2);
        holderIs(abc + "root b;root b;link b to b;link b to b;link b to b;link b to a;link a to c;", 1, 3, 2);
        holderIs(abc + "root c;root c;link c to c;link c to c;link c to b;link b to a;", 2, 2, 2);
        chain(40);
        x.aim(0, 39);
        due("two ROOTS hold all: a LINK of the last", x.holder(0), 39);
        due("its number", x.holder(1), 0);
        due("how many", x.holder(2), 39);
        x.set(39, 0, NONE);
        due("set", x.set(39, 3, 39), true);
        due("what is LIVE by itself alone", x.holder(2), 0);
        x.undo();
        x.undo();
        x.set(39, 3, 38);
        x.set(39, 0, NONE);
        due("the last LINK of the last", x.holder(0) * 4 + x.holder(1), 39 * 4 + 3);
        due("how many", x.holder(2), 39);
        says("HOLDER: none LIVE no more by any is like, too");
        holderIs(abc + "root b;root b;", NONE, 0, 0);
        holderIs(abc + "link c to b;link c to b;root c;root c;", NONE, 0, 0);
        says("NONE without one (that is to a THING)");
        due("without a heap", new TrainCollector().holder(2), NONE);
        holderIs("units 8;", NONE, NONE, NONE);
        holderIs(abc + "link a to b;link b to a;", NONE, NONE, NONE);
        told(abc + "root a;");
        x.aim(0, NONE);
        due("a ROOT to none", x.holder(1), NONE);
    }

    private static void odds() {
        says("all rows of a number below 100, a LIVE THING, a number below 4, a LIVE THING");
        told(ONE);
        due("of one", x.odds(NONE), 400);
        due("it is LIVE by all", x.odds(0), 400);
        chain(40);
        due("of 40", x.odds(NONE), 100 * 40 * 4 * 40);
        due("the one with a ROOT", x.odds(39), 640000);
        due("without churn", x.odds(0), 640000);
        says("ODDS: LIVE behind the churn of the next STEP by the seed (ahead of the STEP)");
        int[][] rows = {{0, 1600}, {1, 1599}, {99, 1501}, {100, 1500}};
        for (int[] row : rows) {
            told("units 8;thing a size 1;thing b size 1;link a to b;root a;churn " + row[0] + ";");
            due("odds(1) by churn " + row[0], x.odds(1), row[1]);
            due("odds(0) by churn " + row[0], x.odds(0), 1600);
            due("odds(-1) by churn " + row[0], x.odds(NONE), 1600);
        }
        told("units 8;thing a size 1;thing b size 1;thing c size 1;link a to b;link a to b;root a;root a;churn 100;");
        due("two LINKS hold it: no row takes both", x.odds(1), 1600);
        due("RUBBISH is none by any", x.odds(2), 0);
        oddsOfMany();
        says("NONE when there is none such, or without LIVE THINGS");
        told(ONE + "thing b size 1;thing c size 1;");
        due("odds(3)", x.odds(3), NONE);
        due("odds(-2)", x.odds(-2), NONE);
        due("odds(40)", x.odds(40), NONE);
        told("units 8;thing a size 1;link a to a;");
        due("odds(0) without LIVE THINGS", x.odds(0), NONE);
        due("odds(-1) without LIVE THINGS", x.odds(NONE), NONE);
        told("units 8;");
        due("odds(-1) without THINGS", x.odds(NONE), NONE);
        due("odds(-1) without a heap", new TrainCollector().odds(NONE), NONE);
        says("ODDS at STEP 999");
        told(ONE);
        stepsTo(999);
        due("odds(-1)", x.odds(NONE), 400);
    }

    private static void oddsOfMany() {
        says("ODDS: what the second one leads to is LIVE behind the churn");
        // Of the rows by which a's LINK goes: to a, b or c. Of those by which b's goes: to a, b or c.
        told("units 8;thing a size 1;thing b size 1;thing c size 1;link a to b;link b to c;root a;churn 100;");
        due("odds(0)", x.odds(0), 3600);
        due("odds(1): a's to b or c alone, c does not lead to b", x.odds(1), 100 * (36 - 2));
        due("odds(2)", x.odds(2), 100 * (36 - 1 - 2));
        told("units 8;thing a size 1;thing b size 1;link b to a;root b;churn 100;");
        due("odds(0) by the LINK of b", x.odds(0), 1500);
        told("units 8;thing a size 1;thing b size 1;link b to b;link b to b;link b to b;link b to a;root b;churn 100;");
        due("odds(0) by its last LINK", x.odds(0), 1500);
        told("units 8;churn 100;");
        for (int i = 0; i < 40; i++) {
            x.make(1, i == 0 ? 0 : i == 1 ? 1 : i == 38 ? 2 : i == 39 ? 3 : 4);
        }
        x.set(38, 0, 39);
        x.set(39, 0, 0);
        x.set(0, 0, 1);
        for (int r : new int[] {0, 1, 3, 4}) {
            x.aim(r, NONE);
        }
        due("38 to 39 to 0 to 1", x.has(2), 4);
        due("odds(38)", x.odds(38), 6400);
        due("odds(39)", x.odds(39), 100 * (64 - 3));
        due("odds(0)", x.odds(0), 100 * (64 - 2 - 3));
        due("odds(1)", x.odds(1), 100 * (64 - 1 - 2 - 3));
        says("ODDS of 40 THINGS in a line");
        chain(40);
        due("churn is 0", x.odds(0), 640000);
        line("units 8;churn 100;", false);
        line("units 8;churn 100;", true);
    }

    /** Each of 40 has a LINK to the next in the line; without it what is behind lives if the second one is behind, too. */
    private static void line(String text, boolean rising) {
        told(text);
        for (int i = 0; i < 40; i++) {
            x.make(1, i % 2);
            if (i > 0) {
                x.set(rising ? i - 1 : i, i == 39 ? 3 : 0, rising ? i : i - 1);
            }
            if (rising && i == 0) {
                x.aim(7, 0);
            }
        }
        x.aim(0, NONE);
        x.aim(rising ? 1 : 7, NONE);
        due("has(2)", x.has(2), 40);
        int lost = 0;
        for (int behind = 0; behind < 40; behind++) {
            int t = rising ? behind : 39 - behind;
            // The LINK that is d ahead of it: the second one is none of those from it on to it.
            lost += behind == 0 ? 0 : 40 - behind;
            due("odds(" + t + ")", x.odds(t), 100 * (6400 - lost));
        }
    }

    // ---- MET, SIZES, TELLING

    private static void met(int... rows) {
        put(rows);
        due("meet()", x.meet(), rows.length / 3);
    }

    private static void sizesAre(int thing, int... want) {
        due("sizes(" + thing + ", -1)", x.sizes(thing, NONE), want.length);
        for (int k = 0; k < want.length; k++) {
            due("sizes(" + thing + ", " + k + ")", x.sizes(thing, k), want[k]);
        }
        due("sizes(" + thing + ", " + want.length + ")", x.sizes(thing, want.length), NONE);
    }

    private static int[] upTo(int from, int to) {
        int[] row = new int[to - from + 1];
        for (int i = 0; i < row.length; i++) {
            row[i] = from + i;
        }
        return row;
    }

    /** In one car, but behind the STEP that is told what is above 3 rides in one of its own. */
    private static String late(int step) {
        return "units 8;thing a size 3;thing b size 2;root a;root b;pops size>3 and step=" + step + ";";
    }

    private static void sizes() {
        says("SIZES (1 .. units); all, if there was none");
        for (int units : new int[] {8, 9, 98, 99}) {
            told("units " + units + ";thing a size 3;root a;");
            sizesAre(0, upTo(1, units));
        }
        says("(where it is now, whatever units its CAR has)");
        told("units 8;thing a size 3;thing b size 5;root a;root b;");
        met(0, 1, 1, 0, 0, 1, 0, 2, 2);
        sizesAre(0, upTo(1, 8));
        sizesAre(1, upTo(1, 8));
        met(0, 1, 1, 1, 1, 1);
        sizesAre(1, upTo(1, 5));
        sizesAre(0, upTo(1, 3));
        says("MET are rows of STEPS AHEAD (0 .. 20), 0, 1 or 2, a number");
        told(late(0));
        met(0, 1, 1);
        sizesAre(0, upTo(1, 8));
        met(1, 1, 2);
        sizesAre(0, 4, 5, 6, 7, 8);
        told(late(19));
        met(20, 1, 2);
        sizesAre(0, 4, 5, 6, 7, 8);
        met(19, 1, 2);
        sizesAre(0, 7, 8);
        met(19, 1, 1, 20, 1, 2);
        sizesAre(0, 4, 5, 6);
        says("how many TRAINS (0), CARS of all TRAINS (1), THINGS (2) there are behind these");
        told("units 8;thing a size 8;next;thing b size 8;thing c size 3;root c;");
        int[] counts = {2, 3, 3};
        for (int kind = 0; kind < 3; kind++) {
            met(0, kind, counts[kind]);
            sizesAre(2, upTo(1, 8));
            met(0, kind, counts[kind] + 1);
            sizesAre(2);
            met(0, kind, counts[kind] - 1);
            sizesAre(2);
        }
        met(1, 0, 1, 1, 2, 2);
        sizesAre(2, upTo(1, 8));
        says("of the latest meet() of this HEAP that was not refused");
        told(late(0));
        met(1, 1, 2);
        put(1, 1, 2, 1);
        due("a refused one", x.meet(), NONE);
        sizesAre(0, 4, 5, 6, 7, 8);
        met(1, 1, 1);
        sizesAre(0, 1, 2, 3);
        told(late(0));
        due("of another HEAP: none", x.has(8), 0);
        sizesAre(0, upTo(1, 8));
        met(1, 1, 2);
        heap("units 8;thing");
        sizesAre(0, 4, 5, 6, 7, 8);
        x.make(1, 5);
        sizesAre(2, 4, 5, 6, 7, 8);
        x.undo();
        sizesAre(0, 4, 5, 6, 7, 8);
    }

    private static void sizesByMany() {
        says("MET, 1 to 16 rows: each of them, the 16th too");
        int[] rows = new int[48];
        for (int i = 0; i < 16; i++) {
            rows[3 * i + 1] = 1;
            rows[3 * i + 2] = 1;
        }
        for (int at = 0; at < 16; at++) {
            told(late(19));
            int[] one = rows.clone();
            one[3 * at] = 20;
            one[3 * at + 2] = 2;
            met(one);
            sizesAre(0, 4, 5, 6, 7, 8);
            tellsIs(0, 1, 1, 3);
        }
        says("SIZES, TELLING of the THING that is asked, as all is when it is asked");
        told("units 8;thing a size 3;thing b size 2;thing c size 7;root a;root b;root c;");
        for (int turn = 0; turn < 2; turn++) {
            met(1, 1, 3);
            sizesAre(0, 7, 8);
            sizesAre(1, 6, 7, 8);
            sizesAre(0, 7, 8);
            tellsIs(0, 1, 0, 2);
            due("set", x.set(0, 0, 1), true);
            sizesAre(0, 7, 8);
            due("aim", x.aim(0, NONE), true);
            sizesAre(0);
            tellsIs(0, NONE, NONE, NONE);
            due("undo()", x.undo(), true);
            sizesAre(0, 7, 8);
            tellsIs(0, 1, 0, 2);
            due("undo()", x.undo(), true);
            sizesAre(1, 6, 7, 8);
        }
        says("falls, clean, later: as all is when it is asked");
        told("units 8;thing a size 8;next;thing b size 8;link b to a;root b;");
        for (int turn = 0; turn < 2; turn++) {
            due("falls(0)", x.falls(0), NONE);
            due("clean()", x.clean(), 0);
            due("later(1, 2)", x.later(1, 2), 2);
            due("set", x.set(1, 0, NONE), true);
            due("falls(0)", x.falls(0), 1);
            due("clean()", x.clean(), 1);
            due("later(1, 2)", x.later(1, 2), 1);
            due("undo()", x.undo(), true);
        }
        int[] image = imageOf(x);
        x.steps(1);
        due("later(1, 1)", x.later(0, 1), 2);
        x.make(8, 5);
        due("later(0, 1)", x.later(0, 1), 3);
        due("tells(0, 2)", x.tells(0, 2), 8);
        due("set", x.set(1, 0, NONE), true);
        due("falls(0)", x.falls(0) > 0, true);
        put(image);
        due("on()", x.on(), true);
        due("falls(0)", x.falls(0), NONE);
        due("later(0, 1)", x.later(0, 1), 2);
        due("seed()", x.seed(3), true);
        due("churn by chance", x.chance(1), 0);
        due("later(0, 1)", x.later(0, 1), 2);
    }

    private static void sizesAtTheEnd() {
        says("STEPS beyond 999 are by none");
        told("units 8;thing a size 3;root a;");
        stepsTo(979);
        met(20, 2, 1);
        sizesAre(0, upTo(1, 8));
        x.steps(1);
        sizesAre(0);
        met(19, 2, 1);
        sizesAre(0, upTo(1, 8));
        met(0, 2, 1, 20, 2, 1);
        sizesAre(0);
        stepsTo(999);
        sizesAre(0);
        met(0, 2, 1);
        sizesAre(0, upTo(1, 8));
        met(1, 2, 1);
        sizesAre(0);
        for (int number : new int[] {0, 1, 40}) {
            met(1, 2, number);
            sizesAre(0);
        }
        says("a number (0 .. 40)");
        told("units 8;");
        for (int i = 0; i < 40; i++) {
            x.make(1, i % 2);
            x.set(i, 0, i - 1);
        }
        met(0, 2, 40, 1, 2, 40);
        sizesAre(39, upTo(1, 8));
        met(0, 2, 39);
        sizesAre(39);
        told("units 8;thing a size 1;");
        met(1, 0, 0, 1, 1, 0, 1, 2, 0, 20, 2, 0);
        sizesAre(0, upTo(1, 8));
        met(0, 0, 0);
        sizesAre(0);
    }

    private static void tellsIs(int thing, int n, int kind, int most) {
        due("tells(" + thing + ", 0)", x.tells(thing, 0), n);
        due("tells(" + thing + ", 1)", x.tells(thing, 1), kind);
        due("tells(" + thing + ", 2)", x.tells(thing, 2), most);
    }

    private static void telling() {
        says("TELLING is the number of STEPS AHEAD (1 .. 20)");
        told(late(0));
        // By 1 .. 3 a, b share a car; by 4 and more not.
        tellsIs(0, 1, 1, 5);
        for (int last : new int[] {18, 19}) {
            told("units 8;thing a size 3;thing b size 2;root a;root b;pops size>4 and step=" + last + ";");
            // From 7 on a is alone: that is told by the first STEP; that at the last tells more.
            tellsIs(0, last + 1, 1, 4);
        }
        told("units 8;thing a size 3;thing b size 2;root a;root b;pops size>4 and step=20;");
        tellsIs(0, 1, 1, 6);
        says("the most of these left are fewest");
        told("units 8;thing a size 3;thing b size 2;root a;root b;pops size>4 and step=20;");
        met(1, 1, 1);
        tellsIs(0, 1, 0, 6);
        met(1, 1, 2);
        tellsIs(0, 1, 0, 2);
        says("of like ones the first, STEP by STEP, 0, 1, 2");
        told(ONE);
        tellsIs(0, 1, 0, 8);
        told("units 99;thing a size 99;root a;");
        tellsIs(0, 1, 0, 99);
        told("units 8;thing a size 3;");
        tellsIs(0, 1, 0, 8);
        tellsAsThoughTold("thing b size 7;thing c size 3;link a to a;root b;root a;");
        tellsAsThoughTold("thing b size 7;thing c size 1;link b to c;root a;root b;pops size=step%8;");
        tellsAsThoughTold("thing b size 3;thing c size 3;thing d size 8;thing e size 1;link e to a;link d to e;link b to c;"
            + "root d;root c;pops size=step%8;");
        tellsAsThoughTold("thing b size 3;thing c size 1;thing d size 4;link d to c;link b to d;root b;root a;"
            + "pops size=step%8;");
        tellsAsThoughTold("thing b size 7;next;thing c size 7;thing d size 1;link a to c;root a;root d;");
        tellsAsThoughTold("thing b size 2;next;thing c size 2;thing d size 1;link c to b;link b to a;root d;pops size+step>9;");
        tellsAsThoughTold("thing b size 1;thing c size 7;next;thing d size 1;link a to c;link d to c;link b to c;link d to b;"
            + "root a;");
        tellsAsThoughTold("thing b size 1;next;thing c size 4;link b to a;root b;root b;");
        tellsAsThoughTold("thing b size 1;thing c size 2;thing d size 2;link a to d;link b to c;link b to d;link b to a;root b;"
            + "root d;pops size=step%8;");
        for (int kind = 0; kind < 3; kind++) {
            due("TELLING by " + kind + " is among them", tellings[kind] > 0, true);
        }
        tellingOfNone();
    }

    /** TELLING of a, which is alone in the first train, worked out from texts that tell it with each size. */
    private static void tellsAsThoughTold(String rest) {
        int[][] counts = new int[9][];
        for (int s = 1; s <= 8; s++) {
            anew();
            told("units 8;thing a size " + s + ";next;" + rest);
            counts[s] = new int[60];
            for (int i = 0; i < 60; i++) {
                counts[s][i] = x.later(1 + i / 3, i % 3);
            }
        }
        int best = 0;
        int fewest = 9;
        for (int i = 0; i < 60; i++) {
            int most = 0;
            for (int number = 0; number <= 40; number++) {
                int alike = 0;
                for (int s = 1; s <= 8; s++) {
                    alike += counts[s][i] == number ? 1 : 0;
                }
                most = Math.max(most, alike);
            }
            if (most < fewest) {
                best = i;
                fewest = most;
            }
        }
        anew();
        told("units 8;thing a size 3;next;" + rest);
        tellsIs(0, 1 + best / 3, best % 3, fewest);
        tellings[best % 3]++;
        for (int number = 0; number <= 5; number++) {
            int[] left = new int[8];
            int n = 0;
            for (int s = 1; s <= 8; s++) {
                if (counts[s][best] == number) {
                    left[n++] = s;
                }
            }
            met(1 + best / 3, best % 3, number);
            sizesAre(0, Arrays.copyOf(left, n));
        }
    }

    private static void tellingOfNone() {
        says("NONE without any left, when no STEP comes");
        told(ONE);
        met(0, 0, 9);
        tellsIs(0, NONE, NONE, NONE);
        told(ONE);
        stepsTo(998);
        tellsIs(0, 1, 0, 8);
        x.steps(1);
        tellsIs(0, NONE, NONE, NONE);
        told(late(998));
        stepsTo(980);
        tellsIs(0, 19, 1, 5);
        told(late(998));
        stepsTo(979);
        tellsIs(0, 20, 1, 5);
        told(late(998));
        stepsTo(978);
        tellsIs(0, 1, 1, 6);
    }

    // ---- IMAGES

    private static void images() {
        says("STEP (two bytes, the higher first)");
        for (int step : new int[] {0, 1, 255, 256, 511, 512, 767, 768, 999}) {
            anew();
            told(ONE);
            stepsTo(step);
            x.image();
            due("octet(0) at " + step, x.octet(0), step / 256);
            due("octet(1) at " + step, x.octet(1), step % 256);
        }
        says("the ROOTS (8, a THING, 255: none)");
        anew();
        told("units 8;");
        for (int i = 0; i < 40; i++) {
            x.make(1, i % 8);
        }
        x.aim(3, NONE);
        x.aim(4, 32);
        int[] roots = {32, 33, 34, 255, 32, 37, 38, 39};
        x.image();
        for (int r = 0; r < 8; r++) {
            due("octet(" + (2 + r) + ")", x.octet(2 + r), roots[r]);
        }
        due("of 40 THINGS", x.image(), 10 + 40 * 10 + 1);
        says("for each number of a THING 0 .. 39 its size (0: none)");
        told("units 99;thing a size 99;thing b size 1;link b to b;");
        due("of two THINGS", x.image(), 10 + 2 * 10 + 38 + 1);
        due("the size of a", x.octet(10), 99);
        due("the size of b", x.octet(20), 1);
        for (int i = 30; i < 68; i++) {
            due("octet(" + i + ")", x.octet(i), 0);
        }
        told("units 8;");
        due("of none", x.image(), 51);
        told(ONE + "thing b size 3;next;thing c size 3;root c;");
        x.aim(0, NONE);
        x.steps(1);
        due("of c alone", x.image(), 60);
        due("no a", x.octet(10), 0);
        due("no b", x.octet(11), 0);
        due("c", x.octet(12), 3);
        rows();
    }

    private static void rows() {
        says("its TRAIN, its CAR, its place (from 0 on), for how many STEPS it is there, 1 if it is MARKED, its 4 LINKS");
        String text = "units 8;thing a size 8;thing b size 4;thing c size 4;next;thing d size 1;link b to a;link d to b;link c to d;"
            + "link c to d;link c to d;link c to d;link d to c;root d;";
        told(text);
        x.image();
        int[][] want = {{8, 0, 0, 0, 0, 0, 255, 255, 255, 255}, {4, 0, 1, 0, 0, 0, 0, 255, 255, 255},
            {4, 0, 1, 1, 0, 0, 3, 3, 3, 3}, {1, 1, 0, 0, 0, 0, 1, 2, 255, 255}};
        rowsAre(want);
        x.steps(1);
        x.image();
        int[][] then = {{8, 0, 1, 0, 1, 0, 255, 255, 255, 255}, {4, 0, 0, 0, 1, 1, 0, 255, 255, 255},
            {4, 0, 0, 1, 1, 0, 3, 3, 3, 3}, {1, 1, 0, 0, 1, 0, 1, 2, 255, 255}};
        rowsAre(then);
        told(ONE);
        stepsTo(100);
        x.image();
        due("99 STEPS at most", x.octet(14), 99);
        says("last a byte: all ahead from 239 on, c = (5 c + it) mod 251");
        for (int step = 0; step < 300; step += 37) {
            anew();
            told(text);
            stepsTo(step);
            int[] bytes = imageOf(x);
            int c = 239;
            for (int i = 0; i < bytes.length - 1; i++) {
                c = (5 * c + bytes[i]) % 251;
            }
            due("the last byte at " + step, bytes[bytes.length - 1], c);
        }
    }

    private static void rowsAre(int[][] want) {
        for (int t = 0; t < want.length; t++) {
            for (int i = 0; i < 10; i++) {
                due("octet(" + (10 + 10 * t + i) + ")", x.octet(10 + 10 * t + i), want[t][i]);
            }
        }
    }

    public static void main(String[] args) {
        ahead();
        sixty();
        each();
        holding();
        holders();
        odds();
        sizes();
        sizesByMany();
        sizesAtTheEnd();
        telling();
        images();
        finish();
    }
}
