/** The edges that part II of the document's terms names: THINGS, TRAINS and CARS, STEPS, ACTS, DRAWS. */
public final class StepEdgeTest extends Probe {
    private static final String ONE = "units 8;thing a size 3;root a;";

    // ---- THINGS, TRAINS, CARS

    private static void numbers() {
        says("THINGS have numbers 0 .. 39; a new one the least that is free");
        told("units 8;");
        for (int i = 0; i < 40; i++) {
            due("make", x.make(1, i % 8), i);
        }
        due("has(1)", x.has(1), 40);
        due("thing(39, 0)", x.thing(39, 0), 1);
        due("thing(40, 0)", x.thing(40, 0), NONE);
        due("a 41st", x.make(1, 0), NONE);
        told("units 8;thing a size 1;thing b size 1;thing c size 1;thing d size 1;link d to b;root d;");
        due("a and c fall", x.steps(1), 2);
        due("the least", x.make(1, 1), 0);
        due("the next", x.make(1, 2), 2);
        due("behind all", x.make(1, 3), 4);
    }

    private static void laid() {
        says("behind all in its last CAR, if the sizes of all in it are no more than units then");
        told("units 8;thing a size 3;thing b size 4;thing c size 1;");
        rides(2, 0, 0, 2);
        due("a full one", x.car(0, 0, 1), 8);
        told("units 8;thing a size 8;thing b size 1;");
        rides(1, 0, 1, 0);
        due("full at once", x.car(0, 0, 1), 8);
        told("units 99;thing a size 98;thing b size 1;thing c size 1;");
        rides(1, 0, 0, 1);
        rides(2, 0, 1, 0);
        says("else in a new CAR behind it");
        told("units 8;thing a size 3;thing b size 4;thing c size 2;");
        rides(2, 0, 1, 0);
        due("cars", x.train(0, 0), 2);
        says("its last CAR: what is free in those ahead is left");
        told("units 8;thing a size 3;thing b size 8;thing c size 1;");
        rides(2, 0, 2, 0);
        told("units 8;thing a size 3;next;thing b size 3;");
        rides(1, 1, 0, 0);
    }

    private static void noneSuch() {
        says("A TRAIN without CARS, a CAR without THINGS is none");
        told("units 8;");
        due("no trains", x.has(3), 0);
        due("no cars", x.has(4), 0);
        due("train(0, 0)", x.train(0, 0), NONE);
        told("units 8;thing a size 1;next;thing b size 1;root b;");
        due("it falls", x.steps(1), 1);
        due("trains", x.has(3), 1);
        rides(1, 0, 0, 0);
        told("units 8;thing a size 8;thing b size 8;root b;");
        due("the first car falls", x.steps(1), 1);
        due("cars", x.has(4), 1);
        rides(1, 0, 0, 0);
        told(ONE);
        x.steps(1);
        due("its train has gone, another has come", x.has(3), 1);
        due("cars", x.has(4), 1);
        told("units 8;thing a size 3;");
        due("the last falls", x.steps(1), 1);
        due("trains", x.has(3), 0);
        due("cars", x.has(4), 0);
        due("units taken", x.has(5), 0);
    }

    private static void live() {
        says("A LIVE THING is one to which there is a ROOT, or a LINK from a LIVE one; the others are RUBBISH");
        told("units 8;thing a size 1;thing b size 1;thing c size 1;thing d size 1;thing e size 1;link b to c;link d to e;"
            + "link e to d;link e to b;link a to a;root b;");
        int[] want = {0, 1, 1, 0, 0};
        for (int t = 0; t < 5; t++) {
            due("thing(" + t + ", 4)", x.thing(t, 4), want[t]);
        }
        due("has(2)", x.has(2), 2);
        told("units 8;thing a size 1;link a to a;");
        due("no LIVE THINGS", x.has(2), 0);
        told("units 8;");
        due("no THINGS", x.has(2), 0);
        says("It is STEP 0 at first, all are there for 0 STEPS");
        told(ONE);
        due("STEP", x.has(6), 0);
        due("age", x.thing(0, 6), 0);
        due("marked", x.thing(0, 7), 0);
    }

    // ---- a STEP

    private static void withoutTrain() {
        says("if there is no TRAIN, nothing but that it is KEPT, not FUTILE, and the STEP is one more");
        told("units 8;");
        due("steps(2)", x.steps(2), 0);
        due("STEP", x.has(6), 2);
        due("KEPT", x.has(7), 2);
        kept(0, 0, 0, 0);
        kept(1, 1, 0, 0);
        due("not FUTILE", x.later(60, 4), 0);
        due("costs nothing", x.later(60, 3), 0);
        due("trains", x.has(3), 0);
        told("units 8;churn 100;");
        due("by the seed", x.chance(3), 0);
        due("STEP", x.has(6), 3);
        due("KEPT", x.has(7), 3);
    }

    private static void wholeTrain() {
        says("no ROOT to a THING of the first TRAIN, and no LINK to one from a THING of another TRAIN: all its THINGS FALL");
        told("units 8;thing a size 8;thing b size 8;thing c size 1;next;thing d size 1;link a to b;link b to a;link c to a;"
            + "link a to d;root d;");
        due("steps(1)", x.steps(1), 3);
        kept(0, 0, 3, 0);
        rides(3, 0, 0, 0);
        due("nor are its LINKS", x.thing(3, 5), 1);
        said("a ROOT to the last of its THINGS keeps it", "units 8;thing a size 8;thing b size 8;thing c size 1;root c;", 1);
        said("a LINK from another TRAIN keeps it, from RUBBISH too",
            "units 8;thing a size 8;thing b size 8;next;thing c size 1;link c to b;", 1);
        said("LINKS of its own do not", "units 8;thing a size 8;thing b size 8;next;thing c size 1;link a to b;root c;", 2);
    }

    private static void said(String label, String text, int fell) {
        told(text);
        due(label, x.steps(1), fell);
    }

    private static void rules() {
        says("1 there is a ROOT to it: to the last TRAIN, if that is another one");
        told("units 8;thing a size 3;next;thing b size 3;next;thing c size 3;root a;root b;root c;");
        x.steps(1);
        rides(0, 1, 0, 1);
        says("else to a new one behind it");
        told("units 8;thing a size 3;thing b size 8;link b to b;root a;");
        x.steps(1);
        rides(0, 1, 0, 0);
        rides(1, 0, 0, 0);
        due("trains", x.has(3), 2);
        says("2 it is MARKED: likewise");
        told("units 8;thing a size 8;thing b size 8;next;thing c size 1;next;thing d size 1;link b to a;link c to b;root c;"
            + "root d;");
        x.steps(1);
        due("b is MARKED", x.thing(1, 7), 1);
        x.steps(1);
        rides(1, 2, 1, 0);
        due("it goes to the last, not to that of c", x.thing(1, 1), 2);
        due("MARKED no more", x.thing(1, 7), 0);
        says("3 there is a LINK to it from a THING of another TRAIN: to the first such TRAIN");
        told("units 8;thing a size 1;next;thing b size 1;next;thing c size 1;next;thing d size 1;link d to a;link c to a;"
            + "root b;root c;root d;");
        x.steps(1);
        rides(0, 1, 0, 1);
        says("4 there is a LINK to it from another CAR of the first TRAIN: to that TRAIN");
        told("units 8;thing a size 3;thing b size 7;link b to a;root b;");
        x.steps(1);
        rides(0, 0, 1, 0);
        rides(1, 0, 0, 0);
        told("units 8;thing a size 1;thing b size 8;thing c size 7;link b to a;root b;");
        x.steps(1);
        rides(0, 0, 1, 1);
        says("of all that must by the first of these rules the first in the CAR");
        told("units 9;thing a size 1;thing b size 1;thing c size 1;thing d size 1;next;thing e size 1;link e to a;link e to b;"
            + "root d;root c;root e;");
        x.steps(1);
        int[] places = {3, 4, 1, 2, 0};
        for (int t = 0; t < 5; t++) {
            rides(t, 0, 0, places[t]);
        }
        says("In the end all that did not GO or STAY FALL");
        told("units 9;thing a size 1;thing b size 1;thing c size 1;thing d size 8;link b to c;link c to b;link a to a;root d;"
            + "root a;");
        due("b and c fall", x.steps(1), 2);
        kept(0, 0, 2, 1);
        rides(3, 0, 0, 0);
        rides(0, 1, 0, 0);
        due("all GO: none falls", lastOf("units 9;thing a size 1;thing b size 1;link a to b;root a;", 1), 0);
        rides(0, 0, 0, 0);
        rides(1, 0, 0, 1);
        says("one after the other: what has gone is of the TRAIN it went to");
        told("units 9;thing a size 1;thing b size 1;thing c size 9;thing d size 9;link a to b;link d to b;link d to c;root a;root d;");
        x.steps(1);
        rides(0, 1, 0, 0);
        rides(1, 1, 0, 1);
        rides(2, 0, 0, 0);
        says("3 ahead of 4: there is a LINK to it from another TRAIN, and one from another CAR of the first");
        told("units 9;thing a size 1;thing b size 9;next;thing c size 1;link b to a;link c to a;root b;root c;");
        x.steps(1);
        rides(0, 1, 0, 1);
        says("1 ahead of 3: a ROOT to it, and a LINK from a TRAIN between");
        told("units 9;thing a size 1;next;thing b size 1;next;thing c size 1;link b to a;root a;root b;root c;");
        x.steps(1);
        rides(0, 1, 0, 1);
    }

    /** How many FELL by the last of so many STEPS. */
    private static int lastOf(String text, int steps) {
        told(text);
        x.steps(steps);
        return x.kept(steps - 1, 1);
    }

    private static void popular() {
        says("without it: refs is above 3");
        for (int roots = 1; roots <= 8; roots++) {
            told("units 8;thing a size 3;thing b size 3;" + "root a;".repeat(roots));
            due("popular by " + roots, x.thing(0, 8), roots > 3 ? 1 : 0);
            due("refs by " + roots, x.thing(0, 5), roots);
            due("refs of the other by " + roots, x.thing(1, 5), 0);
            due("costs by " + roots, x.later(1, 3), roots > 3 ? 0 : 3);
        }
        says("refs: how many LINKS and ROOTS are to it from out of its CAR");
        told("units 9;thing a size 1;thing b size 1;thing c size 8;link a to a;link b to a;link c to a;link c to a;"
            + "link c to a;link c to b;root a;");
        due("refs of a", x.thing(0, 5), 4);
        due("refs of b", x.thing(1, 5), 1);
        due("refs of c", x.thing(2, 5), 0);
        says("by what is so then");
        told("units 9;thing a size 1;thing b size 1;link a to b;root a;root b;pops refs=2;");
        due("refs in the car", x.thing(1, 5), 1);
        due("a goes, b stays", x.later(1, 3), 1);
        x.steps(1);
        rides(0, 0, 0, 0);
        rides(1, 0, 1, 0);
        says("One that GOES is LAID there; but if the TEST of pops holds for it, it STAYS, in a CAR of its own");
        told("units 9;thing a size 1;thing b size 1;thing c size 1;next;thing d size 1;root a;root b;root c;root d;"
            + "pops not size=2;");
        x.steps(1);
        for (int t = 0; t < 3; t++) {
            rides(t, 0, 1, t);
        }
        kept(0, 0, 0, 3);
        due("trains", x.has(3), 1);
        says("nothing is LAID in that one");
        told("units 9;thing a size 1;thing b size 2;thing c size 3;next;thing d size 9;root a;root b;root c;root d;"
            + "pops size=1;");
        x.steps(1);
        rides(0, 0, 2, 0);
        rides(1, 0, 1, 0);
        rides(2, 0, 1, 1);
        says("a new TRAIN is the last one from then on, while it has no CAR, too");
        told("units 9;thing a size 1;thing b size 2;thing c size 9;link c to c;root a;root b;root c;pops size=1;");
        x.steps(1);
        rides(1, 1, 0, 0);
        rides(0, 1, 1, 0);
        rides(2, 0, 0, 0);
        says("What FALLS is no more, nor are its LINKS");
        told("units 9;thing a size 1;thing b size 1;link a to b;link a to a;root b;");
        due("a falls", x.steps(1), 1);
        due("made in its place", x.make(1, 1), 0);
        for (int k = 0; k < 4; k++) {
            due("link(0, " + k + ")", x.link(0, k), NONE);
        }
        due("refs of b", x.thing(1, 5), 1);
    }

    private static void futile() {
        says("A STEP is FUTILE, if nothing FALLS by it, and all that GO or STAY do so by rule 4");
        futileBy("by rule 4 alone", "units 8;thing a size 8;thing b size 8;link b to a;root b;", 1);
        futileBy("one STAYS by rule 4", "units 8;thing a size 8;thing b size 8;link b to a;root b;pops all;", 1);
        futileBy("one falls", "units 8;thing a size 4;thing c size 4;thing b size 8;link b to a;root b;", 0);
        futileBy("one by rule 1", "units 8;thing a size 4;thing c size 4;thing b size 8;link b to a;root b;root c;", 0);
        futileBy("one by rule 3",
            "units 8;thing a size 4;thing c size 4;thing b size 8;next;thing d size 1;link b to a;link d to c;root b;", 0);
        futileBy("none moves, one falls", "units 8;thing a size 8;thing b size 8;root b;", 0);
        futileBy("a train falls", "units 8;thing a size 8;", 0);
        says("then, if none of the first TRAIN is MARKED");
        told("units 8;thing a size 8;thing b size 8;thing c size 8;link b to a;link c to b;link b to c;root c;");
        x.steps(1);
        due("c is MARKED", x.thing(2, 7), 1);
        x.aim(1, 0);
        x.aim(0, NONE);
        x.steps(1);
        due("b went by rule 4", x.kept(1, 2), 1);
        due("c still", x.thing(2, 7), 1);
        due("a is not", x.thing(0, 7), 0);
        says("the first of its THINGS (CAR by CAR) to which there is a ROOT, or a LINK from another TRAIN, is MARKED");
        told("units 8;thing a size 8;thing b size 4;thing c size 4;thing d size 1;link b to a;link b to c;link d to b;link a to d;"
            + "root c;root d;");
        x.steps(1);
        due("c is MARKED", x.thing(2, 7), 1);
        due("d is not", x.thing(3, 7), 0);
        due("a is not", x.thing(0, 7), 0);
        due("b is not", x.thing(1, 7), 0);
        told("units 8;thing c size 8;thing b size 1;thing a size 8;thing d size 8;link b to c;link d to c;root a;next;"
            + "thing e size 1;link e to d;root e;");
        x.steps(1);
        due("by its CAR, not by its number", x.thing(2, 7), 1);
        due("what is behind is not", x.thing(3, 7), 0);
        told("units 8;thing c size 8;thing b size 8;thing a size 8;next;thing e size 1;link b to c;link a to b;link e to a;"
            + "link e to b;root e;");
        x.steps(1);
        due("by a LINK from another TRAIN", x.thing(1, 7), 1);
    }

    private static void markedFirst() {
        says("CAR by CAR: of those to which there is a ROOT the one whose CAR is first is MARKED, whatever its number");
        // 0 falls; made again it rides behind all. b goes by rule 4.
        told("units 8;thing a size 1;next;thing b size 8;thing c size 8;link c to b;root c;fresh not all;");
        due("a falls", x.steps(1), 1);
        due("make", x.make(8, 1), 0);
        rides(0, 0, 2, 0);
        due("FUTILE", x.later(1, 4), 1);
        x.steps(1);
        due("c is MARKED", x.thing(2, 7), 1);
        due("0 is not", x.thing(0, 7), 0);
        says("CAR by CAR: in one CAR the first of it");
        told("units 8;thing a size 1;next;thing b size 8;thing c size 4;link c to b;root c;fresh not all;");
        due("a falls", x.steps(1), 1);
        due("make", x.make(4, 1), 0);
        rides(0, 0, 1, 1);
        x.steps(1);
        rides(2, 0, 0, 0);
        due("c is MARKED", x.thing(2, 7), 1);
        due("0 is not", x.thing(0, 7), 0);
        says("the first of its THINGS is MARKED: it may be that of number 0");
        told("units 8;thing a size 1;next;thing b size 8;root b;fresh not all;");
        due("a falls", x.steps(1), 1);
        due("make", x.make(8, 1), 0);
        x.set(0, 0, 1);
        x.aim(0, NONE);
        x.steps(1);
        rides(1, 0, 1, 0);
        due("0 is MARKED", x.thing(0, 7), 1);
        says("A THING that GOES or STAYS is MARKED no more; what FALLS neither");
        told("units 8;thing a size 8;thing b size 8;link b to a;root b;");
        x.steps(1);
        due("b is MARKED", x.thing(1, 7), 1);
        x.steps(1);
        due("gone", x.thing(1, 7), 0);
        told("units 8;thing a size 8;thing b size 8;link b to a;root b;pops step=1;");
        x.steps(2);
        due("stayed", x.thing(1, 7), 0);
        told("units 8;thing a size 8;thing b size 8;link b to a;root b;");
        x.steps(1);
        x.aim(0, NONE);
        due("all fall", x.steps(1), 2);
        x.make(1, 0);
        x.make(1, 1);
        due("made again", x.thing(1, 7), 0);
    }

    private static void madeAgain() {
        says("What FALLS is no more, nor are its LINKS: nothing is left to one that has its number then");
        told("units 8;thing a size 8;next;thing b size 8;link a to b;link a to a;link a to b;link a to b;root b;fresh all;");
        x.steps(1);
        due("make", x.make(1, 1), 0);
        for (int k = 0; k < 4; k++) {
            due("link(0, " + k + ")", x.link(0, k), NONE);
        }
        due("age", x.thing(0, 6), 0);
        due("refs of b", x.thing(1, 5), 1);
        due("refs of the new one", x.thing(0, 5), 1);
        x.aim(0, NONE);
        due("nothing holds b", x.steps(1), 1);
        due("the new one stays", x.thing(0, 4), 1);
        told("units 8;thing a size 8;next;thing b size 8;root a;root b;");
        x.steps(9);
        x.aim(0, NONE);
        x.steps(2);
        due("a fell at 9 STEPS", x.thing(0, 0), NONE);
        due("make", x.make(1, 5), 0);
        due("age of a new one", x.thing(0, 6), 0);
        heldNoMore(0, 5);
        heldNoMore(39, 5);
        heldNoMore(5, 0);
        heldNoMore(5, 39);
        says("a LINK set to none, or elsewhere, holds no more");
        told("units 8;thing a size 8;next;thing b size 8;link b to a;root b;");
        due("set", x.set(1, 0, NONE), true);
        due("a falls", x.steps(1), 1);
        told("units 8;thing a size 8;next;thing b size 8;link b to a;root b;");
        due("set", x.set(1, 0, 1), true);
        due("a falls", x.steps(1), 1);
        told("units 8;thing a size 8;next;thing b size 8;link b to a;link b to a;root b;");
        due("set", x.set(1, 0, NONE), true);
        due("the other LINK holds it", x.steps(1), 0);
        rides(0, 0, 1, 0);
        due("set", x.set(1, 1, NONE), true);
        due("none does", x.steps(2), 1);
        says("heap: all is as at first: nothing is left to one made then");
        told("units 8;");
        for (int i = 0; i < 5; i++) {
            x.make(8, i);
            x.set(i, 3, 0);
        }
        stepsTo(7);
        told("units 8;thing a size 1;root a;");
        for (int i = 1; i < 5; i++) {
            due("make", x.make(1, i), i);
            due("age", x.thing(i, 6), 0);
            due("link(" + i + ", 3)", x.link(i, 3), NONE);
            rides(i, 0, 0, i);
        }
        due("refs of a", x.thing(0, 5), 1);
    }

    /** One falls that had a LINK to another, and is made again: that LINK holds the other no more. */
    private static void heldNoMore(int source, int target) {
        anew();
        told("units 8;fresh all;");
        for (int i = 0; i < 40; i++) {
            x.make(8, i == target ? 1 : i == source ? 2 : 3);
        }
        x.set(source, 0, target);
        x.aim(2, NONE);
        x.aim(3, target);
        x.aim(3, NONE);
        for (int n = 0; n < 200 && x.thing(source, 0) != NONE; n++) {
            x.steps(1);
        }
        due("the source fell", x.thing(source, 0), NONE);
        due("the target did not", x.thing(target, 0), 8);
        for (int n = 0; n < 40 && x.thing(source, 0) == NONE; n++) {
            x.make(8, 2);
        }
        due("made again", x.thing(source, 0), 8);
        x.aim(1, NONE);
        for (int n = 0; n < 40 && x.thing(target, 1) > 0; n++) {
            x.steps(1);
        }
        int there = x.thing(target, 0);
        due("the target is there", there, 8);
        x.steps(1);
        due("nothing holds " + target + " by the old LINK of " + source, x.thing(target, 0), NONE);
    }

    // ---- many at once

    /** 40 THINGS, each but the first with a LINK to the one made before, the last with a ROOT. */
    private static void crowd(String text, int size) {
        told(text);
        for (int i = 0; i < 40; i++) {
            due("make", x.make(size, i % 2), i);
            due("set", i == 0 || x.set(i, i == 39 ? 3 : 0, i - 1), true);
        }
        due("aim", x.aim(0, NONE), true);
    }

    private static void crowds() {
        says("THINGS of its first CAR GO, as long as one must: 40 of them");
        crowd("units 99;", 1);
        due("one CAR", x.has(4), 1);
        due("costs", x.later(1, 3), 40);
        due("none falls", x.steps(1), 0);
        kept(0, 0, 0, 40);
        for (int t = 0; t < 40; t++) {
            rides(t, 0, 0, 39 - t);
            due("age", x.thing(t, 6), 1);
        }
        due("units taken", x.car(0, 0, 1), 40);
        says("The latest ACT is undone: of the 40th THING, too");
        crowd("units 99;", 1);
        x.steps(1);
        x.aim(4, 39);
        x.steps(3);
        rides(39, 0, 0, 0);
        due("age", x.thing(39, 6), 4);
        x.set(39, 3, 39);
        x.set(39, 1, 0);
        due("undo()", x.undo() && x.undo(), true);
        due("link(39, 1)", x.link(39, 1), NONE);
        due("link(39, 3)", x.link(39, 3), 38);
        due("undo()", x.undo(), true);
        due("age", x.thing(39, 6), 1);
        due("undo()", x.undo() && x.undo(), true);
        due("age", x.thing(39, 6), 0);
        rides(39, 0, 0, 39);
        due("undo()", x.undo(), true);
        due("root(0)", x.root(0), 38);
        says("a CAR of its own with all that STAY: 40 of them");
        crowd("units 99;pops all;", 1);
        due("none falls", x.steps(1), 0);
        kept(0, 0, 0, 40);
        for (int t = 0; t < 40; t++) {
            rides(t, 0, 0, t);
        }
        says("all that did not GO or STAY FALL: 39, 40 of them");
        crowd("units 99;", 1);
        x.aim(1, NONE);
        due("falls(39)", x.falls(39), 1);
        due("all fall", x.steps(1), 40);
        kept(0, 0, 40, 0);
        due("no TRAIN", x.has(3), 0);
        crowd("units 99;", 1);
        x.aim(7, 0);
        x.aim(1, NONE);
        due("all but the first fall", x.steps(1), 39);
        kept(0, 0, 39, 1);
        rides(0, 0, 0, 0);
        crowd("units 99;", 1);
        x.set(39, 3, NONE);
        due("all but the last fall", x.steps(1), 39);
        rides(39, 0, 0, 0);
        due("age of the last", x.thing(39, 6), 1);
        manyCars();
    }

    private static void manyCars() {
        says("40 CARS of one THING each");
        crowd("units 8;fresh not all;", 8);
        due("CARS", x.has(4), 40);
        due("train(0, 0)", x.train(0, 0), 40);
        due("car(0, 39, 1)", x.car(0, 39, 1), 8);
        due("car(0, 40, 1)", x.car(0, 40, 1), NONE);
        rides(39, 0, 39, 0);
        due("FUTILE: 0 is held by 1", x.later(1, 4), 1);
        x.steps(1);
        rides(0, 0, 39, 0);
        rides(39, 0, 38, 0);
        due("the last is MARKED", x.thing(39, 7), 1);
        due("39 go by rule 4, one by one", x.later(38, 4), 38);
        due("the 40th goes by its ROOT", x.later(39, 4), 38);
        x.steps(39);
        due("TRAINS", x.has(3), 2);
        rides(39, 1, 0, 0);
        due("MARKED no more", x.thing(39, 7), 0);
        due("age of the last", x.thing(39, 6), 40);
        says("40 TRAINS of one THING each");
        crowd("units 8;fresh all;", 8);
        due("TRAINS", x.has(3), 40);
        due("train(39, 2)", x.train(39, 2), 8);
        rides(39, 39, 0, 0);
        due("refs into the last", x.train(39, 3), 1);
        x.steps(1);
        rides(0, 0, 1, 0);
        rides(39, 38, 0, 0);
        due("TRAINS", x.has(3), 39);
        due("CARS", x.has(4), 40);
        x.aim(1, NONE);
        due("no LIVE THINGS", x.has(2), 0);
        due("each is held by the next, and they go on together: beyond 60", x.clean(), NONE);
        due("falls(39)", x.falls(39), NONE);
    }

    private static void places() {
        says("in a CAR of its own with all that STAY: places from 0 on, however many rode with it before");
        told("units 9;thing a size 1;thing b size 1;thing c size 1;next;thing d size 9;root c;root d;pops size=1;");
        due("a, b fall", x.steps(1), 2);
        rides(2, 0, 1, 0);
        due("d goes", x.steps(1), 0);
        rides(2, 0, 0, 0);
        x.steps(1);
        rides(2, 0, 1, 0);
        x.steps(1);
        rides(2, 0, 0, 0);
        due("make", x.make(1, 5), 0);
        rides(0, 1, 1, 0);
    }

    private static void futileBy(String label, String text, int want) {
        told(text);
        due(label, x.later(1, 4), want);
        x.steps(1);
        int marks = 0;
        for (int t = 0; t < 40; t++) {
            marks += x.thing(t, 7) == 1 ? 1 : 0;
        }
        due(label + ": MARKED", marks, want);
    }

    private static void costs() {
        says("Each STEP costs the SUM of costs (without it: size) of each that GOES, 0 .. 99 each (below is 0, above 99)");
        int[][] rows = {{-9999, 0}, {-1, 0}, {0, 0}, {1, 1}, {98, 98}, {99, 99}, {100, 99}, {9999, 99}};
        for (int[] row : rows) {
            String sum = row[0] < 0 ? "0-" + -row[0] : "" + row[0];
            told(ONE + "costs " + sum + ";");
            due("costs " + sum, x.later(1, 3), row[1]);
            due("costs " + sum + ", 60 times", x.later(60, 3), 60 * row[1]);
        }
        told("units 99;thing a size 99;root a;");
        due("without it: size", x.later(1, 3), 99);
        told("units 99;thing a size 50;thing b size 49;root a;root b;costs size*2-40;");
        due("each for itself", x.later(1, 3), 60 + 58);
        told("units 99;thing a size 50;thing b size 5;root a;root b;costs size*2-40;");
        due("what is below 0 takes nothing away", x.later(1, 3), 60);
        says("(not of those that STAY)");
        told("units 99;thing a size 50;thing b size 40;root a;root b;pops size=50;");
        due("b alone", x.later(1, 3), 40);
        says("as it is ahead of its going");
        told("units 9;thing a size 1;thing b size 1;link a to b;root a;root b;costs refs*10+age*5+step;");
        due("a by 1, b by 2 refs", x.later(1, 3), 30);
        due("one step on", x.later(2, 3), 30 + 15 + 1 + 25 + 1);
    }

    private static void ends() {
        says("Behind a STEP each THING is there for one STEP more (99 at most)");
        told(ONE);
        stepsTo(98);
        due("98", x.thing(0, 6), 98);
        x.steps(1);
        due("99", x.thing(0, 6), 99);
        x.steps(1);
        due("99 still", x.thing(0, 6), 99);
        stepsTo(300);
        due("99 for ever", x.thing(0, 6), 99);
        due("a new one", x.make(1, 1), 1);
        x.steps(1);
        due("a new one: 1", x.thing(1, 6), 1);
        says("and the STEP is one more (999 at most)");
        told(ONE);
        stepsTo(998);
        due("998", x.has(6), 998);
        due("to 999", x.steps(1), 0);
        due("999", x.has(6), 999);
        due("no more", x.steps(1), NONE);
        due("no more", x.chance(1), NONE);
        due("999 still", x.has(6), 999);
        due("the last KEPT", x.kept(39, 0), 998);
    }

    // ---- DRAWS, KEPT, ACTS

    private static long next(long seed) {
        return (1103515245L * seed + 12345L) % (1L << 31);
    }

    private static long after(long seed, int draws) {
        long at = seed;
        for (int i = 0; i < draws; i++) {
            at = next(at);
        }
        return at;
    }

    private static void draws() {
        says("A DRAW of m: x (the seed) becomes (1103515245 x + 12345) mod 2 to the 31; floor(x / 64) mod m");
        // None of these has LIVE THINGS: one DRAW of 100 a STEP.
        int[] seeds = {0, 1, 2, 12345, 1 << 30, HIGH - 1, HIGH};
        for (int seed : seeds) {
            anew();
            told("units 8;churn 100;");
            x.seed(seed);
            x.chance(1);
            due("the seed behind " + seed, x.has(10), next(seed));
            due("it is not below 0", x.has(10) >= 0, true);
            x.chance(60);
            due("the seed 61 behind " + seed, x.has(10), after(seed, 61));
        }
        says("a DRAW of 100: below churn");
        for (int seed = 1; seed < 200; seed++) {
            long drawn = next(seed) / 64 % 100;
            if (drawn == 0 || drawn == 99 || seed % 20 == 1) {
                churned(seed, (int) drawn, false);
                churned(seed, (int) drawn + 1, true);
            }
        }
        says("if there are LIVE THINGS");
        told("units 8;thing a size 3;link a to a;churn 100;");
        x.seed(1);
        due("without", x.chance(2), 0);
        due("one DRAW each", x.has(10), after(1, 2));
        says("a DRAW of these (by number), a DRAW of 4, a DRAW of these: that LINK of the first one is to the second one then");
        for (int seed = 1; seed < 40; seed++) {
            pointed(seed, 1, 3, 4);
            pointed(seed, 0, 1, 2);
            pointed(seed, 0, 4);
            pointed(seed, 2);
        }
    }

    private static void churned(int seed, int churn, boolean want) {
        told("units 8;thing a size 3;root a;churn " + churn + ";");
        x.seed(seed);
        due("chance(1) by seed " + seed + ", churn " + churn, x.chance(1), want ? 1 : 0);
        due("the seed behind it", x.has(10), after(seed, want ? 4 : 1));
    }

    /** Of five THINGS in one CAR those told are LIVE. */
    private static void pointed(int seed, int... live) {
        StringBuilder text = new StringBuilder(
            "units 9;thing a size 1;thing b size 1;thing c size 1;thing d size 1;thing e size 1;churn 100;");
        for (int t : live) {
            text.append("root ").append((char) ('a' + t)).append(';');
        }
        told(text.toString());
        x.seed(seed);
        due("chance(1)", x.chance(1), 1);
        long one = next(next(seed));
        long two = next(one);
        long three = next(two);
        int first = live[(int) (one / 64 % live.length)];
        int k = (int) (two / 64 % 4);
        int second = live[(int) (three / 64 % live.length)];
        due("the seed", x.has(10), three);
        for (int t : live) {
            for (int i = 0; i < 4; i++) {
                due("link(" + t + ", " + i + ") by seed " + seed, x.link(t, i), t == first && i == k ? second : NONE);
            }
        }
    }

    private static void keptOnes() {
        says("KEPT is each STEP: STEP, how many FELL, how many WENT or STAYED (the last 40 are told)");
        told(ONE);
        due("none at first", x.has(7), 0);
        for (int n = 1; n <= 42; n++) {
            x.steps(1);
            due("told behind " + n, x.has(7), Math.min(n, 40));
            due("the oldest behind " + n, x.kept(0, 0), Math.max(0, n - 40));
            due("the latest behind " + n, x.kept(Math.min(n, 40) - 1, 0), n - 1);
        }
        told(ONE);
        x.steps(60);
        kept(0, 20, 0, 1);
        kept(39, 59, 0, 1);
        x.chance(1);
        kept(0, 21, 0, 1);
        kept(39, 60, 0, 1);
        says("KEPT: row by row, by STEPS in which so many FALL and GO");
        // In trains 0, 2, 4 .. one falls, in the others one goes by its ROOT.
        told("units 8;fresh all;");
        for (int i = 0; i < 12; i++) {
            x.make(8, i % 2 == 0 ? 7 : i / 2);
        }
        x.aim(7, NONE);
        x.steps(35);
        for (int k = 0; k < 12; k++) {
            kept(k, k, 1 - k % 2, k % 2);
        }
        x.steps(12);
        for (int k = 0; k < 40; k++) {
            kept(k, k + 7, k < 5 && k % 2 == 1 ? 1 : 0, k < 5 && k % 2 == 1 ? 0 : 1);
        }
        x.steps(50);
        due("undo()", x.undo(), true);
        for (int k = 0; k < 40; k++) {
            kept(k, k + 7, k < 5 && k % 2 == 1 ? 1 : 0, k < 5 && k % 2 == 1 ? 0 : 1);
        }
        due("undo()", x.undo(), true);
        due("told", x.has(7), 35);
        for (int k = 0; k < 35; k++) {
            kept(k, k, k < 12 && k % 2 == 0 ? 1 : 0, k < 12 && k % 2 == 0 ? 0 : 1);
        }
        due("kept(35, 0)", x.kept(35, 0), NONE);
    }

    private static void acts() {
        says("The last 20 can be undone");
        told(ONE);
        for (int n = 1; n <= 22; n++) {
            due("make", x.make(1, 1), n);
            due("ACTS behind " + n, x.has(9), Math.min(n, 20));
        }
        for (int n = 19; n >= 0; n--) {
            due("undo()", x.undo(), true);
            due("ACTS left", x.has(9), n);
            due("THINGS left", x.has(1), n + 3);
        }
        due("no more", x.undo(), false);
        due("the first two stay", x.has(1), 3);
        says("ACTS: STEPS, by the seed; a THING is made; a LINK, a ROOT is to another LIVE THING, or to none");
        told("units 8;thing a size 3;thing b size 3;root a;root b;churn 100;");
        x.steps(60);
        due("steps", x.has(9), 1);
        x.chance(60);
        due("chance", x.has(9), 2);
        x.make(1, 7);
        due("make", x.has(9), 3);
        due("set", x.set(2, 0, 1), true);
        due("set", x.has(9), 4);
        due("aim", x.aim(6, 2), true);
        due("aim", x.has(9), 5);
        x.seed(9);
        x.image();
        put(0, 0, 0);
        x.meet();
        due("no others are", x.has(9), 5);
        due("to itself", x.set(2, 1, 2), true);
        due("to itself: link(2, 1)", x.link(2, 1), 2);
        says("The last 20 can be undone, and more done behind that");
        told(ONE);
        for (int n = 0; n < 25; n++) {
            x.make(1, 1);
        }
        for (int n = 0; n < 20; n++) {
            x.undo();
        }
        for (int n = 0; n < 20; n++) {
            x.steps(1);
        }
        due("ACTS", x.has(9), 20);
        for (int n = 19; n >= 0; n--) {
            due("undo()", x.undo(), true);
            due("STEP", x.has(6), n);
        }
        due("no more", x.undo(), false);
        due("THINGS", x.has(1), 6);
    }

    private static void fresh() {
        says("if there is no TRAIN, or the TEST of fresh holds (without it: cars is above 3), a new TRAIN begins");
        told("units 8;");
        due("no TRAIN: one begins", x.make(8, 0), 0);
        rides(0, 0, 0, 0);
        for (int i = 1; i <= 3; i++) {
            x.make(8, i);
            rides(i, 0, i, 0);
        }
        x.make(8, 4);
        rides(4, 1, 0, 0);
        x.make(8, 5);
        rides(5, 1, 1, 0);
        told("units 8;fresh not all;");
        x.make(8, 0);
        due("no TRAIN: though it does not hold", x.has(3), 1);
        for (int i = 1; i < 6; i++) {
            x.make(8, i);
            rides(i, 0, i, 0);
        }
        told("units 8;fresh all;");
        for (int i = 0; i < 6; i++) {
            x.make(1, i);
            rides(i, i, 0, 0);
        }
        told("units 8;thing a size 8;thing b size 8;thing c size 8;thing d size 1;next;thing e size 1;");
        x.make(1, 0);
        rides(5, 1, 0, 1);
        told("units 8;thing a size 1;");
        x.steps(1);
        due("all fell", x.has(3), 0);
        x.make(1, 0);
        rides(0, 0, 0, 0);
        due("refs: a ROOT is to it", x.thing(0, 5), 1);
        due("age", x.thing(0, 6), 0);
        says("in fresh: step");
        told("units 8;thing a size 1;root a;fresh step=7;");
        stepsTo(6);
        x.make(1, 1);
        rides(1, 0, 0, 1);
        stepsTo(7);
        x.make(1, 2);
        rides(2, 1, 0, 0);
        x.undo();
        x.undo();
        due("STEP", x.has(6), 6);
        x.make(1, 2);
        due("one TRAIN", x.has(3), 1);
        says("a new TRAIN for each of 40 THINGS");
        told("units 8;fresh all;");
        for (int i = 0; i < 40; i++) {
            x.make(8, i % 8);
        }
        due("trains", x.has(3), 40);
        due("train(39, 1)", x.train(39, 1), 1);
        due("train(40, 1)", x.train(40, 1), NONE);
        due("all but the last 8 fall", x.steps(32), 32);
        due("trains", x.has(3), 8);
        rides(32, 0, 0, 0);
    }

    public static void main(String[] args) {
        numbers();
        laid();
        noneSuch();
        live();
        withoutTrain();
        wholeTrain();
        rules();
        popular();
        futile();
        markedFirst();
        madeAgain();
        crowds();
        places();
        costs();
        ends();
        draws();
        keptOnes();
        acts();
        fresh();
        finish();
    }
}
