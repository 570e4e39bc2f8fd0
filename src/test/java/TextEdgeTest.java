import java.util.List;

/** The edges that part I of the document's terms names: of the text, its FAULTS, what SUMS and TESTS are worth. */
public final class TextEdgeTest extends Probe {
    private static final String A = "units 8;thing a size 3;";
    private static final String[] OWN = {"units", "thing", "size", "next", "link", "to", "root", "churn", "pops", "fresh",
        "costs", "step", "refs", "age", "trains", "cars", "load", "if", "or", "and", "not", "all", "min", "max"};

    private static String letters(int n) {
        return "abcdefghijklmnopqrstuvwxyz".substring(0, n);
    }

    private static String things(int n) {
        StringBuilder text = new StringBuilder();
        for (char c : letters(n).toCharArray()) {
            text.append("thing ").append(c).append(" size 1;");
        }
        return text.toString();
    }

    // ---- STATEMENTS

    private static void statements() {
        says("{ STATEMENT ; } (80 at most)");
        told("units 8;", 1);
        told("units 8;" + "next;".repeat(78), 79);
        told("units 8;" + "next;".repeat(79), 80);
        told("units 8;" + "next;".repeat(79) + " \n ", 80);
        says("6 the 81st STATEMENT (whatever it is), at its first byte");
        String eighty = "units 8;thing a size 1;" + "next;".repeat(78);
        for (String more : List.of("units 8;", "thing b size 1;", "next;", "link a to a;", "root a;", "churn 5;", "pops all;",
            "fresh all;", "costs 1;", "thing a", "root b", "churn 101", "units", "next")) {
            faulty(eighty + more, 6, eighty.length());
            faulty(eighty + "\n " + more, 6, eighty.length() + 2);
        }
        faulty("units 8;" + "next;".repeat(78) + "churn 101;next;", 4, 8 + 78 * 5 + 6);
        faulty("units 8;" + "next;".repeat(78) + "next next;", 1, 8 + 79 * 5);
        says("{ STATEMENT ; }");
        faulty("units 8;;", 1, 8);
        faulty("units 8;next", 1, 12);
        faulty("units 8;next next;", 1, 13);
        faulty(";units 8;", 1, 0);
    }

    private static void units() {
        says("units N (8 .. 99 of a CAR");
        faulty("units 7;", 4, 6);
        faulty("units 0;", 4, 6);
        told("units 8;");
        due("has(0)", x.has(0), 8);
        told("units 99;");
        due("has(0)", x.has(0), 99);
        faulty("units 100;", 4, 6);
        faulty("units 9999;", 4, 6);
        says("the first STATEMENT, and it alone)");
        for (String other : List.of("thing a size 3;", "next;", "link a to a;", "root a;", "churn 5;", "pops all;",
            "fresh all;", "costs 1;")) {
            faulty(other, 1, 0);
            faulty(" " + other + "units 8;", 1, 1);
        }
        faulty("units 8;units 8;", 1, 8);
        faulty("units 8;next; units 9;", 1, 14);
    }

    private static void thingsTold() {
        says("thing NAME size N (1 .. units");
        faulty("units 8;thing a size 0;", 4, 21);
        told("units 8;thing a size 1;");
        due("thing(0, 0)", x.thing(0, 0), 1);
        told("units 8;thing a size 8;");
        due("thing(0, 0)", x.thing(0, 0), 8);
        faulty("units 8;thing a size 9;", 4, 21);
        told("units 99;thing a size 99;");
        due("thing(0, 0)", x.thing(0, 0), 99);
        faulty("units 99;thing a size 100;", 4, 22);
        faulty("units 8;thing a size 9999;", 4, 21);
        says("24 THINGS");
        told("units 8;" + things(23));
        told("units 8;" + things(24));
        due("has(1)", x.has(1), 24);
        due("the last letter", x.letter(23, 0), 24);
        due("thing(23, 0)", x.thing(23, 0), 1);
        due("without next there is one train", x.has(3), 1);
        told("units 8;" + things(24) + "link x to a;link x to b;link x to w;link x to x;link a to x;root x;");
        int[] links = {0, 1, 22, 23};
        for (int k = 0; k < 4; k++) {
            due("link(23, " + k + ")", x.link(23, k), links[k]);
        }
        due("link(0, 0)", x.link(0, 0), 23);
        due("root(0)", x.root(0), 23);
        String full = "units 8;" + things(24);
        faulty(full + "thing z size 1;", 6, full.length());
        faulty(full + "thing a size 1;", 6, full.length());
        faulty(full + " thing", 6, full.length() + 1);
        told(full + "next;link a to x;root x;");
        says("it is LAID in the last TRAIN; there is one at first)");
        told("units 8;thing a size 1;thing b size 1;");
        due("trains", x.has(3), 1);
        rides(0, 0, 0, 0);
        rides(1, 0, 0, 1);
        told("units 8;thing a size 1;next;thing b size 1;thing c size 1;");
        rides(1, 1, 0, 0);
        rides(2, 1, 0, 1);
    }

    private static void next() {
        says("next (a new TRAIN begins: the next thing is LAID in it");
        told("units 8;thing a size 1;next;thing b size 1;next;thing c size 1;");
        due("trains", x.has(3), 3);
        rides(2, 2, 0, 0);
        told("units 8;" + things(24).replace(";", ";next;"));
        due("24 trains", x.has(3), 24);
        rides(23, 23, 0, 0);
        says("without a thing in the last one it is that still)");
        told("units 8;next;thing a size 1;");
        due("trains", x.has(3), 1);
        rides(0, 0, 0, 0);
        told("units 8;thing a size 1;next;next;next;thing b size 1;");
        due("trains", x.has(3), 2);
        rides(1, 1, 0, 0);
        told("units 8;thing a size 1;next;link a to a;next;thing b size 1;");
        due("trains", x.has(3), 2);
        told("units 8;thing a size 1;next;");
        due("an empty one is none", x.has(3), 1);
        due("make lays in the last there is", x.make(1, 0), 1);
        rides(1, 0, 0, 1);
        told("units 8;next;");
        due("no train", x.has(3), 0);
    }

    private static void links() {
        says("link NAME to NAME (from the first one's next LINK: 4 of each, to the second one)");
        told("units 8;" + things(5) + "link a to b;link a to c;link a to d;link a to e;link b to a;link b to b;link b to a;"
            + "link b to a;");
        for (int k = 0; k < 4; k++) {
            due("link(0, " + k + ")", x.link(0, k), k + 1);
            due("link(1, " + k + ")", x.link(1, k), k == 1 ? 1 : 0);
            due("link(2, " + k + ")", x.link(2, k), NONE);
        }
        says("6 a 5th LINK of a THING");
        String four = A + "thing b size 1;" + "link a to b;".repeat(4);
        told(four + "link b to a;");
        faulty(four + "link a to b;", 6, four.length());
        faulty(four + "link b to a;link a", 6, four.length() + 12);
        faulty(four + " link a to c;", 6, four.length() + 1);
        faulty(four + "link", 1, four.length() + 4);
        faulty(four + "link c", 3, four.length() + 5);
    }

    private static void roots() {
        says("root NAME (the next ROOT: 8)");
        told("units 8;" + things(7) + "root a;root b;root c;root d;root e;root f;root g;");
        due("root(6)", x.root(6), 6);
        due("root(7)", x.root(7), NONE);
        String eight = "units 8;" + things(9) + "root a;root b;root c;root d;root e;root f;root g;root h;";
        told(eight);
        for (int r = 0; r < 8; r++) {
            due("root(" + r + ")", x.root(r), r);
        }
        faulty(eight + "root i;", 6, eight.length());
        faulty(eight + " root", 6, eight.length() + 1);
        faulty(eight + "root zz", 6, eight.length());
    }

    private static void churn() {
        says("churn N (0 .. 100; the last one counts, 0 without)");
        // Of 16 rows one takes b's link: each number below churn leaves it out once.
        String ab = "units 8;thing a size 1;thing b size 1;link a to b;root a;";
        int[][] rows = {{0, 1600}, {1, 1599}, {50, 1550}, {99, 1501}, {100, 1500}};
        for (int[] row : rows) {
            told(ab + "churn " + row[0] + ";");
            due("odds(1) by churn " + row[0], x.odds(1), row[1]);
        }
        faulty(ab + "churn 101;", 4, ab.length() + 6);
        faulty(ab + "churn 9999;", 4, ab.length() + 6);
        told(ab);
        due("odds(1) without", x.odds(1), 1600);
        told("units 8;churn 100;" + ab.substring(8) + "churn 7;");
        due("odds(1) by the last", x.odds(1), 1593);
        told("units 8;churn 100;" + ab.substring(8) + "churn 0;");
        due("odds(1) by the last", x.odds(1), 1600);
        says("pops TEST, fresh TEST, costs SUM (one each)");
        told("units 8;pops all;fresh all;costs 1;");
        told("units 8;costs 1;fresh all;pops all;");
        for (String one : List.of("pops all;", "fresh all;", "costs 1;")) {
            faulty("units 8;" + one + one, 6, 8 + one.length());
            faulty("units 8;" + one + "next; " + one.substring(0, 5).trim(), 6, 8 + one.length() + 6);
        }
    }

    // ---- SUMS and TESTS

    private static void worth(String sum, int want) {
        told("units 10;thing a size 4;root a;costs " + sum + ";");
        due("costs " + sum, x.later(1, 3), want);
    }

    private static void holds(String test, boolean want) {
        told("units 10;thing a size 4;root a;pops " + test + ";");
        due("pops " + test, x.thing(0, 8), want ? 1 : 0);
    }

    private static void limits() {
        says("each result above 10 to the 6 is that");
        holds("9999*100+99=9999*100+100", false);
        holds("9999*100+100-1=9999*100+99", true);
        holds("9999*100+100=9999*100+101", true);
        holds("9999*100+101-1=9999*100+99", true);
        holds("1000*1000=9999*9999", true);
        holds("1000*1000-1=999*1000+999", true);
        holds("1001*1000=1000*1000", true);
        worth("9999*9999-9999*100", 99);
        worth("9999*9999/9999", 99);
        worth("(9999*9999+9999)%10", 0);
        says("below -10 to the 6 likewise");
        holds("0-9999*100-99=0-9999*100-100", false);
        holds("0-9999*100-100=0-9999*100-101", true);
        holds("0-9999*100-101+1=0-9999*100-99", true);
        holds("(0-1000)*1000=(0-9999)*9999", true);
        holds("(0-1001)*1000+1=0-999*1000-999", true);
        worth("(0-9999)*9999+9999*100+109", 9);
        says("NUMBERS: N in a SUM is 0 .. 9999");
        worth("9999-9998", 1);
        worth("0", 0);
        worth("0000+0007", 7);
    }

    private static void divisions() {
        says("/ gives the greatest whole number not above");
        worth("7/2", 3);
        worth("6/2", 3);
        worth("(0-7)/2+50", 46);
        worth("(0-6)/2+50", 47);
        worth("7/(0-2)+50", 46);
        worth("(0-7)/(0-2)", 3);
        worth("1/2", 0);
        worth("(0-1)/9999+50", 49);
        worth("0/5+50", 50);
        says("% what is left (a less b times that)");
        worth("7%3", 1);
        worth("6%3", 0);
        worth("(0-7)%3", 2);
        worth("7%(0-3)+50", 48);
        worth("(0-7)%(0-3)+50", 49);
        worth("(0-6)%(0-3)+50", 50);
        says("by 0 both give 0");
        worth("7/0+50", 50);
        worth("7%0+50", 50);
        worth("0/0+50", 50);
        worth("(0-7)/(3-3)+50", 50);
        worth("(0-7)%(3-3)+50", 50);
    }

    private static void orders() {
        says("All from the left on");
        worth("9-3-2", 4);
        worth("9-3+2", 8);
        worth("40/4/5", 2);
        worth("40/4*5", 50);
        worth("7*3%4", 1);
        worth("17%7%2", 1);
        worth("9999*9999/9999%60", 40);
        says("SUM: PRODUCT { + or - PRODUCT }. PRODUCT: PART { * or / or % PART }");
        worth("2+3*4", 14);
        worth("2*3+4*5-6/2", 23);
        worth("50-7%4", 47);
        worth("(2+3)*4", 20);
        worth("9-(3-2)", 8);
        says("min ( SUM , SUM ) ; max ( SUM , SUM ) ; if ( TEST , SUM , SUM )");
        worth("min(3,4)", 3);
        worth("min(4,3)", 3);
        worth("min(0-4,3)+10", 6);
        worth("max(3,4)", 4);
        worth("max(4,3)", 4);
        worth("max(0-4,0-3)+10", 7);
        worth("if(all,3,4)", 3);
        worth("if(not all,3,4)", 4);
        says("SUM SIGN SUM, SIGN < or > or =");
        for (int a = 1; a <= 3; a++) {
            holds(a + "<2", a < 2);
            holds(a + ">2", a > 2);
            holds(a + "=2", a == 2);
        }
        says("TEST: BOTH { or BOTH }. BOTH: FACT { and FACT }");
        for (int bits = 0; bits < 8; bits++) {
            boolean[] b = {(bits & 1) != 0, (bits & 2) != 0, (bits & 4) != 0};
            String[] w = new String[3];
            for (int i = 0; i < 3; i++) {
                w[i] = b[i] ? "all" : "1=2";
            }
            holds(w[0] + " or " + w[1] + " and " + w[2], b[0] || b[1] && b[2]);
            holds(w[0] + " and " + w[1] + " or " + w[2], b[0] && b[1] || b[2]);
            holds("[" + w[0] + " or " + w[1] + "]and " + w[2], (b[0] || b[1]) && b[2]);
            holds("not " + w[0] + " or " + w[1] + " or " + w[2], !b[0] || b[1] || b[2]);
            holds("not " + w[0] + " and not " + w[1] + " and not " + w[2], !b[0] && !b[1] && !b[2]);
            holds("not[" + w[0] + " and " + w[1] + "]", !(b[0] && b[1]));
            holds("not not " + w[0], b[0]);
        }
    }

    private static void facts() {
        says("step; in pops, costs: size; refs; age; in fresh: trains; cars; load");
        for (String topic : List.of("pops ", "fresh ")) {
            for (String fact : List.of("step", "size", "refs", "age", "trains", "cars", "load")) {
                boolean can = fact.equals("step") || topic.equals("fresh ") == List.of("trains", "cars", "load").contains(fact);
                String text = "units 8;" + topic + fact + ">1;";
                if (can) {
                    told(text);
                } else {
                    faulty(text, 1, 8 + topic.length());
                }
                String costs = "units 8;costs 1+" + fact + ";";
                if (List.of("step", "size", "refs", "age").contains(fact)) {
                    told(costs);
                } else {
                    faulty(costs, 1, 16);
                }
            }
        }
        faulty("units 8;pops if(1<2,1,cars)>1;", 1, 22);
        faulty("units 8;fresh [1<refs];", 1, 17);
        faulty("units 8;costs if(load<2,1,1);", 1, 17);
        says("The STEP; of the THING its size, refs, for how many STEPS it has been there");
        String text = "units 9;thing a size 4;thing b size 3;link a to b;link b to a;link b to a;root a;root a;pops ";
        holdsOf(text, "size=4 and refs=2 and step=0 and age=0", 0);
        told(text + "step=7 and age=7;");
        x.make(1, 5);
        stepsTo(7);
        due("behind 7 steps", x.thing(0, 8), 1);
        x.make(1, 6);
        due("age of a new one", x.thing(x.root(6), 6), 0);
        due("its age is not the step", x.thing(x.root(6), 8), 0);
        says("how many TRAINS there are, how many CARS the last one has, how many units its THINGS take");
        String yard = "units 9;thing a size 9;next;thing b size 5;thing c size 6;thing d size 2;fresh ";
        freshHolds(yard, "trains=2", true);
        freshHolds(yard, "trains=1 or trains=3", false);
        freshHolds(yard, "cars=2", true);
        freshHolds(yard, "cars=1 or cars=3", false);
        freshHolds(yard, "load=13", true);
        freshHolds(yard, "load=12 or load=14", false);
        freshHolds(yard, "step=0", true);
        freshHolds(yard, "step>0", false);
    }

    private static void holdsOf(String text, String test, int thing) {
        told(text + test + ";");
        due("pops " + test, x.thing(thing, 8), 1);
    }

    private static void freshHolds(String text, String test, boolean want) {
        told(text + test + ";");
        int made = x.make(1, 0);
        due("fresh " + test, x.thing(made, 1), want ? x.has(3) - 1 : 1);
        due("fresh " + test + ": trains", x.has(3), want ? 3 : 2);
    }

    // ---- NAMES, NUMBERS, blanks

    private static void names() {
        says("NAMES: 1 to 6 letters");
        for (int n = 1; n <= 6; n++) {
            told("units 8;thing " + letters(n) + " size 1;root " + letters(n) + ";");
            for (int k = 0; k < 6; k++) {
                due("letter(0, " + k + ")", x.letter(0, k), k < n ? k + 1 : 0);
            }
        }
        told("units 8;thing zzzzzz size 1;thing zzzzz size 1;thing a size 1;thing aa size 1;root aa;");
        due("names of other lengths are unlike", x.root(0), 3);
        due("letter(0, 5)", x.letter(0, 5), 26);
        due("letter(1, 5)", x.letter(1, 5), 0);
        says("unlike ones; 2 a NAME that is there already, at its first byte");
        faulty(A + "thing a", 2, 29);
        faulty(A + "thing b size 3;thing  b size 9;", 2, 45);
        told(A + "thing aa size 3;thing b size 1;");
        faulty("units 8;thing abcdef size 1;thing abcdef size 1;", 2, 34);
        told("units 8;thing abcdef size 1;thing abcdeg size 1;thing bbcdef size 1;");
        says("told ahead of where they are asked; 3 a NAME that is none of a THING, at its first byte");
        faulty("units 8;root a;thing a size 3;", 3, 13);
        faulty("units 8;link a to a;thing a size 3;", 3, 13);
        faulty(A + "link a to b;thing b size 1;", 3, 33);
        faulty(A + "link b to a;thing b size 1;", 3, 28);
        faulty(A + "root aa;", 3, 28);
        faulty("units 8;thing aa size 3;root a;", 3, 29);
    }

    private static void seventhLetters() {
        says("a 7th letter, a 5th digit at itself, whatever may stand there");
        faulty("units 8;thing abcdefg size 1;", 1, 20);
        faulty("units 8;thing abcdefghijk size 1;", 1, 20);
        faulty("abcdefg", 1, 6);
        faulty("unitsxy 8;", 1, 6);
        faulty("units abcdefg;", 1, 12);
        faulty("units 8 abcdefg;", 1, 14);
        faulty("units 8;abcdefg;", 1, 14);
        faulty("units 8;thing thingxx size 1;", 1, 20);
        faulty(A + "root abcdefg;", 1, 34);
        faulty(A + "link a to abcdefg;", 1, 39);
        faulty("units 8;pops 1<abcdefg;", 1, 21);
        faulty("units 8;costs 1 abcdefg;", 1, 22);
        faulty("units 12345;", 1, 10);
        faulty("units 00008;", 1, 10);
        faulty("units 123456789;", 1, 10);
        faulty("12345", 1, 4);
        faulty("units 8;next 12345;", 1, 17);
        faulty("units 8;thing 12345;", 1, 18);
        faulty("units 8;thing a size 00001;", 1, 25);
        faulty("units 8;churn 00000;", 1, 18);
        faulty("units 8;costs 10000;", 1, 18);
        faulty("units 8;pops 1<2 12345;", 1, 21);
        says("1 the first byte with which no HEAP goes on: what is ahead of a 7th letter counts first");
        faulty("units 8 8 abcdefg;", 1, 8);
        faulty("units 7;thing abcdefg", 4, 6);
        faulty("units 8;root b;abcdefg", 3, 13);
        says("NUMBERS: 1 to 4 digits");
        told("units 0008;thing a size 0001;churn 0100;costs 0001;");
        told("units 8;churn 0;costs 9999;");
        due("has(0)", x.has(0), 8);
    }

    private static void blanks() {
        says("Blanks (10, 32) are where one likes");
        told(" units 8 ; ");
        told("\nunits\n8\n;\n");
        told("  \n units \n\n 8  ;\n\n thing  a   size\n3 ;link a\nto  a;root\na ; churn 5 ;");
        told("units 8;costs 1 + 2 * ( 3 - 4 ) / min ( 1 , 2 ) % if ( all , 1 , 2 ) ;");
        told("units 8;pops not [ 1 < 2 ] or all and 2 = 3 ;");
        told("units 8;pops not[1<2]or[1>2]and[1=2];costs min(1,2)*(3)/if([all],1,2);");
        for (char c : new char[] {0, 1, 9, 11, 12, 13, 31, 33, 95, 96, 123, 127, 128, 160, 255}) {
            faulty(c + "units 8;", 1, 0);
            faulty("units" + c + "8;", 1, 5);
            faulty("units 8" + c + ";", 1, 7);
            faulty("units 8;" + c, 1, 8);
            faulty("units 8;next" + c, 1, 12);
            faulty("units 8;costs 1+" + c + "1;", 1, 16);
        }
        says("words and numbers side by side need one");
        faulty("units8;", 1, 5);
        faulty("units 8thing a size 3;", 1, 7);
        faulty("units 8;thing a size3;", 1, 20);
        faulty("units 8;thing a1 size 3;", 1, 15);
        faulty("units 8;churn5;", 1, 13);
        faulty("units 8;costs1;", 1, 13);
        faulty("units 8;pops 1<2and all;", 1, 16);
        faulty("units 8;pops not1<2;", 1, 16);
        faulty("units 8;pops all or2<3;", 1, 19);
        told("units 8;pops 1<2 and all;");
        told("units 8;pops not 1<2;");
        says("letters: a .. z are those of NAMES and OWN WORDS");
        faulty("Units 8;", 1, 0);
        faulty("units 8;thing A size 3;", 1, 14);
        faulty("units 8;thing aB size 3;", 1, 15);
        told("units 8;thing az size 3;");
        says("NUMBERS: digits 0 .. 9");
        faulty("units 8/;", 1, 7);
        faulty("units 8:;", 1, 7);
        told("units 90;");
    }

    private static void ownWords() {
        says("OWN WORDS, which no NAME is: 1 an OWN WORD where a NAME must be");
        for (String own : OWN) {
            faulty("units 8;thing " + own + " size 3;", 1, 14);
            faulty(A + "root " + own + ";", 1, 28);
            faulty(A + "link " + own + " to a;", 1, 28);
            faulty(A + "link a to " + own + ";", 1, 33);
            String more = own.length() < 6 ? own + "x" : "x" + own.substring(1);
            told("units 8;thing " + more + " size 3;root " + more + ";");
            String less = own.substring(0, own.length() - 1);
            told("units 8;thing " + less + " size 3;root " + less + ";");
        }
        says("1 a NAME where an OWN WORD must be");
        faulty("unit 8;", 1, 0);
        faulty("units 8;things a size 3;", 1, 8);
        faulty("units 8;thing a sizes 3;", 1, 16);
        faulty(A + "link a too a;", 1, 30);
        faulty("units 8;costs mins(1,2);", 1, 14);
        faulty("units 8;pops alls;", 1, 13);
        faulty("units 8;pops all ands all;", 1, 17);
        faulty("units 8;a;", 1, 8);
        for (String own : List.of("size", "to", "step", "refs", "age", "trains", "cars", "load", "if", "or", "and", "not",
            "all", "min", "max")) {
            faulty("units 8;" + own + ";", 1, 8);
        }
    }

    // ---- FAULTS

    private static void tooSoon() {
        says("1 at the text's length, if it ends too soon");
        String[] tokens = ("units| 8|;|thing| a| size| 3|;|link| a| to| a|;|root| a|;|churn| 7|;|next|;|pops| not| [| 1| <| 2| ]"
            + "| or| all| and| (| 1| )| =| min| (| 2| ,| 3| )|;|fresh| load| >| 1|;|costs| if| (| all| ,| 1| ,| size| )| *| 2|;")
            .split("\\|");
        StringBuilder text = new StringBuilder();
        for (String token : tokens) {
            text.append(token);
            String soFar = text.toString();
            boolean whole = token.equals(";");
            for (String tail : List.of("", " ", "\n\n")) {
                if (whole) {
                    told(soFar + tail);
                } else {
                    faulty(soFar + tail, 1, soFar.length() + tail.length());
                }
            }
        }
        says("a text without a STATEMENT has FAULT 1 at its length");
        faulty("", 1, 0);
        faulty(" ", 1, 1);
        faulty("\n \n", 1, 3);
        faulty(" ".repeat(1600), 1, 1600);
        says("1 words and numbers whole, at their first byte");
        faulty("unit", 1, 0);
        faulty("units 8;thin", 1, 8);
        faulty(A + "link a t", 1, 30);
        faulty("units 8;costs siz", 1, 14);
        faulty("units 8 99;", 1, 8);
        faulty("units 8;next 12;", 1, 13);
        faulty("units 8;thing 12 size 3;", 1, 14);
        faulty("units 8;churn abc;", 1, 14);
        says("all of the tape may be text");
        told("units 8;" + " ".repeat(1600 - 16) + "churn 5;", 2);
        faulty("units 8;" + " ".repeat(1600 - 16) + "churn 5 ", 1, 1600);
    }

    private static void openOnes() {
        says("5 the 8th ( [ not that is open at once, at it");
        told("units 8;costs " + "(".repeat(7) + "1" + ")".repeat(7) + ";");
        faulty("units 8;costs " + "(".repeat(8) + "1" + ")".repeat(8) + ";", 5, 21);
        told("units 8;pops " + "[".repeat(7) + "all" + "]".repeat(7) + ";");
        faulty("units 8;pops " + "[".repeat(8) + "all" + "]".repeat(8) + ";", 5, 20);
        told("units 8;pops " + "not ".repeat(7) + "all;");
        faulty("units 8;pops " + "not ".repeat(8) + "all;", 5, 41);
        told("units 8;costs " + "min(1,".repeat(7) + "1" + ")".repeat(7) + ";");
        faulty("units 8;costs " + "min(1,".repeat(8) + "1" + ")".repeat(8) + ";", 5, 14 + 42 + 3);
        told("units 8;costs " + "max(".repeat(7) + "1" + ",1)".repeat(7) + ";");
        faulty("units 8;costs " + "max (".repeat(8), 5, 14 + 35 + 4);
        told("units 8;costs " + "if(1<".repeat(7) + "1" + ",1,1)".repeat(7) + ";");
        faulty("units 8;costs " + "if(1<".repeat(8), 5, 14 + 35 + 2);
        told("units 8;pops not[not[not[if(1<2,1,2)<(3)]]];");
        faulty("units 8;pops not[not[not[if(1<2,(", 5, 32);
        faulty("units 8;pops not[not[not[if((1", 5, 28);
        faulty("units 8;pops not[not[not[not all", 1, 32);
        faulty("units 8;pops not[not[not[not not all", 5, 29);
        faulty("units 8;pops ((((((((", 5, 20);
        faulty("units 8;fresh [[[[[[[not", 5, 21);
        says("5 .. that is open at once: closed ones are open no more");
        told("units 8;costs " + "(1)+".repeat(20) + "((((((1))))))*(((((((2)))))));");
        told("units 8;costs " + "min((1),(2))+".repeat(9) + "(((((((2)))))));");
        told("units 8;pops " + "[all]and ".repeat(20) + "[[[[[[[all]]]]]]];");
        told("units 8;pops ((((((1))))))<((((((2))))));fresh [[[[[[[all]]]]]]];costs (((((((1)))))));");
        says("5 (not until its FACT ends)");
        told("units 8;pops " + "not not not not not not not all and ".repeat(3) + "not all;");
        told("units 8;pops not not not not not not (1)<(2) or (((((((1)))))))<2;");
        told("units 8;pops not not not not not not not (1)<2;".replace("(1)", "1"));
        faulty("units 8;pops not not not not not not not (", 5, 41);
        faulty("units 8;pops not not not not not not not 1<(", 5, 43);
        faulty("units 8;pops not not not not not not [not ", 5, 38);
        told("units 8;pops not not not not not not [all] and not [not [not [not all]]];");
    }

    private static void allThree() {
        says("pops TEST, fresh TEST, costs SUM: each for itself, in any order, text by text");
        String[] three = {"pops 1+size*2=9 or[step>5 and not all];", "fresh load-1=min(3,9)+0*step;", "costs (1+2)*3+size*(2+3);"};
        int[][] orders = {{0, 1, 2}, {0, 2, 1}, {1, 0, 2}, {1, 2, 0}, {2, 0, 1}, {2, 1, 0}};
        for (int[] order : orders) {
            StringBuilder text = new StringBuilder("units 9;thing a size 4;thing b size 1;root b;");
            for (int i : order) {
                text.append(three[i]);
            }
            told(text.toString());
            due("pops of a", x.thing(0, 8), 1);
            due("pops of b", x.thing(1, 8), 0);
            due("costs of b", x.later(1, 3), 14);
            due("make", x.make(1, 7), 2);
            due("fresh does not hold by 5 - 1", x.thing(2, 1), 0);
            told(text.toString().replace("load-1", "load-2"));
            due("make", x.make(1, 7), 2);
            due("fresh holds by 5 - 2", x.thing(2, 1), 1);
        }
        anew();
        String sum = "1" + "+1".repeat(60);
        for (int i = 0; i < 12; i++) {
            told("units 9;thing a size 3;root a;costs " + sum + ";pops " + sum + "<" + sum + ";fresh " + sum + "=" + sum + ";");
            due("text " + i, x.later(1, 3), 61);
            due("text " + i, x.thing(0, 8), 0);
        }
        sum = "1" + "+1".repeat(770);
        told("units 9;thing a size 3;root a;costs " + sum + "-700;");
        due("a long text", x.later(1, 3), 71);
        told("units 9;thing a size 3;root a;");
        due("another without: costs", x.later(1, 3), 3);
    }

    private static void formulas() {
        says("1 the first byte with which no HEAP goes on, in SUMS and TESTS");
        String[][] rows = {{"costs ;", "6"}, {"costs 1+;", "8"}, {"costs +1;", "6"}, {"costs -1;", "6"}, {"costs 1 2;", "8"},
            {"costs 1**2;", "8"}, {"costs (1;", "8"}, {"costs 1);", "7"}, {"costs ();", "7"}, {"costs [1];", "6"},
            {"costs min;", "9"}, {"costs min 1;", "10"}, {"costs min(1);", "11"}, {"costs min(1;2);", "11"},
            {"costs min(1,2,3);", "13"}, {"costs min(all,1);", "10"}, {"costs if(1,2,3);", "10"}, {"costs if(all;", "12"},
            {"costs if(all,1);", "14"}, {"costs if(all,1,2,3);", "16"}, {"costs if(all,all,1);", "13"}, {"costs 1<2;", "7"},
            {"costs all;", "6"}, {"costs not 1;", "6"}, {"costs a;", "6"}, {"costs 1,2;", "7"}, {"pops ;", "5"},
            {"pops 1;", "6"}, {"pops 1<;", "7"}, {"pops 1<2<3;", "8"}, {"pops 1<=2;", "7"}, {"pops 1==2;", "7"},
            {"pops <2;", "5"}, {"pops all<2;", "8"}, {"pops all all;", "9"}, {"pops all or;", "11"}, {"pops or all;", "5"},
            {"pops and all;", "5"}, {"pops all and or all;", "13"}, {"pops not;", "8"}, {"pops [all;", "9"},
            {"pops [all);", "9"}, {"pops (1<2);", "7"}, {"pops (all);", "6"}, {"pops [1]<2;", "7"}, {"pops [];", "6"},
            {"pops [1<2]<3;", "10"}, {"pops if(all,1,2);", "16"}, {"pops min(1,2);", "13"}, {"pops 1<2 3;", "9"},
            {"pops all];", "8"}, {"fresh ;", "6"}, {"fresh all,;", "9"}, {"pops 1<2)", "8"}, {"pops (1]<2;", "7"}};
        for (String[] row : rows) {
            faulty("units 8;" + row[0], 1, 8 + Integer.parseInt(row[1]));
        }
        says("FAULTS, the first along the text");
        faulty("units 7;thing", 4, 6);
        faulty("units 8;thing a size 9;thing a", 4, 21);
        faulty(A + "thing a size 9;", 2, 29);
        faulty(A + "link b to c;", 3, 28);
        faulty(A + "thing b 9;root c", 1, 31);
        faulty("units 8;costs 1;costs ((((((((", 6, 16);
        faulty("units 8;pops ((((((((;units 7;", 5, 20);
        faulty(A + "link a to a;".repeat(4) + "link a to zz;", 6, A.length() + 48);
        faulty("units 8;" + things(24) + "thing a size 9;", 6, 8 + 24 * 15);
        says("4 a NUMBER that can't be, at its first byte");
        faulty("units  100;", 4, 7);
        faulty("units 8;thing a size\n 9;", 4, 22);
        faulty("units 8;churn  101;", 4, 15);
        faulty("units 8;thing a size 9999", 4, 21);
    }

    public static void main(String[] args) {
        statements();
        units();
        thingsTold();
        next();
        links();
        roots();
        churn();
        limits();
        divisions();
        orders();
        facts();
        names();
        seventhLetters();
        blanks();
        ownWords();
        tooSoon();
        openOnes();
        allThree();
        formulas();
        finish();
    }
}
