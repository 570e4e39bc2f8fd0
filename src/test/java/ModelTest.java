import java.util.ArrayList;
import java.util.List;
import java.util.Random;

/** Runs of calls by fixed seeds, each answered by the class and by the plain model alike. */
public final class ModelTest {
    private static int wrong = 0;
    private static long compared = 0;

    private final Random random;
    private final long run;
    private final TrainCollector x = new TrainCollector();
    private final PlainModel m = new PlainModel();
    private final List<String> log = new ArrayList<>();
    private int calls = 0;

    private ModelTest(long run) {
        this.run = run;
        random = new Random(run);
    }

    public static void main(String[] args) {
        long from = args.length > 0 ? Long.parseLong(args[0]) : 1;
        long runs = args.length > 1 ? Long.parseLong(args[1]) : 1500;
        for (long run = from; run < from + runs && wrong < 5; run++) {
            new ModelTest(run).play();
        }
        System.out.println(compared + " answers compared, " + wrong + " runs are wrong");
        if (wrong != 0) {
            System.exit(1);
        }
    }

    private boolean same(String call, long a, long b) {
        compared++;
        log.add(call + " = " + a);
        if (a != b) {
            wrong++;
            System.out.println("run " + run + ": " + call + " answered " + a + ", the model says " + b);
            for (String line : log.subList(Math.max(0, log.size() - 12), log.size())) {
                System.out.println("    " + line);
            }
        }
        return a == b;
    }

    private boolean same(String call, boolean a, boolean b) {
        return same(call, a ? 1 : 0, b ? 1 : 0);
    }

    private int below(int n) {
        return random.nextInt(n);
    }

    private boolean odds(int percent) {
        return below(100) < percent;
    }

    private void play() {
        boolean good = tell();
        if (odds(5)) {
            good = good && crowd();
        }
        int more = 10 + below(50);
        for (int i = 0; i < more && good && calls < 480; i++) {
            good = act() && look();
        }
    }

    // ---- texts

    private final StringBuilder text = new StringBuilder();

    private void word(String word) {
        if (text.length() > 0 && Character.isLetterOrDigit(text.charAt(text.length() - 1))
            && Character.isLetterOrDigit(word.charAt(0))) {
            text.append(odds(90) ? " " : "\n ");
        } else if (odds(5)) {
            text.append(odds(50) ? " " : "\n");
        }
        text.append(word);
    }

    private void words(String... all) {
        for (String word : all) {
            word(word);
        }
    }

    private void sum(int depth, boolean trains) {
        part(depth, trains);
        while (odds(35)) {
            word(List.of("+", "-", "*", "/", "%").get(below(5)));
            part(depth, trains);
        }
    }

    private void part(int depth, boolean trains) {
        int kind = depth > 0 ? below(9) : below(5);
        if (kind == 0) {
            word("" + (odds(80) ? below(9) : below(10000)));
        } else if (kind < 5) {
            word((trains ? List.of("step", "trains", "cars", "load") : List.of("step", "size", "refs", "age"))
                .get(below(4)));
        } else if (kind == 5) {
            word("(");
            sum(depth - 1, trains);
            word(")");
        } else {
            words(kind == 6 ? "min" : kind == 7 ? "max" : "if", "(");
            if (kind == 8) {
                test(depth - 1, trains);
                word(",");
            }
            sum(depth - 1, trains);
            word(",");
            sum(depth - 1, trains);
            word(")");
        }
    }

    private void test(int depth, boolean trains) {
        fact(depth, trains);
        while (odds(25)) {
            word(odds(50) ? "and" : "or");
            fact(depth, trains);
        }
    }

    private void fact(int depth, boolean trains) {
        int kind = depth > 0 ? below(8) : 3 + below(5);
        if (kind == 0) {
            word("not");
            fact(depth - 1, trains);
        } else if (kind == 1) {
            word("[");
            test(depth - 1, trains);
            word("]");
        } else if (kind == 2) {
            word("all");
        } else {
            sum(depth - 1, trains);
            word(List.of("<", ">", "=").get(below(3)));
            sum(depth - 1, trains);
        }
    }

    private String nameOf(int n) {
        return n % 3 == 0 ? "t" + (char) ('a' + n) : n % 3 == 1 ? "long" + (char) ('a' + n) + "x" : "" + (char) ('a' + n);
    }

    private String heapText() {
        text.setLength(0);
        int units = odds(70) ? 8 + below(12) : 8 + below(92);
        words("units", "" + units, ";");
        int depth = odds(90) ? 1 + below(3) : 8;
        int things = odds(10) ? below(27) : 3 + below(16);
        for (int t = 0; t < things; t++) {
            words("thing", nameOf(t), "size", "" + (1 + below(odds(50) ? units : 4)), ";");
            if (odds(25)) {
                words("next", ";");
            }
        }
        int links = things == 0 ? 0 : below(odds(80) ? 2 * things : 60);
        for (int i = 0; i < links; i++) {
            words("link", nameOf(below(things)), "to", nameOf(below(things)), ";");
        }
        int roots = things == 0 ? 0 : odds(97) ? below(5) : below(11);
        for (int i = 0; i < roots; i++) {
            words("root", nameOf(below(things)), ";");
        }
        if (odds(70)) {
            words("churn", "" + below(101), ";");
        }
        if (odds(60)) {
            word("pops");
            test(depth, false);
            word(";");
        }
        if (odds(50)) {
            word("fresh");
            test(depth, true);
            word(";");
        }
        if (odds(60)) {
            word("costs");
            sum(depth, false);
            word(";");
        }
        while (odds(20)) {
            words(odds(50) ? "next" : "churn 7", ";");
        }
        return odds(15) ? spoiled(text.toString()) : text.toString();
    }

    private String spoiled(String s) {
        StringBuilder b = new StringBuilder(s);
        int at = below(b.length());
        switch (below(7)) {
            case 0: b.setLength(at); break;
            case 1: b.deleteCharAt(at); break;
            case 2: b.setCharAt(at, (char) below(256)); break;
            case 3: b.insert(at, (char) ('a' + below(26))); break;
            case 4: b.insert(at, (char) ('0' + below(10))); break;
            case 5: b.insert(at, " " + PlainModel.OWN.get(below(24)) + " "); break;
            default: b.insert(at, "()[];,+<= \n".charAt(below(11))); break;
        }
        return b.toString();
    }

    private boolean put(String bytes) {
        boolean good = same("end(0)", x.end(0), m.end(0));
        for (int i = 0; i < bytes.length() && i < 1600; i += 20) {
            int[] five = new int[5];
            for (int k = 0; k < 20; k++) {
                five[k / 4] = five[k / 4] << 8 | (i + k < bytes.length() ? bytes.charAt(i + k) : 32);
            }
            good &= same("feed", x.feed(five[0], five[1], five[2], five[3], five[4]), m.feed(five));
            calls++;
        }
        calls += 2;
        int length = Math.min(bytes.length(), 1600);
        return good && same("end(" + length + ")", x.end(length), m.end(length));
    }

    private boolean tell() {
        String s = heapText();
        boolean good = put(s);
        log.add(s);
        calls++;
        good &= same("heap()", x.heap(), m.heap());
        for (int what = -1; what < 3; what++) {
            good &= same("fault(" + what + ")", x.fault(what), m.fault(what));
        }
        int t = below(27) - 1;
        for (int k = -1; k < 8; k++) {
            good &= same("letter(" + t + ", " + k + ")", x.letter(t, k), m.letter(t, k));
        }
        return good && look();
    }

    // ---- calls

    private int aThing() {
        return odds(90) ? below(24) : below(44) - 2;
    }

    private boolean act() {
        calls++;
        int a = aThing();
        int b = odds(85) ? aThing() : -1;
        int k = odds(95) ? below(4) : below(8) - 2;
        switch (below(16)) {
            case 0: case 1: case 2: case 3: {
                int n = odds(90) ? 1 + below(3) : below(70);
                return same("steps(" + n + ")", x.steps(n), m.steps(n));
            }
            case 4: case 5: {
                int n = odds(90) ? 1 + below(5) : below(70);
                return same("chance(" + n + ")", x.chance(n), m.chance(n));
            }
            case 6: case 7: {
                int size = odds(95) ? 1 + below(9) : below(102);
                int r = odds(95) ? below(8) : below(12) - 2;
                return same("make(" + size + ", " + r + ")", x.make(size, r), m.make(size, r));
            }
            case 8: case 9: case 10:
                return same("set(" + a + ", " + k + ", " + b + ")", x.set(a, k, b), m.set(a, k, b));
            case 11: {
                int r = odds(95) ? below(8) : below(12) - 2;
                return same("aim(" + r + ", " + b + ")", x.aim(r, b), m.aim(r, b));
            }
            case 12:
                return same("undo()", x.undo(), m.undo());
            case 13: {
                int s = random.nextInt();
                return same("seed(" + s + ")", x.seed(s), m.seed(s));
            }
            case 14:
                return odds(60) ? meet() : odds(80) ? true : tell();
            default:
                return odds(60) ? on() : true;
        }
    }

    /** Many things, most of them live, as far as there is room. */
    private boolean crowd() {
        boolean good = true;
        for (int i = 0; i < 45 && good; i++) {
            int size = 1 + below(odds(50) ? 3 : 9);
            int r = below(3);
            int old = m.root(r);
            int t = m.make(size, r);
            good = same("make(" + size + ", " + r + ")", x.make(size, r), t);
            if (t >= 0 && old >= 0 && odds(95)) {
                int k = below(4);
                good &= same("aim(3, " + old + ")", x.aim(3, old), m.aim(3, old));
                good &= same("set(" + t + ", " + k + ", " + old + ")", x.set(t, k, old), m.set(t, k, old));
            }
        }
        calls += 135;
        return good && look();
    }

    private boolean meet() {
        StringBuilder b = new StringBuilder();
        int rows = odds(90) ? 1 + below(2) : below(18);
        for (int i = 0; i < rows; i++) {
            int n = below(odds(90) ? 6 : 22);
            int kind = odds(95) ? below(3) : below(5);
            int number = odds(90) && kind < 3 && n <= 20 ? Math.max(0, m.later(n, kind)) : below(42);
            b.append((char) n).append((char) kind).append((char) number);
        }
        if (odds(5)) {
            b.append((char) 1);
        }
        return put(b.toString()) && same("meet()", x.meet(), m.meet());
    }

    private boolean on() {
        boolean good = same("image()", x.image(), m.image());
        List<Integer> bytes = new ArrayList<>(m.picture);
        if (odds(30)) {
            bytes.set(0, 3);
            bytes.set(1, 200 + below(34));
        }
        if (odds(60)) {
            bytes.set(below(bytes.size()), odds(70) ? below(45) : below(256));
        }
        if (odds(20)) {
            int i = 10 + below(bytes.size() - 10);
            bytes.set(i, bytes.get(i) + 1 & 255);
        }
        if (odds(5)) {
            bytes.remove(below(bytes.size()));
        }
        if (odds(5)) {
            bytes.add(below(bytes.size()), below(256));
        }
        if (odds(90)) {
            bytes.remove(bytes.size() - 1);
            bytes.add(PlainModel.check(bytes));
        }
        StringBuilder b = new StringBuilder();
        bytes.forEach(v -> b.append((char) v.intValue()));
        calls += 2;
        return good && put(b.toString()) && same("on()", x.on(), m.on());
    }

    private boolean look() {
        boolean good = same("image()", x.image(), m.image());
        for (int i = 0; i < m.picture.size() + 1; i++) {
            good &= same("octet(" + i + ")", x.octet(i), m.octet(i));
        }
        for (int what = -1; what < 12; what++) {
            good &= same("has(" + what + ")", x.has(what), m.has(what));
        }
        for (int k = -1; k < 42; k++) {
            for (int what = odds(10) ? -1 : 0; what < 3; what++) {
                good &= same("kept(" + k + ", " + what + ")", x.kept(k, what), m.kept(k, what));
            }
        }
        int n = below(64) - 1;
        for (int what = -1; what < 6; what++) {
            good &= same("later(" + n + ", " + what + ")", x.later(n, what), m.later(n, what));
            good &= same("later(1, " + what + ")", x.later(1, what), m.later(1, what));
        }
        for (int what = -1; what < 4; what++) {
            good &= same("holder(" + what + ")", x.holder(what), m.holder(what));
            good &= same("status(" + 2 * what + ")", x.status(2 * what), m.status(2 * what));
            good &= same("status(" + (2 * what + 1) + ")", x.status(2 * what + 1), m.status(2 * what + 1));
        }
        good &= same("clean()", x.clean(), m.clean());
        good &= same("odds(-1)", x.odds(-1), m.odds(-1));
        return good && lookAtThing(aThing()) && lookAtThing(aThing()) && lookAtTrain();
    }

    private boolean lookAtThing(int t) {
        boolean good = true;
        for (int what = -1; what < 10; what++) {
            good &= same("thing(" + t + ", " + what + ")", x.thing(t, what), m.thing(t, what));
        }
        for (int k = -1; k < 9; k++) {
            good &= same("link(" + t + ", " + k + ")", x.link(t, k), m.link(t, k));
            good &= same("root(" + k + ")", x.root(k), m.root(k));
        }
        good &= same("falls(" + t + ")", x.falls(t), m.falls(t));
        good &= same("retains(" + t + ")", x.retains(t), m.retains(t));
        good &= same("far(" + t + ")", x.far(t), m.far(t));
        good &= same("ring(" + t + ")", x.ring(t), m.ring(t));
        if (odds(20)) {
            good &= same("odds(" + t + ")", x.odds(t), m.odds(t));
        }
        if (odds(4)) {
            for (int k = -2; k < 4; k++) {
                good &= same("sizes(" + t + ", " + k + ")", x.sizes(t, k), m.sizes(t, k));
            }
        }
        if (m.units < 13 && odds(1)) {
            for (int what = -1; what < 4; what++) {
                good &= same("tells(" + t + ", " + what + ")", x.tells(t, what), m.tells(t, what));
            }
        }
        return good;
    }

    private boolean lookAtTrain() {
        boolean good = true;
        int train = below(6) - 1;
        int car = below(6) - 1;
        for (int what = -1; what < 5; what++) {
            good &= same("train(" + train + ", " + what + ")", x.train(train, what), m.train(train, what));
            good &= same("car(" + train + ", " + car + ", " + what + ")", x.car(train, car, what),
                m.car(train, car, what));
        }
        return good;
    }
}
