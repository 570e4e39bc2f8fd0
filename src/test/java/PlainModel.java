import java.util.ArrayList;
import java.util.Arrays;
import java.util.HashMap;
import java.util.List;
import java.util.Map;

/**
 * The document once more, told as plainly as it goes with lists, exceptions and no thought of speed:
 * what the class answers is compared with what this answers.
 */
final class PlainModel {
    static final int NONE = -1;

    interface Sum {
        int of(Map<String, Integer> facts);
    }

    static final class Fault extends RuntimeException {
        private static final long serialVersionUID = 1L;
        final int kind;
        final int place;

        Fault(int kind, int place) {
            this.kind = kind;
            this.place = place;
        }
    }

    static final class Thing {
        int number;
        int size;
        int age;
        boolean marked;
        Thing[] links = new Thing[4];
        Train train;
        Car car;
    }

    static final class Car {
        List<Thing> things = new ArrayList<>();

        int units() {
            return things.stream().mapToInt(t -> t.size).sum();
        }
    }

    static final class Train {
        List<Car> cars = new ArrayList<>();
    }

    /** All that a step changes. */
    static final class World {
        List<Train> trains = new ArrayList<>();
        Thing[] things = new Thing[40];
        Thing[] roots = new Thing[8];
        int step;
        List<int[]> kept = new ArrayList<>();

        World copy() {
            World w = new World();
            Map<Thing, Thing> twin = new HashMap<>();
            for (Thing t : all()) {
                Thing u = new Thing();
                u.number = t.number;
                u.size = t.size;
                u.age = t.age;
                u.marked = t.marked;
                twin.put(t, u);
                w.things[t.number] = u;
            }
            for (Thing t : all()) {
                for (int k = 0; k < 4; k++) {
                    twin.get(t).links[k] = twin.get(t.links[k]);
                }
            }
            for (Train train : trains) {
                Train v = new Train();
                w.trains.add(v);
                for (Car car : train.cars) {
                    Car d = new Car();
                    v.cars.add(d);
                    for (Thing t : car.things) {
                        Thing u = twin.get(t);
                        d.things.add(u);
                        u.car = d;
                        u.train = v;
                    }
                }
            }
            for (int r = 0; r < 8; r++) {
                w.roots[r] = twin.get(roots[r]);
            }
            w.step = step;
            w.kept.addAll(kept);
            return w;
        }

        List<Thing> all() {
            List<Thing> all = new ArrayList<>();
            for (Thing t : things) {
                if (t != null) {
                    all.add(t);
                }
            }
            return all;
        }

        boolean rooted(Thing t) {
            return Arrays.asList(roots).contains(t);
        }

        List<Thing> live() {
            List<Thing> seen = new ArrayList<>();
            for (Thing r : roots) {
                visit(r, seen);
            }
            seen.sort((a, b) -> a.number - b.number);
            return seen;
        }

        static void visit(Thing t, List<Thing> seen) {
            if (t != null && !seen.contains(t)) {
                seen.add(t);
                for (Thing to : t.links) {
                    visit(to, seen);
                }
            }
        }

        int refs(Thing t, List<Thing> within) {
            int n = 0;
            for (Thing r : roots) {
                n += r == t ? 1 : 0;
            }
            for (Thing s : all()) {
                for (Thing to : s.links) {
                    n += to == t && !within.contains(s) ? 1 : 0;
                }
            }
            return n;
        }

        int allCars() {
            return trains.stream().mapToInt(t -> t.cars.size()).sum();
        }

        void lay(Thing t, Train train, int units) {
            Car last = train.cars.isEmpty() ? null : train.cars.get(train.cars.size() - 1);
            if (last == null || last.units() + t.size > units) {
                last = new Car();
                train.cars.add(last);
            }
            last.things.add(t);
            t.car = last;
            t.train = train;
        }
    }

    static final class Outcome {
        int fell;
        int moved;
        int cost;
        boolean futile;
    }

    final List<Integer> tape = new ArrayList<>();
    World now = new World();
    List<World> past = new ArrayList<>();
    int units;
    int churn;
    List<String> names = new ArrayList<>();
    Sum pops;
    Sum fresh;
    Sum costs;
    int fault;
    int place = NONE;
    int[] refused = new int[6];
    long seed = 1;
    List<int[]> met = new ArrayList<>();
    List<Integer> picture = new ArrayList<>();

    // ---- the text

    private String text;
    private int pos;
    private int open;
    private boolean aboutTrains;

    static final List<String> OWN = List.of("units", "thing", "size", "next", "link", "to", "root", "churn", "pops",
        "fresh", "costs", "step", "refs", "age", "trains", "cars", "load", "if", "or", "and", "not", "all", "min", "max");

    static boolean letter(char c) {
        return c >= 'a' && c <= 'z';
    }

    static boolean digit(char c) {
        return c >= '0' && c <= '9';
    }

    private void blanks() {
        while (pos < text.length() && (text.charAt(pos) == 10 || text.charAt(pos) == 32)) {
            pos++;
        }
    }

    /** The token that is next, "" at the end; nothing is passed by. */
    private String peek() {
        blanks();
        if (pos == text.length()) {
            return "";
        }
        char c = text.charAt(pos);
        if (pos > 0) {
            char b = text.charAt(pos - 1);
            if (letter(b) && digit(c) || digit(b) && letter(c)) {
                throw new Fault(1, pos);
            }
        }
        if (!letter(c) && !digit(c)) {
            return "" + c;
        }
        int end = pos;
        while (end < text.length() && (letter(c) ? letter(text.charAt(end)) : digit(text.charAt(end)))) {
            end++;
        }
        int most = letter(c) ? 6 : 4;
        if (end - pos > most) {
            throw new Fault(1, pos + most);
        }
        return text.substring(pos, end);
    }

    private void pass() {
        pos += peek().length();
    }

    private Fault wrong() {
        peek();
        return new Fault(1, pos);
    }

    private boolean is(String what) {
        return peek().equals(what);
    }

    private void must(String what) {
        if (!is(what)) {
            throw wrong();
        }
        pass();
    }

    private int number(int low, int high) {
        String s = peek();
        if (s.isEmpty() || !digit(s.charAt(0))) {
            throw wrong();
        }
        int n = Integer.parseInt(s);
        if (n < low || n > high) {
            throw new Fault(4, pos);
        }
        pass();
        return n;
    }

    private String name() {
        String s = peek();
        if (s.isEmpty() || !letter(s.charAt(0)) || OWN.contains(s)) {
            throw wrong();
        }
        return s;
    }

    private int told() {
        int n = names.indexOf(name());
        if (n < 0) {
            throw new Fault(3, pos);
        }
        return n;
    }

    static int bound(long x) {
        return (int) Math.max(-1000000, Math.min(1000000, x));
    }

    private void openOne() {
        peek();
        if (++open == 8) {
            throw new Fault(5, pos);
        }
        pass();
    }

    private void close(String sign) {
        must(sign);
        open--;
    }

    private Sum test() {
        Sum a = both();
        while (is("or")) {
            pass();
            Sum left = a;
            Sum right = both();
            a = f -> left.of(f) != 0 || right.of(f) != 0 ? 1 : 0;
        }
        return a;
    }

    private Sum both() {
        Sum a = fact();
        while (is("and")) {
            pass();
            Sum left = a;
            Sum right = fact();
            a = f -> left.of(f) != 0 && right.of(f) != 0 ? 1 : 0;
        }
        return a;
    }

    private Sum fact() {
        if (is("not")) {
            openOne();
            Sum a = fact();
            open--;
            return f -> a.of(f) != 0 ? 0 : 1;
        }
        if (is("[")) {
            openOne();
            Sum a = test();
            close("]");
            return a;
        }
        if (is("all")) {
            pass();
            return f -> 1;
        }
        Sum left = sum();
        String sign = peek();
        if (!List.of("<", ">", "=").contains(sign)) {
            throw wrong();
        }
        pass();
        Sum right = sum();
        return f -> {
            int c = Integer.compare(left.of(f), right.of(f));
            return (sign.equals("<") ? c < 0 : sign.equals(">") ? c > 0 : c == 0) ? 1 : 0;
        };
    }

    private Sum sum() {
        Sum a = product();
        while (is("+") || is("-")) {
            int by = is("+") ? 1 : -1;
            pass();
            Sum left = a;
            Sum right = product();
            a = f -> bound((long) left.of(f) + (long) by * right.of(f));
        }
        return a;
    }

    private Sum product() {
        Sum a = part();
        while (is("*") || is("/") || is("%")) {
            String sign = peek();
            pass();
            Sum left = a;
            Sum right = part();
            a = f -> {
                long x = left.of(f);
                long y = right.of(f);
                if (sign.equals("*")) {
                    return bound(x * y);
                }
                if (y == 0) {
                    return 0;
                }
                long whole = (long) Math.floor((double) x / (double) y);
                return bound(sign.equals("/") ? whole : x - y * whole);
            };
        }
        return a;
    }

    private Sum part() {
        String s = peek();
        if (!s.isEmpty() && digit(s.charAt(0))) {
            int n = number(0, 9999);
            return f -> n;
        }
        boolean fact = s.equals("step")
            || (aboutTrains ? List.of("trains", "cars", "load") : List.of("size", "refs", "age")).contains(s);
        if (fact) {
            pass();
            return f -> f.get(s);
        }
        if (s.equals("(")) {
            openOne();
            Sum a = sum();
            close(")");
            return a;
        }
        if (!List.of("min", "max", "if").contains(s)) {
            throw wrong();
        }
        pass();
        if (!is("(")) {
            throw wrong();
        }
        openOne();
        Sum t = null;
        if (s.equals("if")) {
            t = test();
            must(",");
        }
        Sum a = sum();
        must(",");
        Sum b = sum();
        close(")");
        Sum test = t;
        return f -> s.equals("if") ? (test.of(f) != 0 ? a : b).of(f)
            : s.equals("min") ? Math.min(a.of(f), b.of(f)) : Math.max(a.of(f), b.of(f));
    }

    private int statements(World w) {
        int count = 0;
        int rooted = 0;
        int[] linked = new int[24];
        boolean begin = true;
        while (true) {
            blanks();
            if (pos == text.length()) {
                if (count == 0) {
                    throw new Fault(1, pos);
                }
                return count;
            }
            int at = pos;
            if (count == 80) {
                throw new Fault(6, at);
            }
            String word = peek();
            if ((count == 0) != word.equals("units")) {
                throw new Fault(1, at);
            }
            if (word.equals("units")) {
                pass();
                units = number(8, 99);
            } else if (word.equals("thing")) {
                if (names.size() == 24) {
                    throw new Fault(6, at);
                }
                pass();
                String name = name();
                if (names.contains(name)) {
                    throw new Fault(2, pos);
                }
                pass();
                must("size");
                Thing t = new Thing();
                t.size = number(1, units);
                t.number = names.size();
                names.add(name);
                w.things[t.number] = t;
                if (begin) {
                    w.trains.add(new Train());
                }
                begin = false;
                w.lay(t, w.trains.get(w.trains.size() - 1), units);
            } else if (word.equals("next")) {
                pass();
                begin = true;
            } else if (word.equals("link")) {
                pass();
                int a = told();
                if (linked[a] == 4) {
                    throw new Fault(6, at);
                }
                pass();
                must("to");
                int b = told();
                pass();
                w.things[a].links[linked[a]++] = w.things[b];
            } else if (word.equals("root")) {
                if (rooted == 8) {
                    throw new Fault(6, at);
                }
                pass();
                w.roots[rooted++] = w.things[told()];
                pass();
            } else if (word.equals("churn")) {
                pass();
                churn = number(0, 100);
            } else if (word.equals("pops") || word.equals("fresh")) {
                aboutTrains = word.equals("fresh");
                if ((aboutTrains ? fresh : pops) != null) {
                    throw new Fault(6, at);
                }
                pass();
                Sum a = test();
                if (aboutTrains) {
                    fresh = a;
                } else {
                    pops = a;
                }
            } else if (word.equals("costs")) {
                if (costs != null) {
                    throw new Fault(6, at);
                }
                aboutTrains = false;
                pass();
                costs = sum();
            } else {
                throw new Fault(1, at);
            }
            must(";");
            count++;
        }
    }

    int heap() {
        StringBuilder b = new StringBuilder();
        tape.forEach(x -> b.append((char) x.intValue()));
        tape.clear();
        PlainModel fresher = new PlainModel();
        fresher.text = b.toString();
        World w = new World();
        try {
            int count = fresher.statements(w);
            units = fresher.units;
            churn = fresher.churn;
            names = fresher.names;
            pops = fresher.pops;
            fresh = fresher.fresh;
            costs = fresher.costs;
            now = w;
            past.clear();
            met.clear();
            fault = 0;
            place = NONE;
            return count;
        } catch (Fault f) {
            fault = f.kind;
            place = f.place;
            refused[1]++;
            return NONE;
        }
    }

    // ---- steps

    private Map<String, Integer> facts(World w, Thing t, List<Thing> car) {
        return Map.of("step", w.step, "size", t.size, "refs", w.refs(t, car), "age", t.age);
    }

    private boolean popular(World w, Thing t, List<Thing> car) {
        return pops == null ? w.refs(t, car) > 3 : pops.of(facts(w, t, car)) != 0;
    }

    /** Which rule a thing must by, 0: none. */
    private int rule(World w, Thing t, Train first, Car car) {
        if (w.rooted(t)) {
            return 1;
        }
        if (t.marked) {
            return 2;
        }
        int rule = 0;
        for (Thing s : w.all()) {
            if (Arrays.asList(s.links).contains(t)) {
                if (s.train != first) {
                    return 3;
                }
                if (s.car != car) {
                    rule = 4;
                }
            }
        }
        return rule;
    }

    private void fall(World w, Thing t, Outcome o) {
        w.things[t.number] = null;
        o.fell++;
    }

    Outcome stepOf(World w) {
        Outcome o = new Outcome();
        if (!w.trains.isEmpty()) {
            Train first = w.trains.get(0);
            boolean wanted = false;
            for (Thing t : w.all()) {
                if (t.train == first) {
                    wanted |= w.rooted(t);
                }
                for (Thing to : t.links) {
                    wanted |= to != null && to.train == first && t.train != first;
                }
            }
            if (!wanted) {
                for (Thing t : w.all()) {
                    if (t.train == first) {
                        fall(w, t, o);
                    }
                }
                w.trains.remove(first);
            } else {
                emptyCar(w, first, o);
            }
        }
        for (Thing t : w.all()) {
            t.age = Math.min(99, t.age + 1);
        }
        w.kept.add(new int[] {w.step, o.fell, o.moved});
        w.step++;
        return o;
    }

    private void emptyCar(World w, Train first, Outcome o) {
        Car car = first.cars.get(0);
        List<Thing> once = new ArrayList<>(car.things);
        Car stayed = new Car();
        Train home = null;
        boolean only4 = true;
        while (true) {
            Thing t = null;
            int rule = 5;
            for (Thing x : car.things) {
                int r = rule(w, x, first, car);
                if (r != 0 && r < rule) {
                    rule = r;
                    t = x;
                }
            }
            if (t == null) {
                break;
            }
            only4 &= rule == 4;
            Train to = first;
            if (rule <= 2) {
                to = w.trains.get(w.trains.size() - 1);
                if (to == first) {
                    to = new Train();
                    w.trains.add(to);
                }
            } else if (rule == 3) {
                int least = 99;
                for (Thing s : w.all()) {
                    if (s.train != first && Arrays.asList(s.links).contains(t)) {
                        least = Math.min(least, w.trains.indexOf(s.train));
                    }
                }
                to = w.trains.get(least);
            }
            boolean stays = popular(w, t, car.things);
            int cost = costs == null ? t.size : Math.max(0, Math.min(99, costs.of(facts(w, t, car.things))));
            car.things.remove(t);
            t.marked = false;
            o.moved++;
            if (stays) {
                home = home == null ? to : home;
                stayed.things.add(t);
                t.car = stayed;
                t.train = to;
            } else {
                o.cost += cost;
                w.lay(t, to, units);
            }
        }
        for (Thing t : new ArrayList<>(car.things)) {
            fall(w, t, o);
        }
        first.cars.remove(car);
        if (home != null) {
            stayed.things.sort((a, b) -> once.indexOf(a) - once.indexOf(b));
            home.cars.add(stayed);
            for (Thing t : stayed.things) {
                t.train = home;
            }
        }
        w.trains.removeIf(t -> t.cars.isEmpty());
        if (o.fell == 0 && only4) {
            o.futile = true;
            mark(w);
        }
    }

    private void mark(World w) {
        Train first = w.trains.get(0);
        Thing best = null;
        for (Car car : first.cars) {
            for (Thing t : car.things) {
                if (t.marked) {
                    return;
                }
                boolean asked = w.rooted(t);
                for (Thing s : w.all()) {
                    asked |= s.train != first && Arrays.asList(s.links).contains(t);
                }
                if (asked && best == null) {
                    best = t;
                }
            }
        }
        if (best != null) {
            best.marked = true;
        }
    }

    // ---- the face

    int refuse(int k) {
        refused[k]++;
        return NONE;
    }

    Thing there(int t) {
        return t >= 0 && t < 40 ? now.things[t] : null;
    }

    int feed(int... numbers) {
        if (tape.size() + 20 > 1600) {
            return refuse(0);
        }
        for (int n : numbers) {
            for (int s = 24; s >= 0; s -= 8) {
                tape.add(n >> s & 255);
            }
        }
        return tape.size();
    }

    boolean end(int n) {
        if (n < 0 || n > tape.size()) {
            refuse(0);
            return false;
        }
        tape.subList(n, tape.size()).clear();
        return true;
    }

    int fault(int what) {
        return what == 0 ? fault : what == 1 ? place : NONE;
    }

    int has(int what) {
        int[] all = {units, now.all().size(), now.live().size(), now.trains.size(), now.allCars(),
            now.all().stream().mapToInt(t -> t.size).sum(), now.step, Math.min(40, now.kept.size()), met.size(),
            past.size(), (int) seed};
        return what >= 0 && what < all.length ? all[what] : NONE;
    }

    int letter(int told, int k) {
        if (told < 0 || told >= names.size() || k < 0 || k > 5) {
            return NONE;
        }
        return k < names.get(told).length() ? names.get(told).charAt(k) - 'a' + 1 : 0;
    }

    int thing(int thing, int what) {
        Thing t = there(thing);
        if (t == null) {
            return NONE;
        }
        switch (what) {
            case 0: return t.size;
            case 1: return now.trains.indexOf(t.train);
            case 2: return t.train.cars.indexOf(t.car);
            case 3: return t.car.things.indexOf(t);
            case 4: return now.live().contains(t) ? 1 : 0;
            case 5: return now.refs(t, t.car.things);
            case 6: return t.age;
            case 7: return t.marked ? 1 : 0;
            case 8: return popular(now, t, t.car.things) ? 1 : 0;
            default: return NONE;
        }
    }

    static int numberOf(Thing t) {
        return t == null ? NONE : t.number;
    }

    int link(int thing, int k) {
        Thing t = there(thing);
        return t == null || k < 0 || k > 3 ? NONE : numberOf(t.links[k]);
    }

    int root(int k) {
        return k < 0 || k > 7 ? NONE : numberOf(now.roots[k]);
    }

    int train(int train, int what) {
        if (train < 0 || train >= now.trains.size()) {
            return NONE;
        }
        Train t = now.trains.get(train);
        List<Thing> group = new ArrayList<>();
        t.cars.forEach(c -> group.addAll(c.things));
        switch (what) {
            case 0: return t.cars.size();
            case 1: return group.size();
            case 2: return group.stream().mapToInt(x -> x.size).sum();
            case 3: return group.stream().mapToInt(x -> now.refs(x, group)).sum();
            default: return NONE;
        }
    }

    int car(int train, int car, int what) {
        if (train < 0 || train >= now.trains.size() || car < 0 || car >= now.trains.get(train).cars.size()) {
            return NONE;
        }
        List<Thing> group = now.trains.get(train).cars.get(car).things;
        switch (what) {
            case 0: return group.size();
            case 1: return group.stream().mapToInt(x -> x.size).sum();
            case 2: return group.stream().mapToInt(x -> now.refs(x, group)).sum();
            default: return NONE;
        }
    }

    int falls(int thing) {
        if (there(thing) == null) {
            return NONE;
        }
        World w = now.copy();
        for (int n = 1; n <= 60 && w.step < 999; n++) {
            stepOf(w);
            if (w.things[thing] == null) {
                return n;
            }
        }
        return NONE;
    }

    int clean() {
        List<Thing> rubbish = now.all();
        rubbish.removeAll(now.live());
        World w = now.copy();
        for (int n = 0; n <= 60; n++) {
            boolean gone = true;
            for (Thing t : rubbish) {
                gone &= w.things[t.number] == null;
            }
            if (gone) {
                return n;
            }
            if (w.step == 999) {
                return NONE;
            }
            stepOf(w);
        }
        return NONE;
    }

    int later(int n, int what) {
        if (units == 0 || n < 0 || n > 60 || now.step + n > 999) {
            return NONE;
        }
        World w = now.copy();
        int cost = 0;
        int futile = 0;
        for (int i = 0; i < n; i++) {
            Outcome o = stepOf(w);
            cost += o.cost;
            futile += o.futile ? 1 : 0;
        }
        int[] all = {w.trains.size(), w.allCars(), w.all().size(), cost, futile};
        return what >= 0 && what < 5 ? all[what] : NONE;
    }

    int retains(int thing) {
        if (there(thing) == null) {
            return NONE;
        }
        World w = now.copy();
        Thing gone = w.things[thing];
        for (Thing t : w.all()) {
            for (int k = 0; k < 4; k++) {
                t.links[k] = t.links[k] == gone ? null : t.links[k];
            }
        }
        for (int r = 0; r < 8; r++) {
            w.roots[r] = w.roots[r] == gone ? null : w.roots[r];
        }
        return now.live().size() - w.live().size();
    }

    int holder(int what) {
        int[] best = {NONE, NONE, NONE};
        int lives = now.live().size();
        for (int r = 0; r < 8; r++) {
            if (now.roots[r] != null) {
                World w = now.copy();
                w.roots[r] = null;
                if (lives - w.live().size() > best[2]) {
                    best = new int[] {NONE, r, lives - w.live().size()};
                }
            }
        }
        for (Thing t : now.live()) {
            for (int k = 0; k < 4; k++) {
                if (t.links[k] != null) {
                    World w = now.copy();
                    w.things[t.number].links[k] = null;
                    if (lives - w.live().size() > best[2]) {
                        best = new int[] {t.number, k, lives - w.live().size()};
                    }
                }
            }
        }
        return what < 0 || what > 2 ? NONE : best[what];
    }

    int far(int thing) {
        Thing t = there(thing);
        if (t == null) {
            return NONE;
        }
        List<Thing> seen = new ArrayList<>();
        for (Thing x : now.all()) {
            if (now.rooted(x)) {
                seen.add(x);
            }
        }
        for (int far = 0; far < 41; far++) {
            if (seen.contains(t)) {
                return far;
            }
            for (Thing x : new ArrayList<>(seen)) {
                seen.addAll(Arrays.asList(x.links).stream().filter(y -> y != null && !seen.contains(y)).distinct()
                    .toList());
            }
        }
        return NONE;
    }

    int ring(int thing) {
        Thing t = there(thing);
        if (t == null) {
            return NONE;
        }
        List<Thing> seen = new ArrayList<>();
        for (Thing to : t.links) {
            World.visit(to, seen);
        }
        return seen.contains(t) ? 1 : 0;
    }

    int odds(int thing) {
        List<Thing> live = now.live();
        int l = live.size();
        if (l == 0 || thing != NONE && there(thing) == null) {
            return NONE;
        }
        if (thing == NONE) {
            return 100 * l * 4 * l;
        }
        int count = (100 - churn) * 4 * l * l * (live.contains(there(thing)) ? 1 : 0);
        for (Thing a : live) {
            for (int k = 0; k < 4; k++) {
                for (Thing b : live) {
                    Thing old = a.links[k];
                    a.links[k] = b;
                    count += now.live().contains(there(thing)) ? churn : 0;
                    a.links[k] = old;
                }
            }
        }
        return count;
    }

    int meet() {
        List<Integer> bytes = new ArrayList<>(tape);
        tape.clear();
        List<int[]> rows = new ArrayList<>();
        boolean good = bytes.size() % 3 == 0 && !bytes.isEmpty() && bytes.size() <= 48;
        for (int i = 0; good && i < bytes.size(); i += 3) {
            int[] row = {bytes.get(i), bytes.get(i + 1), bytes.get(i + 2)};
            good = row[0] <= 20 && row[1] <= 2 && row[2] <= 40;
            rows.add(row);
        }
        if (!good) {
            return refuse(5);
        }
        met = rows;
        return rows.size();
    }

    /** [n][what] behind n steps, null for those that do not come. */
    private int[][] counts(int thing, int size) {
        World w = now.copy();
        w.things[thing].size = size;
        int[][] rows = new int[21][];
        for (int n = 0; n <= 20 && w.step <= 999; n++) {
            rows[n] = new int[] {w.trains.size(), w.allCars(), w.all().size()};
            stepOf(w);
        }
        return rows;
    }

    private List<Integer> sizesLeft(int thing) {
        List<Integer> left = new ArrayList<>();
        for (int s = 1; s <= units; s++) {
            int[][] rows = counts(thing, s);
            boolean good = true;
            for (int[] row : met) {
                good &= rows[row[0]] != null && rows[row[0]][row[1]] == row[2];
            }
            if (good) {
                left.add(s);
            }
        }
        return left;
    }

    int sizes(int thing, int k) {
        if (there(thing) == null) {
            return NONE;
        }
        List<Integer> left = sizesLeft(thing);
        return k == NONE ? left.size() : k >= 0 && k < left.size() ? left.get(k) : NONE;
    }

    int tells(int thing, int what) {
        if (there(thing) == null || what < 0 || what > 2) {
            return NONE;
        }
        List<Integer> left = sizesLeft(thing);
        int[] best = {NONE, NONE, 1000};
        for (int n = 1; n <= 20; n++) {
            for (int kind = 0; kind < 3; kind++) {
                Map<Integer, Integer> alike = new HashMap<>();
                for (int s : left) {
                    int[] row = counts(thing, s)[n];
                    if (row != null) {
                        alike.merge(row[kind], 1, Integer::sum);
                    }
                }
                int most = alike.values().stream().mapToInt(x -> x).max().orElse(1000);
                if (most < best[2]) {
                    best = new int[] {n, kind, most};
                }
            }
        }
        return best[0] == NONE ? NONE : best[what];
    }

    private void act() {
        past.add(now.copy());
        if (past.size() > 20) {
            past.remove(0);
        }
    }

    boolean canStep(int n) {
        return units > 0 && n >= 1 && n <= 60 && now.step + n <= 999;
    }

    int steps(int n) {
        if (!canStep(n)) {
            return refuse(2);
        }
        act();
        int fell = 0;
        for (int i = 0; i < n; i++) {
            fell += stepOf(now).fell;
        }
        return fell;
    }

    int draw(int m) {
        seed = (1103515245L * seed + 12345L) % (1L << 31);
        return (int) (seed / 64 % m);
    }

    int chance(int n) {
        if (!canStep(n)) {
            return refuse(2);
        }
        act();
        int times = 0;
        for (int i = 0; i < n; i++) {
            List<Thing> live = now.live();
            if (draw(100) < churn && !live.isEmpty()) {
                Thing a = live.get(draw(live.size()));
                int k = draw(4);
                a.links[k] = live.get(draw(live.size()));
                times++;
            }
            stepOf(now);
        }
        return times;
    }

    int make(int size, int root) {
        if (units == 0 || size < 1 || size > units || root < 0 || root > 7 || now.all().size() == 40) {
            return refuse(3);
        }
        act();
        boolean begins = now.trains.isEmpty();
        if (!begins) {
            Train last = now.trains.get(now.trains.size() - 1);
            int load = last.cars.stream().mapToInt(Car::units).sum();
            begins = fresh == null ? last.cars.size() > 3 : fresh.of(Map.of("step", now.step, "trains",
                now.trains.size(), "cars", last.cars.size(), "load", load)) != 0;
        }
        if (begins) {
            now.trains.add(new Train());
        }
        Thing t = new Thing();
        t.number = Arrays.asList(now.things).indexOf(null);
        t.size = size;
        now.things[t.number] = t;
        now.lay(t, now.trains.get(now.trains.size() - 1), units);
        now.roots[root] = t;
        return t.number;
    }

    private boolean alive(int t) {
        return there(t) != null && now.live().contains(there(t));
    }

    boolean set(int thing, int k, int to) {
        if (!alive(thing) || k < 0 || k > 3 || to != NONE && !alive(to) || link(thing, k) == to) {
            refuse(3);
            return false;
        }
        act();
        there(thing).links[k] = there(to);
        return true;
    }

    boolean aim(int root, int to) {
        if (root < 0 || root > 7 || to != NONE && !alive(to) || root(root) == to) {
            refuse(3);
            return false;
        }
        act();
        now.roots[root] = there(to);
        return true;
    }

    boolean undo() {
        if (past.isEmpty()) {
            refuse(4);
            return false;
        }
        now = past.remove(past.size() - 1);
        return true;
    }

    boolean seed(int x) {
        if (x < 0) {
            refuse(5);
            return false;
        }
        seed = x;
        return true;
    }

    int kept(int k, int what) {
        List<int[]> last = now.kept.subList(Math.max(0, now.kept.size() - 40), now.kept.size());
        return k < 0 || k >= last.size() || what < 0 || what > 2 ? NONE : last.get(k)[what];
    }

    static int check(List<Integer> bytes) {
        int c = 239;
        for (int b : bytes) {
            c = (5 * c + b) % 251;
        }
        return c;
    }

    int image() {
        picture.clear();
        picture.add(now.step >> 8);
        picture.add(now.step & 255);
        for (Thing r : now.roots) {
            picture.add(r == null ? 255 : r.number);
        }
        for (int n = 0; n < 40; n++) {
            Thing t = now.things[n];
            picture.add(t == null ? 0 : t.size);
            if (t != null) {
                picture.addAll(List.of(thing(n, 1), thing(n, 2), thing(n, 3), t.age, t.marked ? 1 : 0));
                for (Thing to : t.links) {
                    picture.add(to == null ? 255 : to.number);
                }
            }
        }
        picture.add(check(picture));
        return picture.size();
    }

    int octet(int k) {
        return k >= 0 && k < picture.size() ? picture.get(k) : NONE;
    }

    static void expect(boolean good) {
        if (!good) {
            throw new Fault(0, 0);
        }
    }

    boolean on() {
        List<Integer> b = new ArrayList<>(tape);
        tape.clear();
        World w = new World();
        try {
            expect(units > 0 && !b.isEmpty());
            expect(check(b.subList(0, b.size() - 1)) == b.remove(b.size() - 1));
            fill(w, b);
        } catch (Fault f) {
            refuse(5);
            return false;
        }
        now = w;
        past.clear();
        return true;
    }

    private static int take(List<Integer> b) {
        expect(!b.isEmpty());
        return b.remove(0);
    }

    private void fill(World w, List<Integer> b) {
        w.step = take(b) * 256 + take(b);
        expect(w.step <= 999);
        int[] roots = new int[8];
        for (int r = 0; r < 8; r++) {
            roots[r] = take(b);
        }
        int[][] where = new int[40][];
        int[][] links = new int[40][4];
        for (int n = 0; n < 40; n++) {
            int size = take(b);
            if (size > 0) {
                expect(size <= units);
                Thing t = new Thing();
                t.number = n;
                t.size = size;
                w.things[n] = t;
                where[n] = new int[] {take(b), take(b), take(b)};
                t.age = take(b);
                int flag = take(b);
                expect(t.age <= 99 && flag <= 1);
                t.marked = flag == 1;
                for (int k = 0; k < 4; k++) {
                    links[n][k] = take(b);
                }
            }
        }
        expect(b.isEmpty());
        for (int r = 0; r < 8; r++) {
            w.roots[r] = referred(w, roots[r]);
        }
        int left = 0;
        for (int n = 0; n < 40; n++) {
            if (where[n] != null) {
                left++;
                for (int k = 0; k < 4; k++) {
                    w.things[n].links[k] = referred(w, links[n][k]);
                }
            }
        }
        for (int train = 0; left > 0; train++) {
            Train v = new Train();
            w.trains.add(v);
            while (true) {
                Car c = new Car();
                while (true) {
                    Thing found = null;
                    for (int n = 0; n < 40; n++) {
                        if (where[n] != null
                            && Arrays.equals(where[n], new int[] {train, v.cars.size(), c.things.size()})) {
                            expect(found == null);
                            found = w.things[n];
                        }
                    }
                    if (found == null) {
                        break;
                    }
                    c.things.add(found);
                    found.car = c;
                    found.train = v;
                    left--;
                }
                if (c.things.isEmpty()) {
                    break;
                }
                expect(c.units() <= units);
                v.cars.add(c);
            }
            expect(!v.cars.isEmpty());
        }
    }

    private static Thing referred(World w, int n) {
        expect(n == 255 || n < 40 && w.things[n] != null);
        return n == 255 ? null : w.things[n];
    }

    int status(int what) {
        return what >= 0 && what < 6 ? refused[what] : NONE;
    }
}
