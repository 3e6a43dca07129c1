import java.nio.charset.StandardCharsets;
import java.util.ArrayList;
import java.util.HashMap;
import java.util.List;
import java.util.Map;
import java.util.NoSuchElementException;
import java.util.TreeSet;
import java.util.function.IntSupplier;
import java.util.function.Predicate;
import java.util.function.ToIntFunction;
import java.util.regex.Matcher;
import java.util.regex.Pattern;

/**
 * A second GhostAssize, written from the document by brute force: whole copies for what is undone, every row of
 * jolts ridden one by one, every set and pair of choices tried. RandomRunsTest holds the class against it.
 */
final class Model {
    static final class Prop {
        int deed;
        int jerk;
        int worn;
        int slot = -1;
    }

    static final class Accused {
        int deeds;
        int nerve;
        int knows;
        int state;
    }

    /** Somebody at a prop, as the law sees it. */
    record Sight(int number, Prop prop, int tense, Accused who) {
    }

    record Line(String kind, int n, Predicate<Sight> holds) {
    }

    static final class World {
        List<Prop> props = new ArrayList<>();
        List<Accused> people = new ArrayList<>();
        List<Line> law = null;
        List<int[]> log = new ArrayList<>();
        int calm = 2;
        int echo = 10;
        int day = 0;
        int seed = 1;
        int texts = 0;

        World copy() {
            World w = new World();
            for (Prop p : props) {
                Prop q = new Prop();
                q.deed = p.deed;
                q.jerk = p.jerk;
                q.worn = p.worn;
                q.slot = p.slot;
                w.props.add(q);
            }
            for (Accused a : people) {
                Accused b = new Accused();
                b.deeds = a.deeds;
                b.nerve = a.nerve;
                b.knows = a.knows;
                b.state = a.state;
                w.people.add(b);
            }
            w.law = law;
            w.log = new ArrayList<>(log);
            w.calm = calm;
            w.echo = echo;
            w.day = day;
            w.seed = seed;
            w.texts = texts;
            return w;
        }

        int propIn(int slot) {
            for (int i = 0; i < props.size(); i++) {
                if (props.get(i).slot == slot) {
                    return i;
                }
            }
            return -1;
        }

        List<Integer> nailed() {
            List<Integer> list = new ArrayList<>();
            for (int i = 0; i < props.size(); i++) {
                if (props.get(i).slot >= 0) {
                    list.add(i);
                }
            }
            return list;
        }

        List<Integer> waiting() {
            List<Integer> list = new ArrayList<>();
            for (int i = 0; i < people.size(); i++) {
                if (people.get(i).state == 0) {
                    list.add(i);
                }
            }
            return list;
        }

        int frights(int number, int tense, Accused who) {
            Prop p = props.get(number);
            int sum = p.jerk - p.worn / 10;
            if (law != null) {
                for (Line line : law) {
                    if (line.holds.test(new Sight(number, p, tense, who))) {
                        sum += line.kind.equals("fright") ? line.n : line.kind.equals("ease") ? -line.n : 0;
                    }
                }
            }
            return sum < 0 ? 0 : sum;
        }

        int wears(int number, int tense, Accused who) {
            int sum = 1;
            if (law != null) {
                for (Line line : law) {
                    if (line.kind.equals("wear") && line.holds.test(new Sight(number, props.get(number), tense, who))) {
                        sum += line.n;
                    }
                }
            }
            return sum;
        }

        int draw() {
            seed = seed * 1103515245 + 12345;
            return (seed >>> 16) & 0x7fff;
        }
    }

    /** What came of a ride. */
    static final class Told {
        int scream = -1;
        int tense = 0;
        Map<Integer, Integer> behind = new HashMap<>();
        Map<Integer, Integer> fright = new HashMap<>();
        Map<Integer, Integer> wear = new HashMap<>();
    }

    static Told ride(World w, Accused who, IntSupplier jolt, int eased, boolean toTheEnd) {
        Told told = new Told();
        for (int slot = 0; slot < 10; slot++) {
            int p = w.propIn(slot);
            if (p < 0) {
                told.tense = told.tense < w.calm ? 0 : told.tense - w.calm;
            } else {
                int by = p == eased ? 0 : w.frights(p, told.tense, who);
                told.fright.put(p, by);
                told.wear.put(p, w.wears(p, told.tense, who));
                told.tense += by + jolt.getAsInt();
            }
            told.behind.put(slot, told.tense);
            if (told.tense > who.nerve && !toTheEnd) {
                told.scream = slot;
                return told;
            }
        }
        return told;
    }

    static Told straightRide(World w, Accused who) {
        return ride(w, who, () -> 1, -1, false);
    }

    static void layOn(World w, Accused who, Told told) {
        for (Map.Entry<Integer, Integer> e : told.wear.entrySet()) {
            Prop p = w.props.get(e.getKey());
            p.worn = Math.min(99, p.worn + e.getValue());
            who.knows |= 1 << e.getKey();
        }
    }

    // ---- reading

    static final class Wrong extends RuntimeException {
        final int at;

        Wrong(int at) {
            this.at = at;
        }
    }

    record Thing(String text, int at) {
    }

    static final class Things {
        final List<Thing> list = new ArrayList<>();
        int i = 0;

        Things(String text) {
            Matcher m = Pattern.compile("[a-z]+|[0-9]+|[^ ]", Pattern.DOTALL).matcher(text);
            while (m.find()) {
                list.add(new Thing(m.group(), m.start()));
            }
            list.add(new Thing("", text.length()));
        }

        String see() {
            return list.get(i).text;
        }

        Wrong wrong() {
            return new Wrong(list.get(i).at);
        }

        boolean may(String s) {
            if (see().equals(s)) {
                i++;
                return true;
            }
            return false;
        }

        void must(String s) {
            if (!may(s)) {
                throw wrong();
            }
        }

        int number(int low, int high) {
            if (!see().matches("[0-9]{1,3}")) {
                throw wrong();
            }
            int n = Integer.parseInt(see());
            if (n < low || n > high) {
                throw wrong();
            }
            i++;
            return n;
        }
    }

    static void readCourt(World w, String text) {
        Things t = new Things(text);
        if (t.see().isEmpty()) {
            return;
        }
        int lines = 0;
        do {
            if (++lines > 14) {
                throw t.wrong();
            }
            String word = t.see();
            if (word.equals("prop") && w.props.size() < 8) {
                t.i++;
                readProp(w, t);
            } else if (word.equals("accused") && w.people.size() < 6) {
                t.i++;
                readAccused(w, t);
            } else if (t.may("calm")) {
                w.calm = t.number(0, 9);
            } else if (t.may("echo")) {
                w.echo = t.number(0, 20);
            } else if (t.may("day")) {
                w.day = t.number(0, 999);
            } else {
                throw t.wrong();
            }
        } while (t.may(";"));
        t.must("");
    }

    static void readProp(World w, Things t) {
        Prop p = new Prop();
        if (!t.see().matches("[a-f]")) {
            throw t.wrong();
        }
        p.deed = t.see().charAt(0) - 'a';
        t.i++;
        t.must("jerk");
        p.jerk = t.number(0, 20);
        if (t.may("at")) {
            p.slot = t.number(0, 9);
            if (w.propIn(p.slot) >= 0) {
                t.i--;
                throw t.wrong();
            }
        }
        if (t.may("worn")) {
            p.worn = t.number(0, 99);
        }
        w.props.add(p);
    }

    static void readAccused(World w, Things t) {
        Accused a = new Accused();
        t.must("nerve");
        a.nerve = t.number(1, 60);
        if (t.may("did")) {
            if (!t.see().matches("[a-f]+") || t.see().chars().distinct().count() != t.see().length()) {
                throw t.wrong();
            }
            for (char c : t.see().toCharArray()) {
                a.deeds |= 1 << (c - 'a');
            }
            t.i++;
        }
        if (t.may("knows")) {
            a.knows = 1 << t.number(0, w.props.size() - 1);
        }
        w.people.add(a);
    }

    static List<Line> readLaw(String text) {
        List<Line> lines = new ArrayList<>();
        Things t = new Things(text);
        if (t.see().isEmpty()) {
            return lines;
        }
        do {
            String kind = t.see();
            if (lines.size() == 12 || !kind.matches("fright|ease|wear")) {
                throw t.wrong();
            }
            t.i++;
            int n = t.number(0, 30);
            Predicate<Sight> holds = t.may("if") ? readAny(t, 0) : s -> true;
            lines.add(new Line(kind, n, holds));
        } while (t.may(";"));
        t.must("");
        return lines;
    }

    static Predicate<Sight> readAny(Things t, int deep) {
        Predicate<Sight> p = readEach(t, deep);
        while (t.may("or")) {
            p = p.or(readEach(t, deep));
        }
        return p;
    }

    static Predicate<Sight> readEach(Things t, int deep) {
        Predicate<Sight> p = readAtom(t, deep);
        while (t.may("and")) {
            p = p.and(readAtom(t, deep));
        }
        return p;
    }

    static Predicate<Sight> readAtom(Things t, int deep) {
        if (t.see().equals("not") || t.see().equals("(")) {
            if (deep == 6) {
                throw t.wrong();
            }
            if (t.may("not")) {
                return readAtom(t, deep + 1).negate();
            }
            t.must("(");
            Predicate<Sight> p = readAny(t, deep + 1);
            t.must(")");
            return p;
        }
        if (t.may("knows")) {
            return s -> (s.who.knows >> s.number & 1) == 1;
        }
        if (t.may("guilty")) {
            return s -> (s.who.deeds >> s.prop.deed & 1) == 1;
        }
        ToIntFunction<Sight> left = readSum(t);
        boolean less = t.see().equals("<");
        if (!less && !t.see().equals(">")) {
            throw t.wrong();
        }
        t.i++;
        ToIntFunction<Sight> right = readSum(t);
        return s -> less ? left.applyAsInt(s) < right.applyAsInt(s) : left.applyAsInt(s) > right.applyAsInt(s);
    }

    static ToIntFunction<Sight> readSum(Things t) {
        List<ToIntFunction<Sight>> parts = new ArrayList<>();
        do {
            parts.add(readPart(t));
        } while (t.may("+"));
        return s -> parts.stream().mapToInt(p -> p.applyAsInt(s)).sum();
    }

    static ToIntFunction<Sight> readPart(Things t) {
        if (t.may("prop")) {
            return s -> s.number;
        }
        if (t.may("slot")) {
            return s -> s.prop.slot;
        }
        if (t.may("jerk")) {
            return s -> s.prop.jerk;
        }
        if (t.may("worn")) {
            return s -> s.prop.worn;
        }
        if (t.may("tense")) {
            return s -> s.tense;
        }
        if (t.may("nerve")) {
            return s -> s.who.nerve;
        }
        int n = t.number(0, 999);
        return s -> n;
    }

    // ---- the face

    World w = new World();
    World image = null;
    List<World> undo = new ArrayList<>();
    byte[] tape = new byte[0];
    int fault = -1;

    int feed(int a, int b, int c, int d, int e) {
        if (tape.length + 20 > 400) {
            return -1;
        }
        byte[] more = java.util.Arrays.copyOf(tape, tape.length + 20);
        java.nio.ByteBuffer.wrap(more, tape.length, 20).putInt(a).putInt(b).putInt(c).putInt(d).putInt(e);
        tape = more;
        return tape.length;
    }

    boolean end(int n) {
        if (n < 0 || n > tape.length) {
            return false;
        }
        tape = java.util.Arrays.copyOf(tape, n);
        return true;
    }

    byte[] useUp() {
        byte[] was = tape;
        tape = new byte[0];
        return was;
    }

    int court() {
        String text = new String(useUp(), StandardCharsets.ISO_8859_1);
        World made = w.copy();
        fault = -1;
        try {
            readCourt(made, text);
        } catch (Wrong e) {
            fault = e.at;
            throw new IllegalArgumentException();
        }
        if (w.texts == 12) {
            throw new UnsupportedOperationException();
        }
        made.texts++;
        w = made;
        undo.clear();
        return w.texts;
    }

    int law() {
        String text = new String(useUp(), StandardCharsets.ISO_8859_1);
        fault = -1;
        try {
            w.law = readLaw(text);
        } catch (Wrong e) {
            fault = e.at;
            throw new IllegalArgumentException();
        }
        undo.clear();
        return w.law.size();
    }

    int fault() {
        return fault;
    }

    Prop propOf(int p) {
        if (p < 0 || p >= w.props.size()) {
            throw new IndexOutOfBoundsException();
        }
        return w.props.get(p);
    }

    Accused one(int a) {
        if (a < 0 || a >= w.people.size()) {
            throw new IndexOutOfBoundsException();
        }
        return w.people.get(a);
    }

    void slotIs(int s) {
        if (s < 0 || s > 9) {
            throw new IndexOutOfBoundsException();
        }
    }

    void argument(boolean right) {
        if (!right) {
            throw new IllegalArgumentException();
        }
    }

    void state(boolean right) {
        if (!right) {
            throw new IllegalStateException();
        }
    }

    void act() {
        undo.add(w.copy());
        if (undo.size() > 12) {
            undo.remove(0);
        }
    }

    int prop(int p, int what) {
        Prop x = propOf(p);
        return switch (what) {
            case 0 -> x.deed;
            case 1 -> x.jerk;
            case 2 -> x.worn;
            case 3 -> x.slot;
            default -> throw new NoSuchElementException();
        };
    }

    int slot(int s) {
        slotIs(s);
        return w.propIn(s);
    }

    int accused(int a, int what) {
        Accused x = one(a);
        return switch (what) {
            case 0 -> x.deeds;
            case 1 -> x.nerve;
            case 2 -> x.knows;
            case 3 -> x.state;
            default -> throw new NoSuchElementException();
        };
    }

    int fright(int a, int s, int tense, boolean wears) {
        Accused x = one(a);
        slotIs(s);
        argument(tense >= 0 && tense <= 99);
        int p = w.propIn(s);
        return p < 0 ? 0 : wears ? w.wears(p, tense, x) : w.frights(p, tense, x);
    }

    int send(int a) {
        state(one(a).state == 0);
        act();
        Accused x = one(a);
        Told told = ride(w, x, () -> w.draw() % 3, -1, false);
        layOn(w, x, told);
        x.state = told.scream >= 0 ? 1 : 2;
        w.log.add(0, new int[] {w.day, a, told.scream >= 0 ? told.scream : 10, told.tense});
        if (w.log.size() > 60) {
            w.log.remove(60);
        }
        return told.scream;
    }

    void nail(int p, int s) {
        propOf(p);
        slotIs(s);
        state(propOf(p).slot < 0 && w.propIn(s) < 0);
        act();
        propOf(p).slot = s;
    }

    int down(int s) {
        slotIs(s);
        int p = w.propIn(s);
        state(p >= 0);
        act();
        propOf(p).slot = -1;
        return p;
    }

    int mend(int p) {
        propOf(p);
        act();
        int was = propOf(p).worn;
        propOf(p).worn = 0;
        return was;
    }

    void recall(int a) {
        state(one(a).state == 2);
        act();
        one(a).state = 0;
    }

    int inside(int a) {
        state(one(a).state == 0);
        act();
        one(a).state = 3;
        return (int) w.people.stream().filter(x -> x.state == 3).count();
    }

    int calm(int n) {
        argument(n >= 0 && n <= 9);
        act();
        int was = w.calm;
        w.calm = n;
        return was;
    }

    int mornings(int n) {
        argument(n >= 1 && n <= 60);
        act();
        for (int i = 0; i < n; i++) {
            for (int p : w.nailed()) {
                w.props.get(p).worn -= w.props.get(p).worn > 0 ? 1 : 0;
            }
            w.day = w.day < 9999 ? w.day + 1 : 9999;
        }
        return w.nailed().stream().mapToInt(p -> w.props.get(p).worn).sum();
    }

    int straight(int a) {
        return straightRide(w, one(a)).scream;
    }

    int tense(int a, int s) {
        Accused x = one(a);
        slotIs(s);
        return straightRide(w, x).behind.getOrDefault(s, -1);
    }

    /** How many rows of jolts end in a scream in each slot; at 10 how many end without, at 11 how many there are. */
    static int[] rows(World w, Accused x) {
        int nailed = w.nailed().size();
        int all = 1;
        for (int i = 0; i < nailed; i++) {
            all *= 3;
        }
        int[] ends = new int[12];
        for (int row = 0; row < all; row++) {
            int[] left = {row};
            Told told = ride(w, x, () -> {
                int jolt = left[0] % 3;
                left[0] /= 3;
                return jolt;
            }, -1, false);
            ends[told.scream < 0 ? 10 : told.scream]++;
        }
        ends[11] = all;
        return ends;
    }

    static int oddsIn(World w, Accused x) {
        int[] ends = rows(w, x);
        return (int) ((ends[11] - ends[10]) * 10000L / ends[11]);
    }

    static int gapIn(World w) {
        int sum = 0;
        for (int a : w.waiting()) {
            Accused x = w.people.get(a);
            sum += (x.deeds == 0 ? 1 : -1) * oddsIn(w, x);
        }
        return sum;
    }

    int ways(int a) {
        int[] ends = rows(w, one(a));
        return ends[11] - ends[10];
    }

    int at(int a, int s) {
        Accused x = one(a);
        slotIs(s);
        return rows(w, x)[s];
    }

    int odds(int a) {
        return oddsIn(w, one(a));
    }

    int gap() {
        return gapIn(w);
    }

    int errors(boolean innocent) {
        int n = 0;
        for (int a : w.waiting()) {
            Accused x = w.people.get(a);
            if (!innocent && x.deeds != 0 && oddsIn(w, x) >= 5000) {
                n++;
            }
            if (innocent && x.deeds == 0 && oddsIn(w, x) < 5000) {
                n++;
            }
        }
        return n;
    }

    int swap() {
        int most = gapIn(w);
        int best = -1;
        for (int i = 0; i < 10; i++) {
            for (int j = i + 1; j < 10; j++) {
                World v = w.copy();
                int p = v.propIn(i);
                int q = v.propIn(j);
                if (p >= 0) {
                    v.props.get(p).slot = j;
                }
                if (q >= 0) {
                    v.props.get(q).slot = i;
                }
                if (gapIn(v) > most) {
                    most = gapIn(v);
                    best = 10 * i + j;
                }
            }
        }
        return best;
    }

    int next() {
        int most = Integer.MIN_VALUE;
        int best = -1;
        for (int code = 0; code < 80; code++) {
            int p = code / 10;
            int s = code % 10;
            if (p < w.props.size() && w.props.get(p).slot < 0 && w.propIn(s) < 0) {
                World v = w.copy();
                v.props.get(p).slot = s;
                if (gapIn(v) > most) {
                    most = gapIn(v);
                    best = code;
                }
            }
        }
        return best;
    }

    /** By set of deeds that fits: what frights in each slot. */
    Map<Integer, int[]> fitting(int nerve) {
        byte[] t = useUp();
        argument(t.length <= 40 && t.length % 2 == 0);
        for (int i = 0; i < t.length; i += 2) {
            argument((t[i] & 255) <= 9);
        }
        argument(nerve >= 1 && nerve <= 60);
        Map<Integer, int[]> map = new java.util.TreeMap<>();
        for (int set = 0; set < 64; set++) {
            Accused x = new Accused();
            x.deeds = set;
            x.nerve = nerve;
            Told told = ride(w, x, () -> 1, -1, true);
            int[] by = new int[10];
            for (int s = 0; s < 10; s++) {
                by[s] = told.fright.getOrDefault(w.propIn(s), 0);
            }
            boolean fits = true;
            for (int i = 0; i < t.length; i += 2) {
                fits &= by[t[i]] == (t[i + 1] & 255);
            }
            if (fits) {
                map.put(set, by);
            }
        }
        return map;
    }

    int found(int nerve, boolean sure) {
        Map<Integer, int[]> map = fitting(nerve);
        if (!sure) {
            return map.size();
        }
        return map.isEmpty() ? 0 : map.keySet().stream().reduce(63, (x, y) -> x & y);
    }

    int ask(int nerve) {
        Map<Integer, int[]> map = fitting(nerve);
        if (map.size() < 2) {
            return -1;
        }
        int best = -1;
        int least = 99;
        for (int s = 0; s < 10; s++) {
            if (w.propIn(s) >= 0) {
                int slot = s;
                int part = 0;
                for (int[] by : map.values()) {
                    part = Math.max(part, (int) map.values().stream().filter(o -> o[slot] == by[slot]).count());
                }
                if (part < least) {
                    least = part;
                    best = s;
                }
            }
        }
        return best;
    }

    int car(int a, int b) {
        Accused[] who = {one(a), one(b)};
        argument(a != b);
        int[] tense = {0, 0};
        int[] scream = {-1, -1};
        for (int s = 0; s < 10; s++) {
            int p = w.propIn(s);
            for (int k = 0; k < 2; k++) {
                if (scream[k] < 0) {
                    tense[k] = p < 0 ? Math.max(0, tense[k] - w.calm) : tense[k] + 1 + w.frights(p, tense[k], who[k]);
                    if (tense[k] > who[k].nerve) {
                        scream[k] = s;
                    }
                }
            }
            for (int k = 0; k < 2; k++) {
                if (scream[k] == s && scream[1 - k] < 0) {
                    tense[1 - k] += w.echo;
                    if (tense[1 - k] > who[1 - k].nerve) {
                        scream[1 - k] = s;
                    }
                    break;
                }
            }
        }
        return (scream[0] >= 0 ? 1 : 0) + (scream[1] >= 0 ? 2 : 0);
    }

    int corners(int a) {
        Accused x = one(a);
        int bits = 0;
        for (Map.Entry<Integer, Integer> e : straightRide(w, x).behind.entrySet()) {
            if (w.propIn(e.getKey()) < 0 && e.getValue() >= x.nerve / 2) {
                bits |= 1 << e.getKey();
            }
        }
        return bits;
    }

    static int fewest(TreeSet<Integer> sets) {
        int best = -1;
        for (int set : sets) {
            if (best < 0 || Integer.bitCount(set) < Integer.bitCount(best)) {
                best = set;
            }
        }
        return best;
    }

    int cover() {
        int shown = 0;
        for (Prop p : w.props) {
            shown |= 1 << p.deed;
        }
        int wanted = 0;
        for (int a : w.waiting()) {
            wanted |= w.people.get(a).deeds & shown;
        }
        TreeSet<Integer> sets = new TreeSet<>();
        for (int set = 0; set < 1 << w.props.size(); set++) {
            int by = 0;
            for (int p = 0; p < w.props.size(); p++) {
                by |= (set >> p & 1) << w.props.get(p).deed;
            }
            if ((wanted & ~by) == 0) {
                sets.add(set);
            }
        }
        return fewest(sets);
    }

    int leave() {
        TreeSet<Integer> sets = new TreeSet<>();
        for (int set = 0; set < 1 << w.props.size(); set++) {
            World v = w.copy();
            boolean canBe = true;
            for (int p = 0; p < v.props.size(); p++) {
                if ((set >> p & 1) == 1) {
                    canBe &= v.props.get(p).slot >= 0;
                    v.props.get(p).slot = -1;
                }
            }
            for (int a : v.waiting()) {
                Accused x = v.people.get(a);
                canBe &= x.deeds == 0 || straightRide(v, x).scream < 0;
            }
            if (canBe) {
                sets.add(set);
            }
        }
        return fewest(sets);
    }

    int bravest() {
        int best = -1;
        for (int a : w.waiting()) {
            if (best < 0 || oddsIn(w, w.people.get(a)) < oddsIn(w, w.people.get(best))) {
                best = a;
            }
        }
        return best;
    }

    int alike() {
        int n = 0;
        for (int a = 0; a < w.people.size(); a++) {
            for (int b = 0; b < a; b++) {
                Accused x = one(a);
                Accused y = one(b);
                n += x.deeds == y.deeds && x.nerve == y.nerve ? 1 : 0;
            }
        }
        return n;
    }

    boolean usherHas(int a, int taken, int eased) {
        World v = w.copy();
        if (taken >= 0) {
            v.props.get(taken).slot = -1;
        }
        return ride(v, v.people.get(a), () -> 1, eased, false).scream >= 0;
    }

    int usher(int a) {
        one(a);
        List<Integer> choices = new ArrayList<>(w.nailed());
        choices.add(-1);
        int n = 0;
        for (int u : choices) {
            for (int e : choices) {
                boolean usherHas = usherHas(a, u, e);
                boolean turns = false;
                for (int c : choices) {
                    turns |= usherHas ? !usherHas(a, u, c) : usherHas(a, c, e);
                }
                n += turns ? 0 : 1;
            }
        }
        return n;
    }

    int lasts(int p, int a) {
        propOf(p);
        one(a);
        World v = w.copy();
        for (int rides = 0; rides <= 60; rides++) {
            if (v.props.get(p).worn >= 50) {
                return rides;
            }
            Accused x = v.people.get(a);
            layOn(v, x, straightRide(v, x));
        }
        return -1;
    }

    int all(boolean queue) {
        World v = w.copy();
        int bits = 0;
        for (int a : w.waiting()) {
            Accused x = v.people.get(a);
            Told told = straightRide(v, x);
            bits |= told.scream >= 0 ? 1 << a : 0;
            if (queue) {
                layOn(v, x, told);
            }
        }
        return bits;
    }

    int share(int p, int a) {
        propOf(p);
        Told told = straightRide(w, one(a));
        int sum = told.fright.values().stream().mapToInt(i -> i).sum();
        return sum == 0 ? 0 : told.fright.getOrDefault(p, 0) * 100 / sum;
    }

    int loudest() {
        int[] by = new int[10];
        for (int a : w.waiting()) {
            int[] ends = rows(w, w.people.get(a));
            for (int s = 0; s < 10; s++) {
                by[s] += ends[s];
            }
        }
        int best = -1;
        for (int p : w.nailed()) {
            int here = by[w.props.get(p).slot];
            if (here > 0 && (best < 0 || here > by[w.props.get(best).slot])) {
                best = p;
            }
        }
        return best;
    }

    int trialFrom(int n, int seed) {
        World v = w.copy();
        v.seed = seed;
        int screams = 0;
        for (int i = 0; i < n; i++) {
            for (int a : v.waiting()) {
                screams += ride(v, v.people.get(a), () -> v.draw() % 3, -1, false).scream >= 0 ? 1 : 0;
            }
        }
        return screams;
    }

    int trial(int n) {
        argument(n >= 0 && n <= 20);
        return trialFrom(n, w.seed);
    }

    int span(int n, boolean most) {
        argument(n >= 0 && n <= 20);
        TreeSet<Integer> made = new TreeSet<>();
        for (int seed = 1; seed <= 6; seed++) {
            made.add(trialFrom(n, seed));
        }
        return most ? made.last() : made.first();
    }

    int led(int a, boolean scream) {
        one(a);
        return (int) w.log.stream().filter(r -> r[1] == a && (!scream || r[2] != 10)).count();
    }

    int log(int ago, int what) {
        if (what < 0 || what > 3) {
            throw new NoSuchElementException();
        }
        return ago < 0 || ago >= w.log.size() ? -1 : w.log.get(ago)[what];
    }

    int seed(int n) {
        int was = w.seed;
        w.seed = n;
        return was;
    }

    boolean undo() {
        if (undo.isEmpty()) {
            return false;
        }
        w = undo.remove(undo.size() - 1);
        return true;
    }

    void image() {
        image = w.copy();
    }

    boolean back() {
        if (image == null) {
            return false;
        }
        w = image.copy();
        undo.clear();
        return true;
    }

    int count(int what) {
        int bits = 0;
        switch (what) {
            case 0:
                return w.props.size();
            case 1:
                return w.people.size();
            case 2:
                return w.texts;
            case 3:
                return w.law == null ? -1 : w.law.size();
            case 4:
                return w.day;
            case 5:
                return w.calm;
            case 6:
                return w.echo;
            case 7:
                for (int p : w.nailed()) {
                    bits |= 1 << w.props.get(p).slot;
                }
                return bits;
            case 8, 9, 10, 11:
                for (int a = 0; a < w.people.size(); a++) {
                    bits |= w.people.get(a).state == what - 8 ? 1 << a : 0;
                }
                return bits;
            case 12:
                return w.props.stream().mapToInt(p -> p.worn).sum();
            case 13:
                return w.log.size();
            case 14:
                return undo.size();
            default:
                return -1;
        }
    }
}
