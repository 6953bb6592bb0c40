import java.util.ArrayDeque;
import java.util.ArrayList;
import java.util.Arrays;
import java.util.Collections;
import java.util.Deque;
import java.util.HashSet;
import java.util.List;
import java.util.NoSuchElementException;
import java.util.Set;

/** The document once more, in the plainest form and by brute force, to compare YearRope with. */
final class Model {

    private static final int NONE = -1;

    interface Condition {
        boolean holds(Rope rope, State state);
    }

    interface Sum {
        int of(Rope rope, State state);
    }

    record LawLine(String kind, int amount, Condition condition) { }

    record Row(int season, List<Integer> yarns, int load) { }

    record Order(int load, int length, int pay) { }

    static final class Yarn implements Cloneable {
        int strength;
        int length;
        int rot;
        int reign;

        Yarn copy() {
            try {
                return (Yarn) clone();
            } catch (CloneNotSupportedException e) {
                throw new AssertionError(e);
            }
        }
    }

    static final class Rope implements Cloneable {
        List<Integer> yarns = List.of();
        int length;
        int tar;
        int wear;
        int plies = 1;
        int load;
        boolean whipped;
        boolean broken;

        Rope copy() {
            try {
                return (Rope) clone();
            } catch (CloneNotSupportedException e) {
                throw new AssertionError(e);
            }
        }
    }

    static final class State {
        List<Yarn> yarns = new ArrayList<>();
        List<Rope> ropes = new ArrayList<>();
        List<Order> orders = new ArrayList<>();
        List<Row> log = new ArrayList<>();
        List<LawLine> law;
        int texts;
        int gale;
        int damp;
        int season;
        int seed = 1;
        int earned;
        int fell;
        int broke;

        State copy() {
            State s = new State();
            for (Yarn y : yarns) {
                s.yarns.add(y.copy());
            }
            for (Rope r : ropes) {
                s.ropes.add(r.copy());
            }
            s.orders.addAll(orders);
            s.log.addAll(log);
            s.law = law;
            s.texts = texts;
            s.gale = gale;
            s.damp = damp;
            s.season = season;
            s.seed = seed;
            s.earned = earned;
            s.fell = fell;
            s.broke = broke;
            return s;
        }

        int lawSum(String kind, Rope r) {
            int sum = 0;
            for (LawLine line : law == null ? List.<LawLine>of() : law) {
                if (line.kind.equals(kind) && (line.condition == null || line.condition.holds(r, this))) {
                    sum += line.amount;
                }
            }
            return sum;
        }

        int bears(Rope r) {
            int sum = 0;
            for (int y : r.yarns) {
                sum += Math.max(0, yarns.get(y).strength - yarns.get(y).rot);
            }
            sum = Math.max(0, sum + lawSum("bear", r) - lawSum("fail", r) - r.wear / 10);
            return r.broken ? 0 : sum * r.plies;
        }

        int wears(Rope r) {
            return law == null ? 1 : lawSum("wear", r);
        }

        int draw() {
            seed = (int) (1103515245L * seed + 12345L);
            return (seed & 0x7FFFFFFF) >> 16;
        }

        void breaks(Rope r) {
            log.add(new Row(season, r.yarns, r.load));
            fell += r.load;
            broke++;
            r.load = 0;
            r.broken = true;
        }

        void wearOn(Rope r, boolean gale) {
            if (r.load > 0 && r.load * (gale ? 2 : 1) > bears(r)) {
                breaks(r);
            } else {
                r.wear = Math.min(99, r.wear + wears(r));
                if (!r.whipped) {
                    r.length--;
                    if (r.length == 0) {
                        breaks(r);
                    }
                }
            }
        }

        void pass() {
            boolean storm = draw() % 100 < gale;
            for (Rope r : ropes) {
                if (!r.broken) {
                    wearOn(r, storm);
                }
            }
            for (Yarn y : yarns) {
                if (y.length > 0) {
                    boolean damps = draw() % 100 < damp;
                    if (damps && y.rot < 9) {
                        y.rot++;
                    }
                }
            }
            if (season < 9999) {
                season++;
            }
        }

        int brokenBits() {
            int bits = 0;
            for (int i = 0; i < ropes.size(); i++) {
                bits |= ropes.get(i).broken ? 1 << i : 0;
            }
            return bits;
        }

        int price(Yarn y) {
            return Math.max(0, y.strength * 3 - y.rot * 2) + y.reign;
        }

        int price(Rope r) {
            int sum = 0;
            for (int y : r.yarns) {
                sum += price(yarns.get(y));
            }
            return r.broken ? 0 : sum * r.length / 10;
        }

        int loads() {
            int sum = 0;
            for (Rope r : ropes) {
                sum += r.load;
            }
            return sum;
        }
    }

    // ---- texts

    static final class Wrong extends Exception {
        private static final long serialVersionUID = 1;
        final int at;

        Wrong(int at) {
            this.at = at;
        }
    }

    /** Things of a text: each as its letters, digits, or one byte, with where it begins; "" ends it. */
    static final class Things {
        final List<String> things = new ArrayList<>();
        final List<Integer> begins = new ArrayList<>();
        int next;

        Things(String text) {
            java.util.regex.Matcher m =
                    java.util.regex.Pattern.compile("[a-z]+|[0-9]+|[^ ]", java.util.regex.Pattern.DOTALL).matcher(text);
            while (m.find()) {
                things.add(m.group());
                begins.add(m.start());
            }
            things.add("");
            begins.add(text.length());
        }

        String peek() {
            return things.get(next);
        }

        Wrong wrong() {
            return new Wrong(begins.get(next));
        }

        boolean takes(String thing) {
            if (peek().equals(thing)) {
                next++;
                return true;
            }
            return false;
        }

        void needs(String thing) throws Wrong {
            if (!takes(thing)) {
                throw wrong();
            }
        }

        int number(int least, int most) throws Wrong {
            if (!peek().matches("[0-9]{1,3}")) {
                throw wrong();
            }
            int n = Integer.parseInt(peek());
            if (n < least || n > most) {
                throw wrong();
            }
            next++;
            return n;
        }
    }

    private static void readWalk(String text, State s) throws Wrong {
        Things t = new Things(text);
        if (t.takes("")) {
            return;
        }
        int lines = 0;
        do {
            lines++;
            if (lines > 14) {
                throw t.wrong();
            }
            readWalkLine(t, s);
        } while (t.takes(";"));
        t.needs("");
    }

    private static void readWalkLine(Things t, State s) throws Wrong {
        String word = t.peek();
        boolean full = word.equals("yarn") && s.yarns.size() == 10
                || word.equals("rope") && s.ropes.size() == 8 || word.equals("order") && s.orders.size() == 8;
        if (full || !List.of("yarn", "rope", "order", "hang", "tar", "whip", "gale", "damp").contains(word)) {
            throw t.wrong();
        }
        t.next++;
        switch (word) {
            case "yarn" -> {
                Yarn y = new Yarn();
                y.strength = t.number(1, 30);
                t.needs("long");
                y.length = t.number(0, 200);
                t.needs("rot");
                y.rot = t.number(0, 9);
                t.needs("reign");
                y.reign = t.number(0, 5);
                s.yarns.add(y);
            }
            case "rope" -> {
                Rope r = new Rope();
                List<Integer> ys = new ArrayList<>();
                int most = 200;
                for (int i = 0; i < 3; i++) {
                    Things before = t;
                    int at = t.next;
                    int y = t.number(0, s.yarns.size() - 1);
                    if (ys.contains(y)) {
                        before.next = at;
                        throw before.wrong();
                    }
                    ys.add(y);
                    most = Math.min(most, s.yarns.get(y).length);
                }
                t.needs("long");
                r.length = t.number(1, most);
                r.yarns = ys;
                for (int y : ys) {
                    s.yarns.get(y).length -= r.length;
                }
                s.ropes.add(r);
            }
            case "order" -> {
                int load = t.number(1, 400);
                t.needs("long");
                int length = t.number(1, 60);
                t.needs("pay");
                s.orders.add(new Order(load, length, t.number(0, 99)));
            }
            case "hang" -> {
                Rope r = readRope(t, s);
                r.load = t.number(0, 999);
            }
            case "tar" -> {
                Rope r = readRope(t, s);
                r.tar = t.number(0, 9);
            }
            case "whip" -> readRope(t, s).whipped = true;
            case "gale" -> s.gale = t.number(0, 100);
            default -> s.damp = t.number(0, 100);
        }
    }

    private static Rope readRope(Things t, State s) throws Wrong {
        int at = t.next;
        Rope r = s.ropes.get(s.ropes.isEmpty() ? t.number(1, 0) : t.number(0, s.ropes.size() - 1));
        if (r.broken) {
            t.next = at;
            throw t.wrong();
        }
        return r;
    }

    private static List<LawLine> readLaw(String text) throws Wrong {
        Things t = new Things(text);
        List<LawLine> lines = new ArrayList<>();
        if (t.takes("")) {
            return lines;
        }
        do {
            String kind = t.peek();
            if (lines.size() == 12 || !List.of("bear", "fail", "wear").contains(kind)) {
                throw t.wrong();
            }
            t.next++;
            int amount = t.number(0, 99);
            lines.add(new LawLine(kind, amount, t.takes("if") ? readAny(t, 0) : null));
        } while (t.takes(";"));
        t.needs("");
        return lines;
    }

    private static Condition readAny(Things t, int depth) throws Wrong {
        Condition left = readAll(t, depth);
        while (t.takes("or")) {
            Condition a = left;
            Condition b = readAll(t, depth);
            left = (r, s) -> a.holds(r, s) || b.holds(r, s);
        }
        return left;
    }

    private static Condition readAll(Things t, int depth) throws Wrong {
        Condition left = readAtom(t, depth);
        while (t.takes("and")) {
            Condition a = left;
            Condition b = readAtom(t, depth);
            left = (r, s) -> a.holds(r, s) && b.holds(r, s);
        }
        return left;
    }

    private static Condition readAtom(Things t, int depth) throws Wrong {
        if ((t.peek().equals("not") || t.peek().equals("(")) && depth == 6) {
            throw t.wrong();
        }
        if (t.takes("not")) {
            Condition a = readAtom(t, depth + 1);
            return (r, s) -> !a.holds(r, s);
        }
        if (t.takes("(")) {
            Condition a = readAny(t, depth + 1);
            t.needs(")");
            return a;
        }
        if (t.takes("whipped")) {
            return (r, s) -> r.whipped;
        }
        if (t.takes("winter")) {
            return (r, s) -> s.season % 4 == 3;
        }
        Sum left = readSum(t);
        if (t.takes("<")) {
            Sum right = readSum(t);
            return (r, s) -> left.of(r, s) < right.of(r, s);
        }
        t.needs(">");
        Sum right = readSum(t);
        return (r, s) -> left.of(r, s) > right.of(r, s);
    }

    private static Sum readSum(Things t) throws Wrong {
        Sum left = readPart(t);
        while (t.takes("+")) {
            Sum a = left;
            Sum b = readPart(t);
            left = (r, s) -> a.of(r, s) + b.of(r, s);
        }
        return left;
    }

    private static Sum readPart(Things t) throws Wrong {
        String word = t.peek();
        if (word.matches("[0-9]+")) {
            int n = t.number(0, 999);
            return (r, s) -> n;
        }
        if (!List.of("weak", "strong", "rot", "reigns", "tar", "worn", "long", "plies", "load").contains(word)) {
            throw t.wrong();
        }
        t.next++;
        return (r, s) -> fact(word, r, s);
    }

    private static int fact(String word, Rope r, State s) {
        List<Yarn> ys = new ArrayList<>();
        for (int y : r.yarns) {
            ys.add(s.yarns.get(y));
        }
        return switch (word) {
            case "weak" -> ys.stream().mapToInt(y -> y.strength).min().orElseThrow();
            case "strong" -> ys.stream().mapToInt(y -> y.strength).max().orElseThrow();
            case "rot" -> ys.stream().mapToInt(y -> y.rot).sum();
            case "reigns" -> (int) ys.stream().mapToInt(y -> y.reign).distinct().count();
            case "tar" -> r.tar;
            case "worn" -> r.wear;
            case "long" -> r.length;
            case "plies" -> r.plies;
            default -> r.load;
        };
    }

    // ---- the face

    private String tape = "";
    private int fault = NONE;
    private State s = new State();
    private State image;
    private final Deque<State> acts = new ArrayDeque<>();

    int feed(int a, int b, int c, int d, int e) {
        if (tape.length() + 20 > 400) {
            return NONE;
        }
        for (int n : new int[] {a, b, c, d, e}) {
            tape += "" + (char) (n >>> 24) + (char) (n >> 16 & 255) + (char) (n >> 8 & 255) + (char) (n & 255);
        }
        return tape.length();
    }

    boolean end(int n) {
        if (n < 0 || n > tape.length()) {
            return false;
        }
        tape = tape.substring(0, n);
        return true;
    }

    int walk() {
        State next = s.copy();
        String text = tape;
        tape = "";
        fault = NONE;
        try {
            readWalk(text, next);
        } catch (Wrong w) {
            fault = w.at;
            throw new IllegalArgumentException();
        }
        if (s.texts == 12) {
            throw new UnsupportedOperationException();
        }
        s = next;
        acts.clear();
        return ++s.texts;
    }

    int law() {
        String text = tape;
        tape = "";
        fault = NONE;
        try {
            s.law = readLaw(text);
        } catch (Wrong w) {
            fault = w.at;
            throw new IllegalArgumentException();
        }
        acts.clear();
        return s.law.size();
    }

    int fault() {
        return fault;
    }

    int yarn(int yarn, int what) {
        Yarn y = yarnAt(yarn);
        return switch (what) {
            case 0 -> y.strength;
            case 1 -> y.length;
            case 2 -> y.rot;
            case 3 -> y.reign;
            case 4 -> s.price(y);
            case 5 -> ropeBits(r -> r.yarns.contains(yarn));
            default -> throw new NoSuchElementException();
        };
    }

    int rope(int rope, int what) {
        Rope r = ropeAt(rope);
        return switch (what) {
            case 0, 1, 2 -> r.yarns.get(what);
            case 3 -> r.length;
            case 4 -> r.tar;
            case 5 -> r.wear;
            case 6 -> r.whipped ? 1 : 0;
            case 7 -> r.plies;
            case 8 -> r.broken ? 1 : 0;
            case 9 -> r.load;
            case 10 -> s.bears(r);
            case 11 -> s.wears(r);
            case 12 -> s.price(r);
            case 13 -> ropeBits(o -> o != r && new HashSet<>(o.yarns).equals(new HashSet<>(r.yarns)));
            default -> throw new NoSuchElementException();
        };
    }

    int order(int order, int what) {
        Order o = orderAt(order);
        return switch (what) {
            case 0 -> o.load;
            case 1 -> o.length;
            case 2 -> o.pay;
            default -> throw new NoSuchElementException();
        };
    }

    private Yarn yarnAt(int n) {
        if (n < 0 || n >= s.yarns.size()) {
            throw new IndexOutOfBoundsException();
        }
        return s.yarns.get(n);
    }

    private Rope ropeAt(int n) {
        if (n < 0 || n >= s.ropes.size()) {
            throw new IndexOutOfBoundsException();
        }
        return s.ropes.get(n);
    }

    private Order orderAt(int n) {
        if (n < 0 || n >= s.orders.size()) {
            throw new IndexOutOfBoundsException();
        }
        return s.orders.get(n);
    }

    private static void argument(boolean right) {
        if (!right) {
            throw new IllegalArgumentException();
        }
    }

    private static void state(boolean right) {
        if (!right) {
            throw new IllegalStateException();
        }
    }

    private static void support(boolean right) {
        if (!right) {
            throw new UnsupportedOperationException();
        }
    }

    private int ropeBits(java.util.function.Predicate<Rope> which) {
        int bits = 0;
        for (int i = 0; i < s.ropes.size(); i++) {
            bits |= which.test(s.ropes.get(i)) ? 1 << i : 0;
        }
        return bits;
    }

    private void act() {
        acts.push(s.copy());
        if (acts.size() > 12) {
            acts.removeLast();
        }
    }

    private static Rope trialRope(int length, int... yarns) {
        Rope r = new Rope();
        r.yarns = List.of(yarns[0], yarns[1], yarns[2]);
        r.length = length;
        return r;
    }

    int bears(int a, int b, int c, int length) {
        yarnAt(a);
        yarnAt(b);
        yarnAt(c);
        argument(Set.copyOf(List.of(a, b, c)).size() == 3 && length >= 1 && length <= 400);
        return s.bears(trialRope(length, a, b, c));
    }

    int lay(int a, int b, int c, int fathoms) {
        List<Yarn> ys = List.of(yarnAt(a), yarnAt(b), yarnAt(c));
        argument(Set.copyOf(List.of(a, b, c)).size() == 3 && fathoms >= 1 && fathoms <= 200);
        for (Yarn y : ys) {
            state(y.length >= fathoms);
        }
        support(s.ropes.size() < 8);
        act();
        for (Yarn y : ys) {
            y.length -= fathoms;
        }
        s.ropes.add(trialRope(fathoms, a, b, c));
        return s.ropes.size() - 1;
    }

    int tar(int rope) {
        Rope r = ropeAt(rope);
        state(!r.broken);
        act();
        tarOnce(r);
        return r.tar;
    }

    private static void tarOnce(Rope r) {
        r.tar = Math.min(9, r.tar + 1);
        r.wear = Math.max(0, r.wear - 5);
    }

    boolean whip(int rope) {
        Rope r = ropeAt(rope);
        state(!r.broken);
        act();
        boolean not = !r.whipped;
        r.whipped = true;
        return not;
    }

    int twice(int rope) {
        Rope r = ropeAt(rope);
        state(!r.broken && r.plies != 8 && r.length >= 2);
        act();
        r.plies *= 2;
        r.length /= 2;
        return r.plies;
    }

    int cut(int rope, int n) {
        Rope r = ropeAt(rope);
        argument(n >= 1 && n <= r.length - 1);
        state(!r.broken);
        support(s.ropes.size() < 8);
        act();
        Rope piece = r.copy();
        piece.length = n;
        piece.whipped = false;
        piece.load = 0;
        r.length -= n;
        s.ropes.add(piece);
        return s.ropes.size() - 1;
    }

    int hang(int rope, int load) {
        Rope r = ropeAt(rope);
        argument(load >= 0 && load <= 999);
        state(!r.broken);
        act();
        int before = r.load;
        r.load = load;
        return before;
    }

    private boolean meets(Rope r, Order o) {
        return !r.broken && r.load == 0 && s.bears(r) >= o.load && r.length >= o.length;
    }

    int meet(int order, int rope) {
        Order o = orderAt(order);
        Rope r = ropeAt(rope);
        state(meets(r, o));
        act();
        r.load = o.load;
        s.orders.remove(order);
        s.earned += o.pay;
        return o.pay;
    }

    int pick(int rope) {
        ropeAt(rope);
        act();
        s.ropes.remove(rope);
        return s.ropes.size();
    }

    int seasons(int n) {
        argument(n >= 1 && n <= 50);
        act();
        int before = s.broke;
        for (int i = 0; i < n; i++) {
            s.pass();
        }
        return s.broke - before;
    }

    /** All three YARNS, by numbers. */
    private List<int[]> threes() {
        List<int[]> all = new ArrayList<>();
        for (int name = 0; name < 1000; name++) {
            int[] three = {name / 100, name / 10 % 10, name % 10};
            if (three[0] < three[1] && three[1] < three[2] && three[2] < s.yarns.size()) {
                all.add(three);
            }
        }
        return all;
    }

    private boolean haveLength(int[] three, int length) {
        return Arrays.stream(three).allMatch(y -> s.yarns.get(y).length >= length);
    }

    private int strength(int[] three) {
        return Arrays.stream(three).map(y -> s.yarns.get(y).strength).sum();
    }

    private static int name(int[] three) {
        return three[0] * 100 + three[1] * 10 + three[2];
    }

    int best(int length) {
        argument(length >= 1 && length <= 200);
        List<int[]> fit = new ArrayList<>(threes());
        fit.removeIf(three -> !haveLength(three, length));
        fit.sort((a, b) -> s.bears(trialRope(length, b)) - s.bears(trialRope(length, a)));
        return fit.isEmpty() ? NONE : name(fit.get(0));
    }

    int cheapest(int order) {
        Order o = orderAt(order);
        List<int[]> fit = new ArrayList<>(threes());
        fit.removeIf(three -> !haveLength(three, o.length) || s.bears(trialRope(o.length, three)) < o.load);
        fit.sort((a, b) -> strength(a) - strength(b));
        return fit.isEmpty() ? NONE : name(fit.get(0));
    }

    int can(boolean yarns) {
        int bits = 0;
        for (int i = 0; i < s.orders.size(); i++) {
            Order o = s.orders.get(i);
            boolean met = yarns ? cheapest(i) != NONE : s.ropes.stream().anyMatch(r -> meets(r, o));
            bits |= met ? 1 << i : 0;
        }
        return bits;
    }

    int most(boolean pay) {
        int found = 0;
        int mostPay = 0;
        for (int set = 0; set < 1 << s.orders.size(); set++) {
            if (Integer.bitCount(set) <= s.ropes.size() && meetAll(set, 0)) {
                found = Integer.bitCount(set) > Integer.bitCount(found) ? set : found;
                mostPay = Math.max(mostPay, payOf(set));
            }
        }
        return pay ? mostPay : found;
    }

    private boolean meetAll(int set, int used) {
        if (set == 0) {
            return true;
        }
        int order = Integer.numberOfTrailingZeros(set);
        for (int i = 0; i < s.ropes.size(); i++) {
            boolean free = (used >> i & 1) == 0 && meets(s.ropes.get(i), s.orders.get(order));
            if (free && meetAll(set & ~(1 << order), used | 1 << i)) {
                return true;
            }
        }
        return false;
    }

    private int payOf(int set) {
        int sum = 0;
        for (int i = 0; i < s.orders.size(); i++) {
            sum += (set >> i & 1) * s.orders.get(i).pay;
        }
        return sum;
    }

    int cuts(int rope, boolean pay) {
        Rope r = ropeAt(rope);
        int found = 0;
        for (int set = 0; set < 1 << s.orders.size(); set++) {
            int length = 0;
            boolean borne = !r.broken;
            for (int i = 0; i < s.orders.size(); i++) {
                if ((set >> i & 1) == 1) {
                    length += s.orders.get(i).length;
                    borne &= s.orders.get(i).load <= s.bears(r);
                }
            }
            if (borne && length <= r.length && payOf(set) > payOf(found)) {
                found = set;
            }
        }
        return pay ? payOf(found) : found;
    }

    int walks(int men) {
        argument(men >= 1 && men <= 5);
        return hours(0, new int[men], Integer.MAX_VALUE);
    }

    private int hours(int order, int[] men, int least) {
        int now = Arrays.stream(men).max().orElseThrow();
        if (now >= least || order == s.orders.size()) {
            return Math.min(now, least);
        }
        int found = least;
        for (int i = 0; i < men.length; i++) {
            men[i] += s.orders.get(order).length;
            found = Math.min(found, hours(order + 1, men, found));
            men[i] -= s.orders.get(order).length;
        }
        return found;
    }

    int share(int rope, int other, int load) {
        long a = s.bears(ropeAt(rope));
        long b = s.bears(ropeAt(other));
        argument(rope != other && load >= 0 && load <= 9999);
        return a + b == 0 ? 0 : (int) Math.floorDiv(load * a, a + b);
    }

    boolean shared(int rope, int other, int load) {
        int first = share(rope, other, load);
        return first <= s.bears(s.ropes.get(rope)) && load - first <= s.bears(s.ropes.get(other));
    }

    int oakum(int strength, int rot, int what) {
        List<int[]> fit = new ArrayList<>(threes());
        fit.removeIf(t -> strength(t) != strength || Arrays.stream(t).map(y -> s.yarns.get(y).rot).sum() != rot);
        int sure = 0;
        int ask = NONE;
        int least = Integer.MAX_VALUE;
        for (int y = 0; y < s.yarns.size(); y++) {
            int yarn = y;
            int with = (int) fit.stream().filter(t -> Arrays.stream(t).anyMatch(i -> i == yarn)).count();
            sure |= !fit.isEmpty() && with == fit.size() ? 1 << y : 0;
            int part = Math.max(with, fit.size() - with);
            if (fit.size() >= 2 && part < least) {
                least = part;
                ask = y;
            }
        }
        return switch (what) {
            case 0 -> fit.size();
            case 1 -> sure;
            case 2 -> ask;
            default -> throw new NoSuchElementException();
        };
    }

    int holds(int rope, boolean change) {
        ropeAt(rope);
        State t = s.copy();
        Rope r = t.ropes.get(rope);
        t.ropes = new ArrayList<>(List.of(r));
        t.gale = 0;
        t.damp = 0;
        int stood = 0;
        int changed = !r.broken && t.bears(r) < 2 * r.load ? 0 : NONE;
        for (int i = 1; i <= 40; i++) {
            t.pass();
            if (!r.broken) {
                stood = i;
                if (changed == NONE && t.bears(r) < 2 * r.load) {
                    changed = i;
                }
            }
        }
        return change ? changed : stood;
    }

    int would(int rope, int what) {
        Rope r = ropeAt(rope).copy();
        switch (what) {
            case 0 -> tarOnce(r);
            case 1 -> {
                if (r.plies < 8 && r.length > 1) {
                    r.plies *= 2;
                    r.length /= 2;
                }
            }
            case 2 -> r.whipped = true;
            default -> throw new NoSuchElementException();
        }
        return s.bears(r);
    }

    int weakest() {
        int found = NONE;
        for (int i = s.ropes.size() - 1; i >= 0; i--) {
            Rope r = s.ropes.get(i);
            if (!r.broken && (found == NONE
                    || s.bears(r) - r.load <= s.bears(s.ropes.get(found)) - s.ropes.get(found).load)) {
                found = i;
            }
        }
        return found;
    }

    int fewest() {
        for (int size = 0; size <= 8; size++) {
            for (int set = 0; set < 1 << s.ropes.size(); set++) {
                if (Integer.bitCount(set) == size && (set & s.brokenBits()) == 0 && bearsOf(set) >= s.loads()) {
                    return set;
                }
            }
        }
        return NONE;
    }

    private int bearsOf(int set) {
        int sum = 0;
        for (int i = 0; i < s.ropes.size(); i++) {
            sum += (set >> i & 1) * s.bears(s.ropes.get(i));
        }
        return sum;
    }

    int buys(int coins) {
        argument(coins >= 0 && coins <= 9999);
        int found = 0;
        for (int set = 0; set < 1 << s.ropes.size(); set++) {
            int price = 0;
            for (int i = 0; i < s.ropes.size(); i++) {
                price += (set >> i & 1) * s.price(s.ropes.get(i));
            }
            if (price <= coins && bearsOf(set) > bearsOf(found)) {
                found = set;
            }
        }
        return found;
    }

    int skips() {
        return ropeBits(r -> !r.broken && r.load == 0 && r.length >= 2 && r.length <= 5);
    }

    int loose() {
        return ropeBits(r -> !r.broken && !r.whipped);
    }

    /** Three pieces of the YARNS that have most left, again and again. */
    int lasts(int length) {
        argument(length >= 1 && length <= 200);
        List<Integer> pieces = new ArrayList<>(List.of(0, 0, 0));
        for (Yarn y : s.yarns) {
            pieces.add(y.length / length);
        }
        int laid = 0;
        while (true) {
            pieces.sort(Collections.reverseOrder());
            if (pieces.get(2) == 0) {
                return laid;
            }
            for (int i = 0; i < 3; i++) {
                pieces.set(i, pieces.get(i) - 1);
            }
            laid++;
        }
    }

    int trial(int n, boolean fell) {
        argument(n >= 0 && n <= 40);
        State t = s.copy();
        for (int i = 0; i < n; i++) {
            t.pass();
        }
        return fell ? t.fell - s.fell : t.brokenBits();
    }

    int span(int n, boolean most) {
        argument(n >= 0 && n <= 40);
        List<Integer> counts = new ArrayList<>();
        for (int seed = 1; seed <= 6; seed++) {
            State t = s.copy();
            t.seed = seed;
            for (int i = 0; i < n; i++) {
                t.pass();
            }
            counts.add(Integer.bitCount(t.brokenBits()));
        }
        return most ? Collections.max(counts) : Collections.min(counts);
    }

    private List<Row> log() {
        List<Row> rows = new ArrayList<>(s.log);
        Collections.reverse(rows);
        return rows.subList(0, Math.min(60, rows.size()));
    }

    int led(int yarn, boolean loads) {
        yarnAt(yarn);
        int sum = 0;
        for (Row row : log()) {
            if (row.yarns.contains(yarn)) {
                sum += loads ? row.load : 1;
            }
        }
        return sum;
    }

    int log(int ago, int what) {
        if (what < 0 || what > 4) {
            throw new NoSuchElementException();
        }
        if (ago < 0 || ago >= log().size()) {
            return NONE;
        }
        Row row = log().get(ago);
        return what == 0 ? row.season : what == 4 ? row.load : row.yarns.get(what - 1);
    }

    int seed(int n) {
        int before = s.seed;
        s.seed = n;
        return before;
    }

    boolean undo() {
        if (acts.isEmpty()) {
            return false;
        }
        s = acts.pop();
        return true;
    }

    void image() {
        image = s.copy();
    }

    boolean back() {
        if (image == null) {
            return false;
        }
        s = image.copy();
        acts.clear();
        return true;
    }

    int count(int what) {
        return switch (what) {
            case 0 -> s.yarns.size();
            case 1 -> s.ropes.size();
            case 2 -> s.orders.size();
            case 3 -> s.texts;
            case 4 -> s.law == null ? NONE : s.law.size();
            case 5 -> s.season;
            case 6 -> s.gale;
            case 7 -> s.damp;
            case 8 -> s.loads();
            case 9 -> s.fell;
            case 10 -> s.broke;
            case 11 -> s.earned;
            case 12 -> s.brokenBits();
            case 13 -> log().size();
            case 14 -> acts.size();
            default -> NONE;
        };
    }
}
