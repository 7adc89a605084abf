import java.util.ArrayDeque;
import java.util.ArrayList;
import java.util.Arrays;
import java.util.Deque;
import java.util.HashMap;
import java.util.HashSet;
import java.util.List;
import java.util.Map;
import java.util.Set;
import java.util.function.ToLongFunction;

/**
 * The document once more, written another way than the class (a tree of functions, lists, whole
 * copies, exceptions), so that the two can be set against each other.
 */
final class Model {
    private static final Set<String> OWN = new HashSet<>(Arrays.asList(
            ("floor,by,grey,box,at,way,eyes,apart,ahead,bias,steers,goes,power,lamp,cat,left,right,"
            + "mid,lost,step,turned,if,or,and,not,all,min,max").split(",")));

    static final class Fault extends RuntimeException {
        private static final long serialVersionUID = 1L;
        final int kind;
        final int place;

        Fault(int kind, int place) {
            this.kind = kind;
            this.place = place;
        }
    }

    static final class Box implements Cloneable {
        String name;
        int x;
        int y;
        int way;
        int power;
        int lost;
        int apart = 1;
        int ahead = 1;
        int bias;
        long gone;
        int blocked;

        Box copy() {
            try {
                return (Box) clone();
            } catch (CloneNotSupportedException e) {
                throw new IllegalStateException(e);
            }
        }
    }

    /** What a formula can ask. */
    static final class Seen {
        long left;
        long right;
        long mid;
        long lost;
        long step;
        long turned;
        long power;
    }

    static final class Kitchen {
        int columns;
        int rows;
        Map<Integer, Integer> grey = new HashMap<>();
        List<Box> boxes = new ArrayList<>();
        ToLongFunction<Seen> steers;
        ToLongFunction<Seen> goes;
        int power = 500;
        int lamp;
        int cat;
        int statements;

        boolean inside(int x, int y) {
            return x >= 0 && y >= 0 && x < columns && y < rows;
        }

        int greyAt(int x, int y) {
            return inside(x, y) ? grey.getOrDefault(100 * x + y, 0) : 0;
        }
    }

    static final class Floor {
        Kitchen kitchen = new Kitchen();
        List<Box> boxes = new ArrayList<>();
        int step;
        int lamp;
        List<int[]> kept = new ArrayList<>();
        int moved;
        int stopped;

        Floor copy() {
            Floor f = new Floor();
            f.kitchen = kitchen;
            for (Box b : boxes) {
                f.boxes.add(b.copy());
            }
            f.step = step;
            f.lamp = lamp;
            f.kept = new ArrayList<>(kept);
            return f;
        }

        int at(int x, int y) {
            for (int i = 0; i < boxes.size(); i++) {
                if (boxes.get(i).x == x && boxes.get(i).y == y) {
                    return i;
                }
            }
            return -1;
        }

        boolean black(int x, int y) {
            return kitchen.greyAt(x, y) - lamp >= 5;
        }

        int seen(Box b, int side) {
            int[] f = DIRECTION[b.way];
            int[] r = DIRECTION[(b.way + 1) % 4];
            int x = b.x + f[0] * b.ahead + r[0] * side * b.apart;
            int y = b.y + f[1] * b.ahead + r[1] * side * b.apart;
            return kitchen.inside(x, y) ? Math.max(0, kitchen.greyAt(x, y) - lamp) : 0;
        }

        void step(int made, int d) {
            moved = 0;
            stopped = 0;
            for (int i = 0; i < boxes.size(); i++) {
                Box b = boxes.get(i);
                if (b.power == 0 || made < i * d) {
                    continue;
                }
                Seen s = new Seen();
                s.left = seen(b, -1);
                s.right = seen(b, 1);
                s.mid = seen(b, 0);
                b.lost = Math.max(s.left, Math.max(s.right, s.mid)) >= 5 ? 0 : Math.min(99, b.lost + 1);
                s.lost = b.lost;
                s.step = step;
                s.power = b.power;
                long sum = kitchen.steers == null ? s.right - s.left : kitchen.steers.applyAsLong(s);
                b.way = (b.way + Long.signum(sum) + 4) % 4;
                s.turned = sum == 0 ? 0 : 1;
                if (kitchen.goes == null || kitchen.goes.applyAsLong(s) == 1) {
                    int x = b.x + DIRECTION[b.way][0];
                    int y = b.y + DIRECTION[b.way][1];
                    if (kitchen.inside(x, y) && at(x, y) < 0) {
                        b.x = x;
                        b.y = y;
                        b.gone++;
                        moved++;
                        kept.add(new int[] {step, i, x, y});
                        if (b.bias != 0 && b.gone % b.bias == 0) {
                            b.way = (b.way + 1) % 4;
                        }
                    } else {
                        b.blocked++;
                        stopped++;
                    }
                }
                b.power--;
            }
            step = Math.min(999, step + 1);
        }
    }

    private static final int[][] DIRECTION = {{0, -1}, {1, 0}, {0, 1}, {-1, 0}};

    private List<Integer> tape = new ArrayList<>();
    private Floor now = new Floor();
    private final Deque<Floor> acts = new ArrayDeque<>();
    private List<int[]> tracks = new ArrayList<>();
    private List<Integer> image = new ArrayList<>();
    private final int[] refused = new int[6];
    private int faultKind = 0;
    private int faultPlace = -1;
    private long seed = 1;

    // ---- the text

    private static final class Parser {
        final List<Integer> t;
        int i = 0;
        final Kitchen k = new Kitchen();
        boolean goes;

        Parser(List<Integer> t) {
            this.t = t;
        }

        int at(int p) {
            return p < 0 || p >= t.size() ? -1 : t.get(p);
        }

        static boolean letter(int c) {
            return c >= 97 && c < 123;
        }

        static boolean digit(int c) {
            return c >= 48 && c < 58;
        }

        /** The next token without passing it; "" at the end. Sets i to its first byte. */
        String peek() {
            while (at(i) == 10 || at(i) == 32) {
                i++;
            }
            int c = at(i);
            if (c < 0) {
                return "";
            }
            boolean solid = letter(c) || digit(c);
            if (solid && (letter(at(i - 1)) || digit(at(i - 1)))) {
                throw new Fault(1, i);
            }
            StringBuilder s = new StringBuilder();
            if (!solid) {
                return s.append((char) c).toString();
            }
            for (int p = i; letter(c) ? letter(at(p)) : digit(at(p)); p++) {
                if (s.length() == (letter(c) ? 6 : 4)) {
                    throw new Fault(1, p);
                }
                s.append((char) at(p));
            }
            return s.toString();
        }

        boolean is(String s) {
            return peek().equals(s);
        }

        void take(String s) {
            if (!is(s)) {
                throw new Fault(1, i);
            }
            i += s.length();
        }

        boolean may(String s) {
            if (is(s)) {
                take(s);
                return true;
            }
            return false;
        }

        int number(int lo, int hi) {
            String s = peek();
            if (s.isEmpty() || !digit(s.charAt(0))) {
                throw new Fault(1, i);
            }
            int v = Integer.parseInt(s);
            if (v < lo || v > hi) {
                throw new Fault(4, i);
            }
            i += s.length();
            return v;
        }

        String name() {
            String s = peek();
            if (s.isEmpty() || !letter(s.charAt(0)) || OWN.contains(s)) {
                throw new Fault(1, i);
            }
            return s;
        }

        Box named(String s) {
            for (Box b : k.boxes) {
                if (b.name.equals(s)) {
                    return b;
                }
            }
            return null;
        }

        Box boxName() {
            String s = name();
            if (named(s) == null) {
                throw new Fault(3, i);
            }
            i += s.length();
            return named(s);
        }

        Kitchen text() {
            while (true) {
                while (at(i) == 10 || at(i) == 32) {
                    i++;
                }
                if (i >= t.size() && k.statements > 0) {
                    return k;
                }
                if (k.statements == 80) {
                    throw new Fault(6, i);
                }
                statement(peek());
                take(";");
                k.statements++;
            }
        }

        void statement(String w) {
            if ((k.statements == 0) != w.equals("floor")) {
                throw new Fault(1, i);
            }
            int from = i;
            if (w.equals("floor")) {
                take(w);
                k.columns = number(2, 9);
                take("by");
                k.rows = number(2, 9);
            } else if (w.equals("grey")) {
                take(w);
                int x = number(0, k.columns - 1);
                int y = number(0, k.rows - 1);
                k.grey.put(100 * x + y, number(0, 9));
            } else if (w.equals("box")) {
                if (k.boxes.size() == 6) {
                    throw new Fault(6, from);
                }
                take(w);
                box();
            } else if (w.equals("eyes")) {
                take(w);
                Box b = boxName();
                take("apart");
                b.apart = number(0, 2);
                take("ahead");
                b.ahead = number(0, 3);
            } else if (w.equals("bias")) {
                take(w);
                Box b = boxName();
                b.bias = number(0, 9);
            } else if (w.equals("power")) {
                take(w);
                k.power = number(0, 999);
            } else if (w.equals("lamp")) {
                take(w);
                k.lamp = number(0, 9);
            } else if (w.equals("cat")) {
                take(w);
                k.cat = number(0, 100);
            } else if (w.equals("steers") || w.equals("goes")) {
                goes = w.equals("goes");
                if ((goes ? k.goes : k.steers) != null) {
                    throw new Fault(6, from);
                }
                take(w);
                if (goes) {
                    k.goes = test(0);
                } else {
                    k.steers = sum(0);
                }
            } else {
                throw new Fault(1, i);
            }
        }

        void box() {
            Box b = new Box();
            b.name = name();
            if (named(b.name) != null) {
                throw new Fault(2, i);
            }
            i += b.name.length();
            take("at");
            b.x = number(0, k.columns - 1);
            peek();
            int at = i;
            b.y = number(0, k.rows - 1);
            for (Box o : k.boxes) {
                if (o.x == b.x && o.y == b.y) {
                    throw new Fault(4, at);
                }
            }
            take("way");
            b.way = number(0, 3);
            k.boxes.add(b);
        }

        void open(int depth, String s) {
            if (!is(s)) {
                throw new Fault(1, i);
            }
            if (depth == 7) {
                throw new Fault(5, i);
            }
            take(s);
        }

        ToLongFunction<Seen> test(int depth) {
            ToLongFunction<Seen> a = both(depth);
            while (may("or")) {
                ToLongFunction<Seen> l = a;
                ToLongFunction<Seen> r = both(depth);
                a = s -> l.applyAsLong(s) | r.applyAsLong(s);
            }
            return a;
        }

        ToLongFunction<Seen> both(int depth) {
            ToLongFunction<Seen> a = fact(depth);
            while (may("and")) {
                ToLongFunction<Seen> l = a;
                ToLongFunction<Seen> r = fact(depth);
                a = s -> l.applyAsLong(s) & r.applyAsLong(s);
            }
            return a;
        }

        ToLongFunction<Seen> fact(int depth) {
            if (is("not")) {
                open(depth, "not");
                ToLongFunction<Seen> a = fact(depth + 1);
                return s -> 1 - a.applyAsLong(s);
            }
            if (is("[")) {
                open(depth, "[");
                ToLongFunction<Seen> a = test(depth + 1);
                take("]");
                return a;
            }
            if (may("all")) {
                return s -> 1;
            }
            ToLongFunction<Seen> l = sum(depth);
            String sign = peek();
            if (!sign.equals("<") && !sign.equals(">") && !sign.equals("=")) {
                throw new Fault(1, i);
            }
            take(sign);
            ToLongFunction<Seen> r = sum(depth);
            return s -> {
                int c = Long.compare(l.applyAsLong(s), r.applyAsLong(s));
                return c == (sign.equals("<") ? -1 : sign.equals(">") ? 1 : 0) ? 1 : 0;
            };
        }

        static long cut(long v) {
            return v > 1000000 ? 1000000 : v < -1000000 ? -1000000 : v;
        }

        ToLongFunction<Seen> sum(int depth) {
            ToLongFunction<Seen> a = product(depth);
            while (is("+") || is("-")) {
                boolean plus = is("+");
                i++;
                ToLongFunction<Seen> l = a;
                ToLongFunction<Seen> r = product(depth);
                a = s -> cut(plus ? l.applyAsLong(s) + r.applyAsLong(s) : l.applyAsLong(s) - r.applyAsLong(s));
            }
            return a;
        }

        static long floor(long a, long b) {
            long q = a / b;
            return q * b != a && (a < 0) != (b < 0) ? q - 1 : q;
        }

        ToLongFunction<Seen> product(int depth) {
            ToLongFunction<Seen> a = part(depth);
            while (is("*") || is("/") || is("%")) {
                String op = peek();
                i++;
                ToLongFunction<Seen> l = a;
                ToLongFunction<Seen> r = part(depth);
                a = s -> {
                    long x = l.applyAsLong(s);
                    long y = r.applyAsLong(s);
                    if (op.equals("*")) {
                        return cut(x * y);
                    }
                    if (y == 0) {
                        return 0;
                    }
                    return cut(op.equals("/") ? floor(x, y) : x - y * floor(x, y));
                };
            }
            return a;
        }

        ToLongFunction<Seen> part(int depth) {
            String w = peek();
            if (!w.isEmpty() && digit(w.charAt(0))) {
                int v = number(0, 9999);
                return s -> v;
            }
            if (w.equals("(")) {
                open(depth, "(");
                ToLongFunction<Seen> a = sum(depth + 1);
                take(")");
                return a;
            }
            if (w.equals("if") || w.equals("min") || w.equals("max")) {
                take(w);
                open(depth, "(");
                ToLongFunction<Seen> t = s -> 0;
                if (w.equals("if")) {
                    t = test(depth + 1);
                    take(",");
                }
                ToLongFunction<Seen> c = t;
                ToLongFunction<Seen> a = sum(depth + 1);
                take(",");
                ToLongFunction<Seen> b = sum(depth + 1);
                take(")");
                if (w.equals("if")) {
                    return s -> c.applyAsLong(s) == 1 ? a.applyAsLong(s) : b.applyAsLong(s);
                }
                return w.equals("min") ? s -> Math.min(a.applyAsLong(s), b.applyAsLong(s))
                        : s -> Math.max(a.applyAsLong(s), b.applyAsLong(s));
            }
            ToLongFunction<Seen> v = w.equals("left") ? s -> s.left
                    : w.equals("right") ? s -> s.right
                    : w.equals("mid") ? s -> s.mid
                    : w.equals("lost") ? s -> s.lost
                    : w.equals("step") ? s -> s.step
                    : goes && w.equals("turned") ? s -> s.turned
                    : goes && w.equals("power") ? s -> s.power : null;
            if (v == null) {
                throw new Fault(1, i);
            }
            take(w);
            return v;
        }
    }

    // ---- the face

    int feed(int a, int b, int c, int d, int e) {
        if (tape.size() > 1580) {
            return no(0);
        }
        for (int v : new int[] {a, b, c, d, e}) {
            for (int s = 3; s >= 0; s--) {
                tape.add((v >>> (8 * s)) % 256);
            }
        }
        return tape.size();
    }

    private int no(int kind) {
        refused[kind]++;
        return -1;
    }

    private boolean not(int kind) {
        refused[kind]++;
        return false;
    }

    boolean end(int n) {
        if (n < 0 || n > tape.size()) {
            return not(0);
        }
        tape = new ArrayList<>(tape.subList(0, n));
        return true;
    }

    int kitchen() {
        List<Integer> text = tape;
        tape = new ArrayList<>();
        try {
            Kitchen k = new Parser(text).text();
            faultKind = 0;
            faultPlace = -1;
            now = new Floor();
            now.kitchen = k;
            now.lamp = k.lamp;
            for (Box b : k.boxes) {
                b.power = k.power;
                now.boxes.add(b.copy());
            }
            acts.clear();
            tracks.clear();
            return k.statements;
        } catch (Fault f) {
            faultKind = f.kind;
            faultPlace = f.place;
            return no(1);
        }
    }

    int fault(int what) {
        return what == 0 ? faultKind : what == 1 ? faultPlace : -1;
    }

    int has(int what) {
        int black = 0;
        for (int x = 0; x < now.kitchen.columns; x++) {
            for (int y = 0; y < now.kitchen.rows; y++) {
                black += now.black(x, y) ? 1 : 0;
            }
        }
        int[] all = {now.kitchen.columns, now.kitchen.rows, now.boxes.size(), black, now.step, now.lamp,
            (int) now.boxes.stream().filter(b -> b.lost > 0).count(),
            (int) now.boxes.stream().filter(b -> b.power == 0).count(),
            Math.min(60, now.kept.size()), acts.size(), (int) seed};
        return what < 0 || what > 10 ? -1 : all[what];
    }

    private Box get(int box) {
        return box < 0 || box >= now.boxes.size() ? null : now.boxes.get(box);
    }

    int letter(int box, int k) {
        if (get(box) == null || k < 0 || k > 5) {
            return -1;
        }
        return k < get(box).name.length() ? get(box).name.charAt(k) - 96 : 0;
    }

    int cell(int column, int row, int what) {
        if (!now.kitchen.inside(column, row)) {
            return -1;
        }
        return what == 0 ? now.kitchen.greyAt(column, row)
                : what == 1 ? (now.black(column, row) ? 1 : 0) : what == 2 ? now.at(column, row) : -1;
    }

    int box(int box, int what) {
        Box b = get(box);
        if (b == null || what < 0 || what > 7) {
            return -1;
        }
        return new int[] {b.x, b.y, b.way, b.power, b.lost, b.apart, b.ahead, b.bias}[what];
    }

    int sees(int box, int eye) {
        if (get(box) == null || eye < 0 || eye > 2) {
            return -1;
        }
        return now.seen(get(box), eye == 0 ? -1 : eye == 1 ? 1 : 0);
    }

    private boolean canBe(int n, int lo, int hi) {
        return n >= lo && n <= hi && now.step + n <= 999;
    }

    /** The floors behind 0, 1, .. n STEPS AHEAD of the one given. */
    private static List<Floor> films(Floor from, int n) {
        List<Floor> all = new ArrayList<>();
        Floor f = from.copy();
        for (Box b : f.boxes) {
            b.blocked = 0;
        }
        all.add(f);
        for (int i = 0; i < n; i++) {
            f = f.copy();
            f.step(0, 0);
            all.add(f);
        }
        return all;
    }

    private int reach(int most) {
        return Math.min(most, 999 - now.step);
    }

    int later(int box, int n, int what) {
        if (get(box) == null || !canBe(n, 0, 80) || what < 0 || what > 4) {
            return -1;
        }
        Box b = films(now, n).get(n).boxes.get(box);
        return new int[] {b.x, b.y, b.way, b.lost, b.blocked}[what];
    }

    int round(int box) {
        Box a = get(box);
        if (a == null) {
            return -1;
        }
        List<Floor> all = films(now, reach(80));
        for (int i = 1; i < all.size(); i++) {
            Box b = all.get(i).boxes.get(box);
            if (a.x == b.x && a.y == b.y && a.way == b.way) {
                return i;
            }
        }
        return -1;
    }

    int loses(int box, int n) {
        if (get(box) == null || n < 1 || n > 99) {
            return -1;
        }
        List<Floor> all = films(now, reach(80));
        for (int i = 0; i < all.size(); i++) {
            if (all.get(i).boxes.get(box).lost >= n) {
                return i;
            }
        }
        return -1;
    }

    int jam() {
        List<Floor> all = films(now, reach(80));
        for (int i = 1; i < all.size(); i++) {
            if (all.get(i).stopped > 0 && all.get(i).moved == 0) {
                return i;
            }
        }
        return -1;
    }

    int gap(int one, int other, int n) {
        if (get(one) == null || get(other) == null || one == other || !canBe(n, 0, 80)) {
            return -1;
        }
        int least = 99;
        for (Floor f : films(now, n)) {
            Box a = f.boxes.get(one);
            Box b = f.boxes.get(other);
            least = Math.min(least, Math.abs(a.x - b.x) + Math.abs(a.y - b.y));
        }
        return least;
    }

    int tuned(int box, int n, int what) {
        if (get(box) == null || !canBe(n, 1, 60) || what < 0 || what > 2) {
            return -1;
        }
        int[] best = {-1, -1, -1};
        for (int e = 0; e < 12; e++) {
            Floor f = now.copy();
            f.boxes.get(box).apart = e / 4;
            f.boxes.get(box).ahead = e % 4;
            int count = 0;
            for (Floor g : films(f, n).subList(1, n + 1)) {
                count += g.black(g.boxes.get(box).x, g.boxes.get(box).y) ? 1 : 0;
            }
            if (count > best[2]) {
                best = new int[] {e / 4, e % 4, count};
            }
        }
        return best[what];
    }

    int found(int box) {
        Box b = get(box);
        if (b == null) {
            return -1;
        }
        Set<List<Integer>> ring = new HashSet<>();
        Set<List<Integer>> seen = new HashSet<>();
        ring.add(List.of(b.x, b.y, b.way));
        for (int moves = 0; !ring.isEmpty(); moves++) {
            Set<List<Integer>> next = new HashSet<>();
            for (List<Integer> p : ring) {
                if (now.black(p.get(0), p.get(1))) {
                    return moves;
                }
                next.add(List.of(p.get(0), p.get(1), (p.get(2) + 1) % 4));
                next.add(List.of(p.get(0), p.get(1), (p.get(2) + 3) % 4));
                int x = p.get(0) + DIRECTION[p.get(2)][0];
                int y = p.get(1) + DIRECTION[p.get(2)][1];
                if (now.kitchen.inside(x, y) && (now.at(x, y) == -1 || now.at(x, y) == box)) {
                    next.add(List.of(x, y, p.get(2)));
                }
            }
            seen.addAll(ring);
            next.removeAll(seen);
            ring = next;
        }
        return -1;
    }

    int spaced(int n) {
        if (!canBe(n, 1, 80)) {
            return -1;
        }
        for (int d = 0; d < 10; d++) {
            Floor f = now.copy();
            int stopped = 0;
            for (int i = 0; i < n; i++) {
                f.step(i, d);
                stopped += f.stopped;
            }
            if (stopped == 0) {
                return d;
            }
        }
        return -1;
    }

    int bright(int n) {
        if (!canBe(n, 1, 60)) {
            return -1;
        }
        int best = -1;
        for (int lamp = 0; lamp < 10; lamp++) {
            Floor f = now.copy();
            f.lamp = lamp;
            if (films(f, n).get(n).boxes.stream().noneMatch(b -> b.lost > 0)) {
                best = lamp;
            }
        }
        return best;
    }

    int track() {
        List<Integer> t = tape;
        tape = new ArrayList<>();
        if (t.isEmpty() || t.size() % 3 != 0 || t.size() > 48) {
            return no(5);
        }
        List<int[]> rows = new ArrayList<>();
        for (int i = 0; i < t.size(); i += 3) {
            if (t.get(i) > 40 || !now.kitchen.inside(t.get(i + 1), t.get(i + 2))) {
                return no(5);
            }
            rows.add(new int[] {t.get(i), t.get(i + 1), t.get(i + 2)});
        }
        tracks = rows;
        return rows.size();
    }

    int wheel(int box, int what) {
        if (get(box) == null || what < 0 || what > 1) {
            return -1;
        }
        Map<Integer, List<Floor>> left = new HashMap<>();
        int bits = 0;
        for (int bias = 0; bias < 10; bias++) {
            Floor f = now.copy();
            f.boxes.get(box).bias = bias;
            List<Floor> all = films(f, reach(40));
            boolean so = true;
            for (int[] row : tracks) {
                so &= row[0] < all.size() && all.get(row[0]).boxes.get(box).x == row[1]
                        && all.get(row[0]).boxes.get(box).y == row[2];
            }
            if (so) {
                left.put(bias, all);
                bits += 1 << bias;
            }
        }
        if (what == 0) {
            return bits;
        }
        int best = -1;
        int least = 99;
        for (int i = 1; i <= reach(40); i++) {
            Map<Integer, Integer> count = new HashMap<>();
            for (List<Floor> all : left.values()) {
                Box b = all.get(i).boxes.get(box);
                count.merge(100 * b.x + b.y, 1, Integer::sum);
            }
            int most = count.values().stream().mapToInt(v -> v).max().orElse(99);
            if (most < least) {
                least = most;
                best = i;
            }
        }
        return best;
    }

    private void act() {
        acts.addLast(now.copy());
        if (acts.size() > 20) {
            acts.removeFirst();
        }
    }

    int steps(int n) {
        if (!canBe(n, 1, 100)) {
            return no(2);
        }
        act();
        int went = 0;
        for (int i = 0; i < n; i++) {
            now.step(0, 0);
            went += now.moved;
        }
        return went;
    }

    private int draw(int m) {
        seed = (1103515245L * seed + 12345) & 0x7fffffffL;
        return (int) ((seed >> 6) % m);
    }

    int chance(int n) {
        if (!canBe(n, 1, 100)) {
            return no(2);
        }
        act();
        int came = 0;
        for (int i = 0; i < n; i++) {
            if (draw(100) < now.kitchen.cat && !now.boxes.isEmpty()) {
                Box b = now.boxes.get(draw(now.boxes.size()));
                b.way = (b.way + 2) % 4;
                came++;
            }
            now.step(0, 0);
        }
        return came;
    }

    boolean turn(int box, int way) {
        if (get(box) == null || way < 0 || way > 3 || get(box).way == way) {
            return not(3);
        }
        act();
        get(box).way = way;
        return true;
    }

    boolean put(int box, int column, int row) {
        if (get(box) == null || !now.kitchen.inside(column, row) || now.at(column, row) >= 0) {
            return not(3);
        }
        act();
        get(box).x = column;
        get(box).y = row;
        return true;
    }

    boolean shine(int lamp) {
        if (lamp < 0 || lamp > 9 || lamp == now.lamp) {
            return not(3);
        }
        act();
        now.lamp = lamp;
        return true;
    }

    boolean undo() {
        if (acts.isEmpty()) {
            return not(4);
        }
        now = acts.removeLast();
        return true;
    }

    boolean seed(int value) {
        if (value < 0) {
            return not(5);
        }
        seed = value;
        return true;
    }

    int kept(int k, int what) {
        int told = Math.min(60, now.kept.size());
        if (k < 0 || k >= told || what < 0 || what > 3) {
            return -1;
        }
        return now.kept.get(now.kept.size() - told + k)[what];
    }

    int image() {
        List<Integer> out = new ArrayList<>(List.of(now.step / 256, now.step % 256, now.lamp));
        for (Box b : now.boxes) {
            int gone = (int) (b.gone % 2520);
            out.addAll(List.of(b.x, b.y, b.way, b.power / 256, b.power % 256, b.lost, gone / 256, gone % 256));
        }
        out.add(check(out, out.size()));
        image = out;
        return out.size();
    }

    static int check(List<Integer> bytes, int n) {
        int c = 179;
        for (int i = 0; i < n; i++) {
            c = (5 * c + bytes.get(i)) % 251;
        }
        return c;
    }

    int octet(int k) {
        return k < 0 || k >= image.size() ? -1 : image.get(k);
    }

    boolean on() {
        List<Integer> t = tape;
        tape = new ArrayList<>();
        if (t.size() != 4 + 8 * now.boxes.size() || check(t, t.size() - 1) != t.get(t.size() - 1)) {
            return not(5);
        }
        Floor f = now.copy();
        f.kept.clear();
        f.step = 256 * t.get(0) + t.get(1);
        f.lamp = t.get(2);
        boolean good = f.step < 1000 && f.lamp < 10;
        Set<Integer> places = new HashSet<>();
        for (int i = 0; i < f.boxes.size(); i++) {
            List<Integer> r = t.subList(3 + 8 * i, 11 + 8 * i);
            Box b = f.boxes.get(i);
            b.x = r.get(0);
            b.y = r.get(1);
            b.way = r.get(2);
            b.power = 256 * r.get(3) + r.get(4);
            b.lost = r.get(5);
            b.gone = 256 * r.get(6) + r.get(7);
            good &= f.kitchen.inside(b.x, b.y) && places.add(1000 * b.x + b.y) && b.way < 4
                    && b.power < 1000 && b.lost < 100 && b.gone < 2520;
        }
        if (!good) {
            return not(5);
        }
        now = f;
        acts.clear();
        return true;
    }

    int status(int what) {
        return what < 0 || what > 5 ? -1 : refused[what];
    }
}
