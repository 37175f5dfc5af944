import java.util.ArrayDeque;
import java.util.ArrayList;
import java.util.HashMap;
import java.util.List;
import java.util.Map;
import java.util.function.BiFunction;
import java.util.function.Function;
import java.util.function.IntUnaryOperator;

/** The document once more, written as plainly as can be and with nothing taken from TugRope. */
final class Model {
    static final int NONE = -1;

    /** A FAULT of a text. */
    private static final class Fault extends RuntimeException {
        private static final long serialVersionUID = 1;
        final int code;

        Fault(int place, int kind) {
            code = 1 + 8 * place + kind;
        }
    }

    private record Man(int side, int strong, int wind, int boots) { }

    private record Told(int line, int mud, int ribbon, List<Man> men) { }

    private record Note(int n, int ribbon) { }

    private record Clause(Function<Map<String, Long>, Long> sum, Function<Map<String, Long>, Boolean> test) { }

    /** How a tug stands; sides hold PULLERS from the RIBBON outwards. */
    private static final class State {
        int ribbon;
        int heave;
        List<List<Integer>> sides = new ArrayList<>(List.of(new ArrayList<>(), new ArrayList<>()));
        int[] wind;
        int[] worked;
        boolean[] down;

        State(Told told) {
            int n = told.men.size();
            ribbon = told.ribbon;
            wind = new int[n];
            worked = new int[n];
            down = new boolean[n];
            for (int i = 0; i < n; i++) {
                wind[i] = told.men.get(i).wind;
                sides.get(told.men.get(i).side).add(i);
            }
        }

        State(State o) {
            ribbon = o.ribbon;
            heave = o.heave;
            sides = new ArrayList<>(List.of(new ArrayList<>(o.sides.get(0)), new ArrayList<>(o.sides.get(1))));
            wind = o.wind.clone();
            worked = o.worked.clone();
            down = o.down.clone();
        }

        int side(int who) {
            return sides.get(0).contains(who) ? 0 : 1;
        }

        int place(int who) {
            return sides.get(side(who)).indexOf(who);
        }

        int towards(int who) {
            return side(who) == 1 ? ribbon : -ribbon;
        }

        int stand() {
            int bits = 0;
            for (int i = 0; i < down.length; i++) {
                bits += down[i] ? 0 : 1 << i;
            }
            return bits;
        }
    }

    private record Picture(Told told, State state, List<Note> notes, int force, int x) { }

    private byte[] tape = new byte[0];
    private Told told;
    private State now;
    private final List<List<Clause>> rules = new ArrayList<>();
    private int force = NONE;
    private int x = 0;
    private List<Note> notes = new ArrayList<>();
    private final ArrayDeque<State> past = new ArrayDeque<>();
    private final Picture[] pictures = new Picture[4];

    // ---- texts

    int feed(int a, int b, int c, int d, int e) {
        if (tape.length + 20 > 400) {
            return NONE;
        }
        byte[] more = java.util.Arrays.copyOf(tape, tape.length + 20);
        int[] five = {a, b, c, d, e};
        for (int i = 0; i < 20; i++) {
            more[tape.length + i] = (byte) (five[i / 4] >>> (24 - 8 * (i % 4)));
        }
        tape = more;
        return tape.length;
    }

    int end(int n) {
        if (n < 0 || n > tape.length) {
            return NONE;
        }
        tape = java.util.Arrays.copyOf(tape, n);
        return n;
    }

    int rope() {
        try {
            told = new Text(tape).rope();
        } catch (Fault f) {
            return -2 - f.code;
        } finally {
            tape = new byte[0];
        }
        now = new State(told);
        notes = new ArrayList<>();
        past.clear();
        return told.men.size();
    }

    int rule() {
        if (rules.size() == 6) {
            return NONE;
        }
        try {
            rules.add(new Text(tape).rule());
        } catch (Fault f) {
            return -2 - f.code;
        } finally {
            tape = new byte[0];
        }
        return rules.size() - 1;
    }

    /** A text that is read by going down the grammar. */
    private static final class Text {
        final byte[] bytes;
        int at = 0;
        int counted = 0;

        Text(byte[] bytes) {
            this.bytes = bytes;
        }

        int peek() {
            while (at < bytes.length && bytes[at] == 32) {
                at++;
            }
            return at < bytes.length ? bytes[at] & 255 : -1;
        }

        boolean is(char c) {
            return peek() == c;
        }

        String word() {
            peek();
            int i = at;
            while (i < bytes.length && bytes[i] >= 'a' && bytes[i] <= 'z') {
                i++;
            }
            return new String(bytes, at, i - at, java.nio.charset.StandardCharsets.ISO_8859_1);
        }

        void take(String s) {
            peek();
            at += s.length();
        }

        int number(int least, int most) {
            int c = peek();
            if (c < '0' || c > '9') {
                throw new Fault(at, 0);
            }
            int i = at;
            while (i < bytes.length && bytes[i] >= '0' && bytes[i] <= '9') {
                i++;
            }
            if (i - at > 5) {
                throw new Fault(at, 1);
            }
            int v = Integer.parseInt(new String(bytes, at, i - at, java.nio.charset.StandardCharsets.ISO_8859_1));
            if (v < least || v > most) {
                throw new Fault(at, 1);
            }
            at = i;
            return v;
        }

        Told rope() {
            int line = 0;
            int mud = 0;
            Integer ribbon = null;
            List<Man> men = new ArrayList<>();
            int clauses = 0;
            while (true) {
                String w = word();
                int from = at;
                if (!List.of("rope", "puller", "ribbon").contains(w)) {
                    throw new Fault(from, 0);
                }
                if (clauses == 40 || (clauses == 0) != w.equals("rope")
                        || w.equals("puller") && men.size() == 8 || w.equals("ribbon") && ribbon != null) {
                    throw new Fault(from, 4);
                }
                take(w);
                if (w.equals("rope")) {
                    line = number(1, 60);
                    mud = number(0, 9);
                } else if (w.equals("puller")) {
                    int side = number(0, 1);
                    int strong = number(1, 40);
                    int wind = number(0, 60);
                    men.add(new Man(side, strong, wind, number(0, 9)));
                } else {
                    ribbon = number(0, 2 * line - 2);
                }
                clauses++;
                if (peek() == -1) {
                    return new Told(line, mud, ribbon == null ? 0 : ribbon - line + 1, men);
                }
                if (!is(';')) {
                    throw new Fault(at, 0);
                }
                at++;
            }
        }

        List<Clause> rule() {
            List<Clause> all = new ArrayList<>();
            while (true) {
                if (!word().equals("pull")) {
                    throw new Fault(at, 0);
                }
                if (all.size() == 12) {
                    throw new Fault(at, 4);
                }
                take("pull");
                Function<Map<String, Long>, Long> sum = sum();
                Function<Map<String, Long>, Boolean> test = v -> true;
                if (word().equals("if")) {
                    take("if");
                    test = test(0);
                }
                all.add(new Clause(sum, test));
                if (peek() == -1) {
                    return all;
                }
                if (!is(';')) {
                    throw new Fault(at, 0);
                }
                at++;
            }
        }

        Function<Map<String, Long>, Boolean> test(int deep) {
            Function<Map<String, Long>, Boolean> left = part(deep);
            while (word().equals("or")) {
                take("or");
                Function<Map<String, Long>, Boolean> a = left;
                Function<Map<String, Long>, Boolean> b = part(deep);
                left = v -> a.apply(v) || b.apply(v);
            }
            return left;
        }

        Function<Map<String, Long>, Boolean> part(int deep) {
            Function<Map<String, Long>, Boolean> left = fact(deep);
            while (word().equals("and")) {
                take("and");
                Function<Map<String, Long>, Boolean> a = left;
                Function<Map<String, Long>, Boolean> b = fact(deep);
                left = v -> a.apply(v) && b.apply(v);
            }
            return left;
        }

        Function<Map<String, Long>, Boolean> fact(int deep) {
            boolean not = word().equals("not");
            if (not || is('[')) {
                if (deep == 10) {
                    throw new Fault(at, 2);
                }
                at += not ? 3 : 1;
                if (not) {
                    Function<Map<String, Long>, Boolean> a = fact(deep + 1);
                    return v -> !a.apply(v);
                }
                Function<Map<String, Long>, Boolean> inner = test(deep + 1);
                if (!is(']')) {
                    throw new Fault(at, 0);
                }
                at++;
                return inner;
            }
            Function<Map<String, Long>, Long> a = sum();
            peek();
            BiFunction<Long, Long, Boolean> how = sign();
            Function<Map<String, Long>, Long> b = sum();
            return v -> how.apply(a.apply(v), b.apply(v));
        }

        BiFunction<Long, Long, Boolean> sign() {
            int c = peek();
            if (c != '<' && c != '=' && c != '>') {
                throw new Fault(at, 0);
            }
            count();
            at++;
            if (c == '=') {
                return (p, q) -> p.longValue() == q.longValue();
            }
            boolean equal = at < bytes.length && bytes[at] == '=';
            at += equal ? 1 : 0;
            if (c == '<') {
                return equal ? (p, q) -> p <= q : (p, q) -> p < q;
            }
            return equal ? (p, q) -> p >= q : (p, q) -> p > q;
        }

        void count() {
            if (counted == 60) {
                throw new Fault(at, 3);
            }
            counted++;
        }

        Function<Map<String, Long>, Long> sum() {
            Function<Map<String, Long>, Long> left = term();
            while (is('+') || is('-')) {
                boolean plus = is('+');
                at++;
                Function<Map<String, Long>, Long> a = left;
                Function<Map<String, Long>, Long> b = term();
                left = v -> plus ? a.apply(v) + b.apply(v) : a.apply(v) - b.apply(v);
            }
            return left;
        }

        Function<Map<String, Long>, Long> term() {
            Function<Map<String, Long>, Long> left = value();
            while (is('*') || is('/') || is('%')) {
                int c = peek();
                at++;
                Function<Map<String, Long>, Long> a = left;
                Function<Map<String, Long>, Long> b = value();
                left = v -> {
                    long p = a.apply(v);
                    long q = b.apply(v);
                    return c == '*' ? p * q : q == 0 ? 0L : c == '/' ? p / q : p % q;
                };
            }
            return left;
        }

        Function<Map<String, Long>, Long> value() {
            String w = word();
            if (List.of("puller", "side", "strong", "wind", "boots", "place", "mates", "ribbon", "line", "worked",
                    "heave").contains(w)) {
                count();
                take(w);
                return v -> v.get(w);
            }
            int from = at;
            long n = number(0, 99999);
            int behind = at;
            at = from;
            count();
            at = behind;
            return v -> n;
        }
    }

    // ---- heaves

    private boolean over(State s) {
        return Math.abs(s.ribbon) >= told.line;
    }

    private void heave(State s, Told by, List<Clause> rule, Map<Integer, Integer> fixed, int wet) {
        if (Math.abs(s.ribbon) < by.line) {
            int n = by.men.size();
            int[] effort = new int[n];
            for (int i = 0; i < n; i++) {
                boolean stands = !s.down[i] && i != wet;
                long want = !stands ? 0 : fixed.containsKey(i) ? fixed.get(i) : says(s, by, rule, i, wet);
                effort[i] = (int) Math.min(s.wind[i], Math.min(3, Math.max(0, want)));
            }
            int drawn = 0;
            for (int i = 0; i < n; i++) {
                drawn += (s.side(i) == 1 ? 1 : -1) * by.men.get(i).strong * effort[i];
                s.wind[i] -= effort[i];
                s.worked[i] = Math.min(999, s.worked[i] + effort[i]);
                if (effort[i] == 0 && s.wind[i] < by.men.get(i).wind) {
                    s.wind[i] = Math.min(s.wind[i] + 2, by.men.get(i).wind);
                }
                s.down[i] = false;
            }
            int quarter = drawn / 4;
            s.ribbon = Math.min(99, Math.max(-99, s.ribbon + quarter));
            if (quarter != 0) {
                for (int i : s.sides.get(quarter > 0 ? 0 : 1)) {
                    if (by.men.get(i).boots < Math.abs(quarter) + by.mud - 5) {
                        s.down[i] = true;
                        break;
                    }
                }
            }
        }
        s.heave++;
    }

    private long says(State s, Told by, List<Clause> rule, int who, int wet) {
        if (rule == null) {
            return 2;
        }
        Map<String, Long> v = new HashMap<>();
        long mates = 0;
        for (int other : s.sides.get(s.side(who))) {
            mates += other != who && !s.down[other] && other != wet ? 1 : 0;
        }
        v.put("puller", (long) who);
        v.put("side", (long) s.side(who));
        v.put("strong", (long) by.men.get(who).strong);
        v.put("wind", (long) s.wind[who]);
        v.put("boots", (long) by.men.get(who).boots);
        v.put("place", (long) s.place(who));
        v.put("mates", mates);
        v.put("ribbon", (long) s.towards(who));
        v.put("line", (long) by.line);
        v.put("worked", (long) s.worked[who]);
        v.put("heave", (long) s.heave);
        for (Clause c : rule) {
            if (c.test.apply(v)) {
                return c.sum.apply(v);
            }
        }
        return 0;
    }

    private List<Clause> ruleInForce() {
        return force == NONE ? null : rules.get(force);
    }

    private State after(State from, int n, Map<Integer, Integer> fixed) {
        State s = new State(from);
        for (int i = 0; i < n; i++) {
            heave(s, told, ruleInForce(), fixed, -1);
        }
        return s;
    }

    // ---- the face

    private boolean has(int who) {
        return told != null && who >= 0 && who < told.men.size();
    }

    private void act() {
        past.addLast(new State(now));
        if (past.size() > 20) {
            past.removeFirst();
        }
    }

    int force(int rule) {
        if (rule < -1 || rule >= rules.size()) {
            return -2;
        }
        int was = force;
        force = rule;
        return was;
    }

    int puller(int who, int what) {
        if (!has(who) || what < 0 || what > 6) {
            return NONE;
        }
        Man m = told.men.get(who);
        int[] all = {now.side(who), m.strong, now.wind[who], m.boots, now.place(who), now.down[who] ? 0 : 1,
            now.worked[who]};
        return all[what];
    }

    int ribbon() {
        return told == null ? NONE : now.ribbon + 100;
    }

    int heave() {
        if (told == null || now.heave == 999) {
            return NONE;
        }
        act();
        heave(now, told, ruleInForce(), Map.of(), -1);
        return now.ribbon + 100;
    }

    int send(int who) {
        if (!has(who)) {
            return NONE;
        }
        act();
        int to = 1 - now.side(who);
        now.sides.get(1 - to).remove((Integer) who);
        now.sides.get(to).add(who);
        return to;
    }

    int front(int who) {
        if (!has(who) || now.place(who) == 0) {
            return NONE;
        }
        act();
        int was = now.place(who);
        List<Integer> side = now.sides.get(now.side(who));
        side.remove((Integer) who);
        side.add(0, who);
        return was;
    }

    int breath(int who, int much) {
        if (!has(who) || much < 1 || much > 9) {
            return NONE;
        }
        act();
        now.wind[who] = Math.min(60, now.wind[who] + much);
        return now.wind[who];
    }

    int set(int ribbon) {
        if (told == null || Math.abs((long) ribbon - 100) > told.line - 1 || ribbon - 100 == now.ribbon) {
            return NONE;
        }
        act();
        int was = now.ribbon + 100;
        now.ribbon = ribbon - 100;
        return was;
    }

    int undo() {
        if (past.isEmpty()) {
            return NONE;
        }
        now = past.removeLast();
        return past.size();
    }

    private int weight(int set) {
        int sum = 0;
        for (int i = 0; i < told.men.size(); i++) {
            sum += (set & 1 << i) != 0 ? told.men.get(i).strong : 0;
        }
        return sum;
    }

    private int all() {
        return (1 << told.men.size()) - 1;
    }

    private boolean outweighs(int set) {
        return weight(set) > weight(all() ^ set);
    }

    int fair(int what) {
        if (told == null || what < 0 || what > 1) {
            return NONE;
        }
        int best = -1;
        int least = Integer.MAX_VALUE;
        for (int set = 0; set <= all(); set++) {
            int d = Math.abs(weight(set) - weight(all() ^ set));
            if (d < least) {
                least = d;
                best = set;
            }
        }
        return what == 0 ? least : best;
    }

    int swings(int who) {
        if (!has(who)) {
            return NONE;
        }
        int n = 0;
        for (int set = 0; set <= all(); set++) {
            if ((set & 1 << who) == 0 && !outweighs(set) && outweighs(set + (1 << who))) {
                n++;
            }
        }
        return n;
    }

    int shares(int who) {
        return has(who) ? rows(who, 0) : NONE;
    }

    /** Goes through all rows of PULLERS, one by one. */
    private int rows(int who, int ahead) {
        int n = 0;
        for (int i = 0; i < told.men.size(); i++) {
            if ((ahead & 1 << i) == 0) {
                if (i == who) {
                    int left = told.men.size() - 1 - Integer.bitCount(ahead);
                    int behind = 1;
                    for (int k = 2; k <= left; k++) {
                        behind *= k;
                    }
                    n += !outweighs(ahead) && outweighs(ahead + (1 << i)) ? behind : 0;
                } else {
                    n += rows(who, ahead + (1 << i));
                }
            }
        }
        return n;
    }

    int fewest(int what) {
        if (told == null || what < 0 || what > 1) {
            return NONE;
        }
        if (told.men.isEmpty()) {
            return -2;
        }
        for (int n = 1;; n++) {
            for (int set = 0; set <= all(); set++) {
                if (Integer.bitCount(set) == n && outweighs(set)) {
                    return what == 0 ? n : set;
                }
            }
        }
    }

    int needed() {
        if (told == null) {
            return NONE;
        }
        int bits = 0;
        for (int i = 0; i < told.men.size(); i++) {
            bits += outweighs(all() - (1 << i)) ? 0 : 1 << i;
        }
        return bits;
    }

    int ahead(int who, int n, int what) {
        if (told == null || n < 0 || n > 100 || what < 0 || what > 2 || what == 1 && !has(who)) {
            return NONE;
        }
        State s = after(now, n, Map.of());
        return what == 0 ? s.ribbon + 100 : what == 1 ? s.wind[who] : s.stand();
    }

    int over(int what) {
        if (told == null || what < 0 || what > 1) {
            return NONE;
        }
        for (int n = 1; n <= 200; n++) {
            State s = after(now, n, Map.of());
            if (over(s)) {
                return what == 0 ? s.heave - 1 : s.ribbon < 0 ? 0 : 1;
            }
        }
        return -2;
    }

    int row(int who, int n, int what) {
        if (!has(who) || n < 1 || n > 4 || what < 0 || what > 4) {
            return -2;
        }
        int[] best = bestRow(now, who, n);
        return what == 0 ? best[0] + 100 : what > n ? NONE : best[what];
    }

    /** How far, then the EFFORTS. */
    private int[] bestRow(State from, int who, int n) {
        if (n == 0) {
            return new int[] {from.towards(who)};
        }
        int[] best = null;
        int most = from.down[who] ? 0 : Math.min(3, from.wind[who]);
        for (int e = 0; e <= most; e++) {
            int[] rest = bestRow(after(from, 1, Map.of(who, e)), who, n - 1);
            if (best == null || rest[0] > best[0]) {
                best = new int[rest.length + 1];
                best[0] = rest[0];
                best[1] = e;
                System.arraycopy(rest, 1, best, 2, rest.length - 1);
            }
        }
        return best;
    }

    int trade(int n, int what) {
        if (told == null || n < 1 || n > 40 || what < 0 || what > 2) {
            return -2;
        }
        int[] best = {Math.abs(after(now, n, Map.of()).ribbon), NONE, NONE};
        for (int a = 0; a < told.men.size(); a++) {
            for (int b = 0; b < told.men.size(); b++) {
                if (now.side(a) == 0 && now.side(b) == 1) {
                    State s = new State(now);
                    s.sides.get(0).set(now.place(a), b);
                    s.sides.get(1).set(now.place(b), a);
                    int near = Math.abs(after(s, n, Map.of()).ribbon);
                    if (near < best[0]) {
                        best = new int[] {near, a, b};
                    }
                }
            }
        }
        return best[what];
    }

    int out(int n, int what) {
        if (told == null || n < 1 || n > 40 || what < 0 || what > 1) {
            return -2;
        }
        int[] best = {NONE, Math.abs(after(now, n, Map.of()).ribbon)};
        for (int a = 0; a < told.men.size(); a++) {
            int near = Math.abs(after(now, n, Map.of(a, 0)).ribbon);
            if (near < best[1]) {
                best = new int[] {a, near};
            }
        }
        return best[what];
    }

    private boolean asNoted(Told by, List<Clause> rule) {
        State s = new State(by);
        for (int n = 0; n <= 60; n++) {
            heave(s, by, rule, Map.of(), -1);
            for (Note note : notes) {
                if (note.n == n && note.ribbon != s.ribbon) {
                    return false;
                }
            }
        }
        return true;
    }

    private int fitting(int least, int most, int what, Function<Integer, Told> with) {
        int many = 0;
        int first = -2;
        for (int v = least; v <= most; v++) {
            if (asNoted(with.apply(v), ruleInForce())) {
                first = many == 0 ? v : first;
                many++;
            }
        }
        return what == 0 ? many : first;
    }

    private Told with(int who, Man man) {
        List<Man> men = new ArrayList<>(told.men);
        men.set(who, man);
        return new Told(told.line, told.mud, told.ribbon, men);
    }

    int strengths(int who, int what) {
        if (!has(who) || what < 0 || what > 1) {
            return NONE;
        }
        Man m = told.men.get(who);
        return fitting(1, 40, what, v -> with(who, new Man(m.side, v, m.wind, m.boots)));
    }

    int winds(int who, int what) {
        if (!has(who) || what < 0 || what > 1) {
            return NONE;
        }
        Man m = told.men.get(who);
        return fitting(0, 60, what, v -> with(who, new Man(m.side, m.strong, v, m.boots)));
    }

    private int[] haves(int one, int a, int other, int b, int n) {
        State s = after(now, n, Map.of(one, a, other, b));
        return new int[] {s.towards(one) + s.wind[one], s.towards(other) + s.wind[other]};
    }

    int rests(int one, int other, int n, int what) {
        if (!has(one) || !has(other) || one == other || n < 1 || n > 20 || what < 0 || what > 2) {
            return NONE;
        }
        int many = 0;
        int[] first = {0, -2, -2};
        for (int a = 0; a < 4; a++) {
            for (int b = 0; b < 4; b++) {
                int[] has = haves(one, a, other, b, n);
                boolean steady = true;
                for (int c = 0; c < 4; c++) {
                    steady &= haves(one, c, other, b, n)[0] <= has[0] && haves(one, a, other, c, n)[1] <= has[1];
                }
                if (steady) {
                    first = many == 0 ? new int[] {0, a, b} : first;
                    many++;
                }
            }
        }
        return what == 0 ? many : first[what];
    }

    int alike(int what) {
        if (told == null || what < 0 || what > 1) {
            return NONE;
        }
        List<String> seen = new ArrayList<>();
        for (int n = 0; n <= 60; n++) {
            State s = after(now, n, Map.of());
            seen.add(s.ribbon + " " + java.util.Arrays.toString(s.wind) + s.stand());
        }
        for (int n = 0; n < 60; n++) {
            int later = seen.subList(n + 1, 61).indexOf(seen.get(n));
            if (later >= 0) {
                return what == 0 ? after(now, n, Map.of()).heave : later + 1;
            }
        }
        return -2;
    }

    int pence(int much, int who) {
        if (!has(who) || much < 0 || much > 9999) {
            return NONE;
        }
        long all = 0;
        for (int w : now.worked) {
            all += w;
        }
        if (all == 0) {
            return 0;
        }
        int n = now.worked.length;
        long[] part = new long[n];
        List<Integer> order = new ArrayList<>();
        long left = much;
        for (int i = 0; i < n; i++) {
            part[i] = (long) much * now.worked[i] / all;
            left -= part[i];
            order.add(i);
        }
        long sum = all;
        order.sort((p, q) -> Long.compare((long) much * now.worked[q] % sum, (long) much * now.worked[p] % sum));
        for (int i = 0; i < left; i++) {
            part[order.get(i)]++;
        }
        return (int) part[who];
    }

    int note(int n, int ribbon) {
        if (n == NONE) {
            notes.clear();
            return 0;
        }
        if (told == null || n < 0 || n > 60 || ribbon < 0 || ribbon > 200 || notes.size() == 10) {
            return -2;
        }
        notes.add(new Note(n, ribbon - 100));
        return notes.size();
    }

    private List<Integer> ruledBy() {
        List<Integer> all = new ArrayList<>();
        for (int r = -1; r < rules.size(); r++) {
            if (asNoted(told, r < 0 ? null : rules.get(r))) {
                all.add(r);
            }
        }
        return all;
    }

    int ruled(int what) {
        if (told == null || what < 0 || what > 1) {
            return -3;
        }
        List<Integer> all = ruledBy();
        return what == 0 ? all.size() : all.isEmpty() ? -2 : all.get(0);
    }

    int look(int what) {
        if (told == null || what < 0 || what > 1) {
            return NONE;
        }
        List<Integer> all = ruledBy();
        if (all.isEmpty()) {
            return -2;
        }
        List<State> states = new ArrayList<>();
        for (int r : all) {
            states.add(new State(told));
        }
        int best = 0;
        int fewest = Integer.MAX_VALUE;
        for (int n = 0; n <= 60; n++) {
            Map<Integer, Integer> where = new HashMap<>();
            for (int i = 0; i < all.size(); i++) {
                heave(states.get(i), told, all.get(i) < 0 ? null : rules.get(all.get(i)), Map.of(), -1);
                where.merge(states.get(i).ribbon, 1, Integer::sum);
            }
            int most = where.values().stream().max(Integer::compare).get();
            if (most < fewest) {
                fewest = most;
                best = n;
            }
        }
        return what == 0 ? best : fewest;
    }

    int seed(int v) {
        if (v < 0) {
            return NONE;
        }
        int was = x;
        x = v;
        return was;
    }

    int rain(int m, int n, int p, int what) {
        if (told == null || m < 1 || m > 10 || n < 1 || n > 60 || p < 0 || p > 100 || what < 0 || what > 1) {
            return NONE;
        }
        int[] y = {x};
        IntUnaryOperator draw = mod -> {
            y[0] = java.math.BigInteger.valueOf(y[0]).multiply(java.math.BigInteger.valueOf(1103515245))
                .add(java.math.BigInteger.valueOf(12345)).mod(java.math.BigInteger.ONE.shiftLeft(31)).intValue();
            return y[0] / 65536 % mod;
        };
        int won = 0;
        int sum = 0;
        for (int i = 0; i < m; i++) {
            State s = new State(now);
            for (int k = 0; k < n; k++) {
                int wet = -1;
                if (draw.applyAsInt(100) < p && !told.men.isEmpty()) {
                    wet = draw.applyAsInt(told.men.size());
                }
                heave(s, told, ruleInForce(), Map.of(), wet);
            }
            won += over(s) && s.ribbon > 0 ? 1 : 0;
            sum += s.ribbon + 200;
        }
        return what == 0 ? won : sum;
    }

    int count(int what) {
        boolean has = told != null;
        switch (what) {
            case 0: return has ? told.line : 0;
            case 1: return has ? told.mud : 0;
            case 2: return has ? told.men.size() : 0;
            case 3: return rules.size();
            case 4: return force;
            case 5: return has ? now.heave : 0;
            case 6: return has ? now.sides.get(0).stream().mapToInt(i -> 1 << i).sum() : 0;
            case 7: return has ? now.stand() : 0;
            case 8: return has && over(now) ? 1 : 0;
            case 9: return has ? java.util.Arrays.stream(now.worked).sum() : 0;
            case 10: return notes.size();
            case 11: return past.size();
            case 12: return x;
            case 13: return tape.length;
            default: return NONE;
        }
    }

    int image(int k) {
        if (k < 0 || k > 3) {
            return NONE;
        }
        pictures[k] = new Picture(told, now == null ? null : new State(now), new ArrayList<>(notes), force, x);
        return now == null ? 0 : now.heave;
    }

    int back(int k) {
        if (k < 0 || k > 3 || pictures[k] == null) {
            return NONE;
        }
        Picture p = pictures[k];
        told = p.told;
        now = p.state == null ? null : new State(p.state);
        notes = new ArrayList<>(p.notes);
        force = p.force;
        x = p.x;
        past.clear();
        return now == null ? 0 : now.heave;
    }
}
