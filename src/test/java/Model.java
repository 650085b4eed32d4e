import java.util.ArrayList;
import java.util.HashMap;
import java.util.IdentityHashMap;
import java.util.List;
import java.util.Map;
import java.util.TreeMap;

/**
 * The document told once more, over trees and with the Java library, as plainly as its words go and with
 * nothing shared with SameAfter: ModelTest compares the two. Slow on purpose.
 */
final class Model {
    static final int NONE = -1;

    // ---- trees

    static final class E {
        int op = 0;      // 0 NUMBER, 1 VARIABLE or letter, else 120..122
        int n;
        E l;
        E r;

        static E num(int n) { E e = new E(); e.n = n; return e; }
        static E var(int v) { E e = new E(); e.op = 1; e.n = v; return e; }
        static E of(int op, E l, E r) { E e = new E(); e.op = op; e.l = l; e.r = r; return e; }

        E copy() { return op < 2 ? (op == 0 ? num(n) : var(n)) : of(op, l.copy(), r.copy()); }

        boolean same(E o) { return op == o.op && (op < 2 ? n == o.n : l.same(o.l) && r.same(o.r)); }

        int value(int[] env) {
            if (op == 0) return n;
            if (op == 1) return env[n];
            int a = l.value(env);
            int b = r.value(env);
            return Math.floorMod(op == 120 ? a + b : op == 121 ? a - b : a * b, 16);
        }

        void row(List<Integer> out) {
            if (op < 2) { out.add(op == 0 ? n : 20 + n); return; }
            out.add(op);
            l.row(out);
            r.row(out);
        }

        void all(List<E> out) { out.add(this); if (op >= 2) { l.all(out); r.all(out); } }

        int reads() { return op == 0 ? 0 : op == 1 ? 1 << n : l.reads() | r.reads(); }
    }

    static final class S {
        char kind;       // = o f i w
        int v;
        E e;
        int cmp;
        E left;
        E right;
        List<S> a = new ArrayList<>();
        List<S> b = new ArrayList<>();

        S copy() {
            S s = new S();
            s.kind = kind; s.v = v; s.cmp = cmp;
            if (e != null) s.e = e.copy();
            if (left != null) { s.left = left.copy(); s.right = right.copy(); }
            s.a = copyAll(a);
            s.b = copyAll(b);
            return s;
        }
    }

    static List<S> copyAll(List<S> p) {
        List<S> out = new ArrayList<>();
        for (S s : p) out.add(s.copy());
        return out;
    }

    static void row(List<S> p, List<Integer> out) {
        for (S s : p) {
            switch (s.kind) {
                case '=' -> { out.add(100 + s.v); s.e.row(out); }
                case 'o' -> { out.add(110); s.e.row(out); }
                case 'f' -> out.add(111);
                case 'i' -> { out.add(112); test(s, out); row(s.a, out); out.add(113); row(s.b, out); out.add(114); }
                default -> { out.add(115); test(s, out); row(s.a, out); out.add(114); }
            }
        }
    }

    static void test(S s, List<Integer> out) { out.add(s.cmp); s.left.row(out); s.right.row(out); }

    static void roots(List<S> p, List<E> out) {
        for (S s : p) {
            if (s.e != null) out.add(s.e);
            if (s.left != null) { out.add(s.left); out.add(s.right); }
            roots(s.a, out);
            roots(s.b, out);
        }
    }

    static List<E> expressions(List<S> p) {
        List<E> roots = new ArrayList<>();
        roots(p, roots);
        List<E> out = new ArrayList<>();
        for (E e : roots) e.all(out);
        return out;
    }

    static void statements(List<S> p, List<S> out) {
        for (S s : p) { out.add(s); statements(s.a, out); statements(s.b, out); }
    }

    static int count(List<S> p) { List<S> out = new ArrayList<>(); statements(p, out); return out.size(); }

    static boolean large(List<S> p) { return count(p) > 40 || expressions(p).size() > 300; }

    // ---- reading

    static final class Bad extends RuntimeException {
        private static final long serialVersionUID = 1L;
        final int what;
        final int place;
        Bad(int what, int place) { super(null, null, false, false); this.what = what; this.place = place; }
    }

    static final class Parser {
        final String t;
        final boolean ofRule;
        int at;
        String tok;
        int place;
        int stmts;
        int things;
        int open;
        int leftLetters = -1;

        Parser(String t, boolean ofRule) { this.t = t; this.ofRule = ofRule; next(); }

        void next() {
            while (at < t.length() && (t.charAt(at) == ' ' || t.charAt(at) == '\n')) at++;
            place = at;
            if (at == t.length()) { tok = "END"; return; }
            char c = t.charAt(at);
            int e = at + 1;
            if (abc(c)) {
                while (e < t.length() && abc(t.charAt(e))) e++;
                tok = t.substring(at, e);
                if (tok.length() > 1 && !List.of("out", "fail", "if", "else", "while").contains(tok)) tok = "NOTHING";
            } else if (dig(c)) {
                while (e < t.length() && dig(t.charAt(e))) e++;
                tok = e - at > 4 ? "NOTHING" : t.substring(at, e);
            } else if (ofRule && t.startsWith("->", at)) {
                e = at + 2;
                tok = "->";
            } else {
                tok = ";+-*(){}<=>".indexOf(c) >= 0 ? "" + c : "NOTHING";
            }
            at = e;
        }

        static boolean abc(char c) { return c < 128 && Character.isLetter(c); }
        static boolean dig(char c) { return c >= '0' && c <= '9'; }

        boolean is(String s) { return tok.equals(s); }
        void need(String s) { if (!is(s)) throw new Bad(1, place); }
        void take(String s) { need(s); next(); }
        boolean letter(char from, char to) { return tok.length() == 1 && tok.charAt(0) >= from && tok.charAt(0) <= to; }

        void opens(String s) { need(s); if (open == 8) throw new Bad(3, place); open++; next(); }
        void closes(String s) { need(s); open--; next(); }
        void thing() { if (++things > (ofRule ? 40 : 300)) throw new Bad(3, place); }

        List<S> program() { List<S> p = block(); need("END"); return p; }

        List<S> block() {
            List<S> p = new ArrayList<>();
            while (!is("END") && !is("}")) p.add(statement());
            return p;
        }

        S statement() {
            boolean sets = letter('a', 'f');
            if (!sets && !is("out") && !is("fail") && !is("if") && !is("while")) throw new Bad(1, place);
            if (++stmts > 40) throw new Bad(3, place);
            S s = new S();
            if (sets) {
                s.kind = '=';
                s.v = tok.charAt(0) - 'a';
                next();
                take("=");
                s.e = sum();
                take(";");
            } else if (is("out")) {
                s.kind = 'o';
                next();
                s.e = sum();
                take(";");
            } else if (is("fail")) {
                s.kind = 'f';
                next();
                take(";");
            } else {
                s.kind = tok.charAt(0);
                next();
                s.left = sum();
                if (!is("<") && !is("=") && !is(">")) throw new Bad(1, place);
                s.cmp = 130 + "<=>".indexOf(tok);
                next();
                s.right = sum();
                opens("{");
                s.a = block();
                closes("}");
                if (s.kind == 'i' && is("else")) {
                    next();
                    opens("{");
                    s.b = block();
                    closes("}");
                }
            }
            return s;
        }

        E sum() {
            E e = product();
            while (is("+") || is("-")) {
                int op = is("+") ? 120 : 121;
                thing();
                next();
                e = E.of(op, e, product());
            }
            return e;
        }

        E product() {
            E e = unit();
            while (is("*")) {
                thing();
                next();
                e = E.of(122, e, unit());
            }
            return e;
        }

        E unit() {
            if (is("(")) {
                opens("(");
                E e = sum();
                closes(")");
                return e;
            }
            if (dig(tok.charAt(0))) {
                int n = Integer.parseInt(tok);
                if (n > 15) throw new Bad(2, place);
                thing();
                next();
                return E.num(n);
            }
            if (ofRule ? !letter('x', 'z') : !letter('a', 'f')) throw new Bad(1, place);
            int v = tok.charAt(0) - (ofRule ? 'x' : 'a');
            if (leftLetters >= 0 && (leftLetters >> v & 1) == 0) throw new Bad(2, place);
            thing();
            next();
            return E.var(v);
        }
    }

    // ---- state

    final StringBuilder tape = new StringBuilder();
    final List<List<S>> slots = new ArrayList<>();
    final List<E[]> rules = new ArrayList<>();
    final List<List<Integer>> passes = new ArrayList<>();
    int fault;
    int faultPlace = NONE;

    Model() {
        for (int i = 0; i < 6; i++) { slots.add(new ArrayList<>()); passes.add(new ArrayList<>()); }
    }

    boolean slot(int s) { return s >= 0 && s < 6; }
    boolean ruleThere(int r) { return r >= 0 && r < rules.size(); }

    int feed(int a, int b, int c, int d, int e) {
        if (tape.length() > 780) return NONE;
        for (int x : new int[] {a, b, c, d, e}) {
            for (int k = 3; k >= 0; k--) tape.append((char) (x >> 8 * k & 255));
        }
        return tape.length();
    }

    boolean end(int n) {
        if (n < 0 || n > tape.length()) return false;
        tape.setLength(n);
        return true;
    }

    String takeTape() {
        String t = tape.toString();
        tape.setLength(0);
        fault = 0;
        faultPlace = NONE;
        return t;
    }

    int program(int slot) {
        String t = takeTape();
        if (!slot(slot)) return NONE;
        try {
            slots.set(slot, new Parser(t, false).program());
            return count(slots.get(slot));
        } catch (Bad bad) {
            fault = bad.what;
            faultPlace = bad.place;
            return NONE;
        }
    }

    int rule() {
        String t = takeTape();
        if (rules.size() == 12) return NONE;
        try {
            Parser p = new Parser(t, true);
            E left = p.sum();
            p.take("->");
            p.leftLetters = left.reads();
            E right = p.sum();
            p.need("END");
            rules.add(new E[] {left, right});
            return rules.size() - 1;
        } catch (Bad bad) {
            fault = bad.what;
            faultPlace = bad.place;
            return NONE;
        }
    }

    int fault(int what) { return what == 0 ? fault : what == 1 ? faultPlace : NONE; }

    int at(int slot, int k) {
        if (!slot(slot)) return NONE;
        List<Integer> row = new ArrayList<>();
        row(slots.get(slot), row);
        return k >= 0 && k < row.size() ? row.get(k) : NONE;
    }

    int size(int slot, int what) {
        if (!slot(slot)) return NONE;
        List<S> p = slots.get(slot);
        if (what == 0) return count(p);
        if (what == 1) return expressions(p).size();
        if (what == 2) { List<Integer> row = new ArrayList<>(); row(p, row); return row.size(); }
        return what == 3 ? new Live().block(p, 0) : NONE;
    }

    // ---- runs

    static final class Run {
        final int[] env = new int[6];
        final List<Integer> outputs = new ArrayList<>();
        int steps;
        int ends;

        static final class Stop extends RuntimeException {
            private static final long serialVersionUID = 1L;
            Stop() { super(null, null, false, false); }
        }

        Run(List<S> p, int a, int b) {
            env[0] = a;
            env[1] = b;
            try { block(p); } catch (Stop stop) { /* ends says why */ }
        }

        void step() { if (steps == 100) { ends = 2; throw new Stop(); } steps++; }

        boolean so(S s) {
            int l = s.left.value(env);
            int r = s.right.value(env);
            return s.cmp == 130 ? l < r : s.cmp == 131 ? l == r : l > r;
        }

        void block(List<S> p) {
            for (S s : p) {
                step();
                switch (s.kind) {
                    case '=' -> env[s.v] = s.e.value(env);
                    case 'o' -> outputs.add(s.e.value(env));
                    case 'f' -> { ends = 1; throw new Stop(); }
                    case 'i' -> block(so(s) ? s.a : s.b);
                    default -> { while (so(s)) { block(s.a); step(); } }
                }
            }
        }
    }

    int run(int slot, int a, int b, int what) {
        if (!slot(slot) || a < 0 || a > 15 || b < 0 || b > 15) return NONE;
        Run r = new Run(slots.get(slot), a, b);
        if (what == 0) return r.ends;
        if (what == 1) return r.steps;
        if (what == 2) return r.outputs.size();
        if (what >= 10 && what <= 15) return r.env[what - 10];
        return what >= 100 && what - 100 < r.outputs.size() ? r.outputs.get(what - 100) : NONE;
    }

    /** verdict, first INPUTS, place, how many. */
    static int[] judged(List<S> p, List<S> q) {
        int[] out = {0, NONE, NONE, 0};
        boolean tired = false;
        for (int in = 0; in < 256; in++) {
            Run x = new Run(p, in / 16, in % 16);
            Run y = new Run(q, in / 16, in % 16);
            boolean t = x.ends == 2 || y.ends == 2;
            tired |= t;
            int place = NONE;
            for (int k = Math.min(x.outputs.size(), y.outputs.size()) - 1; k >= 0; k--) {
                if (!x.outputs.get(k).equals(y.outputs.get(k))) place = k;
            }
            if (place != NONE || !t && (x.outputs.size() != y.outputs.size() || x.ends != y.ends)) {
                if (out[3]++ == 0) { out[1] = in; out[2] = place; }
            }
        }
        out[0] = out[3] > 0 ? 1 : tired ? 2 : 0;
        return out;
    }

    int judge(int p, int q, int what) {
        if (!slot(p) || !slot(q) || what < 0 || what > 3) return NONE;
        return judged(slots.get(p), slots.get(q))[what];
    }

    // ---- rules

    int ruleOf(int r, int what) {
        if (!ruleThere(r) || what < 0 || what > 3) return NONE - 1;
        E l = rules.get(r)[0];
        E g = rules.get(r)[1];
        if (what == 2) {
            Map<Integer, Integer> f = form(l);
            Map<Integer, Integer> h = form(g);
            if (f == null || h == null) return NONE;
            f.values().removeIf(n -> n == 0);
            h.values().removeIf(n -> n == 0);
            return f.equals(h) ? 1 : 0;
        }
        int first = NONE;
        int wrongs = 0;
        for (int xyz = 0; xyz < 4096; xyz++) {
            int[] env = {xyz >> 8, xyz >> 4 & 15, xyz & 15};
            boolean ask = true;
            for (int v = 0; v < 3; v++) ask &= env[v] == 0 || (l.reads() >> v & 1) != 0;
            if (ask && l.value(env) != g.value(env)) {
                if (wrongs++ == 0) first = xyz;
            }
        }
        return what == 0 ? (wrongs == 0 ? 1 : 0) : what == 1 ? first : wrongs;
    }

    /** Products by 10000 x + 100 y + z; those of factor 0 stay till the end. */
    static Map<Integer, Integer> form(E e) {
        Map<Integer, Integer> out = new TreeMap<>();
        if (e.op == 0) { out.put(0, e.n); return out; }
        if (e.op == 1) { out.put(e.n == 0 ? 10000 : e.n == 1 ? 100 : 1, 1); return out; }
        Map<Integer, Integer> l = form(e.l);
        Map<Integer, Integer> r = form(e.r);
        if (l == null || r == null) return null;
        if (e.op != 122) {
            out.putAll(l);
            r.forEach((k, f) -> out.merge(k, e.op == 120 ? f : (16 - f) % 16, (x, y) -> (x + y) % 16));
            return out;
        }
        for (var x : l.entrySet()) {
            for (var y : r.entrySet()) {
                int k = x.getKey() + y.getKey();
                if (k / 10000 > 7 || k / 100 % 100 > 7 || k % 100 > 7) return null;
                out.merge(k, x.getValue() * y.getValue() % 16, (u, w) -> (u + w) % 16);
            }
        }
        return out;
    }

    static boolean match(E pat, E e, Map<Integer, E> bound) {
        if (pat.op == 1) {
            E old = bound.putIfAbsent(pat.n, e);
            return old == null || old.same(e);
        }
        if (pat.op != e.op) return false;
        return pat.op == 0 ? pat.n == e.n : match(pat.l, e.l, bound) && match(pat.r, e.r, bound);
    }

    static E put(E right, Map<Integer, E> bound) {
        if (right.op == 0) return right.copy();
        return right.op == 1 ? bound.get(right.n).copy() : E.of(right.op, put(right.l, bound), put(right.r, bound));
    }

    /** The k-th match rewritten in place; false if there is none such. */
    static boolean rewrite(E[] rule, List<S> p, int k) {
        int n = 0;
        for (E e : expressions(p)) {
            Map<Integer, E> bound = new HashMap<>();
            if (match(rule[0], e, bound) && n++ == k) {
                E by = put(rule[1], bound);
                e.op = by.op; e.n = by.n; e.l = by.l; e.r = by.r;
                return true;
            }
        }
        return false;
    }

    int places(int r, int slot) {
        if (!ruleThere(r) || !slot(slot)) return NONE;
        int n = 0;
        for (E e : expressions(slots.get(slot))) if (match(rules.get(r)[0], e, new HashMap<>())) n++;
        return n;
    }

    boolean apply(int r, int slot, int k, int to) {
        if (!ruleThere(r) || !slot(slot) || !slot(to) || k < 0) return false;
        List<S> p = copyAll(slots.get(slot));
        if (!rewrite(rules.get(r), p, k) || expressions(p).size() > 300) return false;
        slots.set(to, p);
        return true;
    }

    // ---- liveness

    static final class Live {
        final Map<S, Integer> ahead = new IdentityHashMap<>();
        final Map<S, Integer> behind = new IdentityHashMap<>();

        int block(List<S> p, int after) {
            int live = after;
            for (int i = p.size() - 1; i >= 0; i--) {
                S s = p.get(i);
                behind.put(s, live);
                live = one(s, live);
                ahead.put(s, live);
            }
            return live;
        }

        int one(S s, int after) {
            switch (s.kind) {
                case '=': return after & ~(1 << s.v) | s.e.reads();
                case 'o': return after | s.e.reads();
                case 'f': return 0;
                case 'i': return block(s.a, after) | block(s.b, after) | s.left.reads() | s.right.reads();
                default:
                    int asking = after | s.left.reads() | s.right.reads();
                    for (int n = 0; n < 8; n++) asking |= block(s.a, asking);
                    return asking;
            }
        }
    }

    // ---- passes

    int item(int pass, int v) {
        if (!slot(pass) || !(ruleThere(v) || v >= 20 && v <= 24) || passes.get(pass).size() == 8) return NONE;
        passes.get(pass).add(v);
        return passes.get(pass).size();
    }

    boolean clear(int pass) {
        if (!slot(pass)) return false;
        passes.get(pass).clear();
        return true;
    }

    static E fold(E e) {
        if (e.op < 2) return e;
        E l = fold(e.l);
        E r = fold(e.r);
        E out = E.of(e.op, l, r);
        return l.op == 0 && r.op == 0 ? E.num(out.value(null)) : out;
    }

    static List<S> fold(List<S> p) {
        List<S> out = new ArrayList<>();
        for (S s : p) {
            if (s.e != null) s.e = fold(s.e);
            if (s.left == null) { out.add(s); continue; }
            s.left = fold(s.left);
            s.right = fold(s.right);
            s.a = fold(s.a);
            s.b = fold(s.b);
            if (s.left.op != 0 || s.right.op != 0) { out.add(s); continue; }
            int l = s.left.n;
            int r = s.right.n;
            boolean so = s.cmp == 130 ? l < r : s.cmp == 131 ? l == r : l > r;
            if (s.kind == 'i') out.addAll(so ? s.a : s.b);
            else if (so) out.add(s);
        }
        return out;
    }

    static boolean removeAll(List<S> p, List<S> which) {
        boolean any = false;
        for (int i = p.size() - 1; i >= 0; i--) {
            S s = p.get(i);
            boolean hit = false;
            for (S w : which) hit |= w == s;
            if (hit) { p.remove(i); any = true; } else { any |= removeAll(s.a, which) | removeAll(s.b, which); }
        }
        return any;
    }

    static void dead(List<S> p, boolean hasty) {
        boolean again = true;
        while (again) {
            List<S> all = new ArrayList<>();
            statements(p, all);
            Live live = new Live();
            live.block(p, 0);
            List<S> gone = new ArrayList<>();
            for (int i = 0; i < all.size(); i++) {
                S s = all.get(i);
                if (s.kind != '=') continue;
                int read = 0;
                if (hasty) {
                    for (S t : all.subList(i + 1, all.size())) {
                        if (t.e != null) read |= t.e.reads();
                        if (t.left != null) read |= t.left.reads() | t.right.reads();
                    }
                } else {
                    read = live.behind.get(s);
                }
                if ((read >> s.v & 1) == 0) gone.add(s);
            }
            again = removeAll(p, gone);
        }
    }

    static boolean sets(S s, int v) {
        if (s.kind == '=' && s.v == v) return true;
        for (S t : s.a) if (sets(t, v)) return true;
        for (S t : s.b) if (sets(t, v)) return true;
        return false;
    }

    static void hastyCopy(List<S> p) {
        for (int i = 0; i < p.size(); i++) {
            S s = p.get(i);
            if (s.kind == '=' && s.e.op == 1 && s.e.n != s.v) {
                for (S t : p.subList(i + 1, p.size())) {
                    boolean sets = sets(t, s.v);
                    if (sets && t.left != null) break;
                    for (E e : expressions(List.of(t))) if (e.op == 1 && e.n == s.v) e.n = s.e.n;
                    if (sets) break;
                }
            }
            hastyCopy(s.a);
            hastyCopy(s.b);
        }
    }

    static List<S> unroll(List<S> p) {
        List<S> out = new ArrayList<>();
        for (S s : p) {
            out.add(s);
            if (s.kind == 'i') { s.a = unroll(s.a); s.b = unroll(s.b); }
            if (s.kind == 'w') {
                S inner = s.copy();
                s.kind = 'i';
                s.a.add(inner);
            }
        }
        return out;
    }

    /** null: it FAILS. */
    List<S> made(int pass, List<S> from) {
        List<S> p = copyAll(from);
        for (int v : passes.get(pass)) {
            if (v < 12) {
                for (int n = 0; n < 50 && rewrite(rules.get(v), p, 0); n++) if (large(p)) return null;
            } else {
                switch (v) {
                    case 20 -> p = fold(p);
                    case 21 -> dead(p, false);
                    case 22 -> dead(p, true);
                    case 23 -> hastyCopy(p);
                    default -> p = unroll(p);
                }
            }
            if (large(p)) return null;
        }
        return p;
    }

    int make(int pass, int slot, int to) {
        if (!slot(pass) || !slot(slot) || !slot(to)) return NONE;
        List<S> p = made(pass, slots.get(slot));
        if (p == null) return NONE;
        slots.set(to, p);
        return count(p);
    }

    int blame(int slot, int what) {
        if (!slot(slot) || what < 0 || what > 1) return NONE;
        List<S> p = slots.get(slot);
        for (int pass = 0; pass < 6; pass++) {
            if (passes.get(pass).isEmpty()) continue;
            List<S> q = made(pass, p);
            if (q == null) return what == 0 ? pass : NONE;
            int[] j = judged(p, q);
            if (j[0] == 1) return what == 0 ? pass : j[1];
            p = q;
        }
        return NONE;
    }

    boolean wrong(int pass, List<S> p) {
        List<S> q = made(pass, p);
        return q != null && judged(p, q)[0] == 1;
    }

    int cut(int pass, int slot, int to) {
        if (!slot(pass) || !slot(slot) || !slot(to)) return NONE;
        List<S> p = copyAll(slots.get(slot));
        int n = count(p);
        if (n < 1 || n > 12 || !wrong(pass, p)) return NONE;
        boolean again = true;
        while (again) {
            again = false;
            for (int i = 0; i < count(p) && !again; i++) {
                List<S> q = copyAll(p);
                List<S> all = new ArrayList<>();
                statements(q, all);
                removeAll(q, List.of(all.get(i)));
                if (wrong(pass, q)) { p = q; again = true; }
            }
        }
        slots.set(to, p);
        return count(p);
    }

    // ---- registers

    static boolean[][] clashes(List<S> p) {
        boolean[][] out = new boolean[6][6];
        Live live = new Live();
        live.block(p, 0);
        List<S> all = new ArrayList<>();
        statements(p, all);
        for (S s : all) {
            for (int v = 0; v < 6; v++) {
                for (int w = 0; w < 6; w++) {
                    if (v == w) continue;
                    int a = live.ahead.get(s);
                    boolean both = (a >> v & 1) != 0 && (a >> w & 1) != 0;
                    boolean set = s.kind == '=' && s.v == v && (live.behind.get(s) >> w & 1) != 0;
                    if (both || set) { out[v][w] = true; out[w][v] = true; }
                }
            }
        }
        return out;
    }

    static int[] comings(List<S> p) {
        int[] out = new int[6];
        List<Integer> row = new ArrayList<>();
        row(p, row);
        for (int c : row) {
            if (c >= 20 && c <= 25) out[c - 20]++;
            if (c >= 100 && c <= 105) out[c - 100]++;
        }
        return out;
    }

    /** The first dealing of k REGISTERS by counting through all of them; null if there is none. */
    static int[] deal(boolean[][] clash, int set, int k) {
        int all = 1;
        for (int v = 0; v < 6; v++) if ((set >> v & 1) != 0) all *= k;
        for (int n = 0; n < all; n++) {
            int[] reg = new int[6];
            int rest = n;
            for (int v = 5; v >= 0; v--) {
                reg[v] = NONE;
                if ((set >> v & 1) != 0) { reg[v] = rest % k; rest /= k; }
            }
            boolean good = true;
            for (int v = 0; v < 6 && good; v++) {
                for (int w = 0; w < v; w++) good &= reg[v] < 0 || reg[v] != reg[w] || !clash[v][w];
            }
            if (good) return reg;
        }
        return null;
    }

    int registers(int slot, int what) {
        if (!slot(slot)) return NONE;
        List<S> p = slots.get(slot);
        boolean[][] clash = clashes(p);
        int[] comings = comings(p);
        int present = 0;
        for (int v = 0; v < 6; v++) if (comings[v] > 0) present |= 1 << v;
        if (what == 0 || what >= 10 && what <= 15) {
            int k = 0;
            while (deal(clash, present, k) == null) k++;
            return what == 0 ? k : deal(clash, present, k)[what - 10];
        }
        if (what < 20 || what > 26) return NONE;
        int best = NONE;
        int least = Integer.MAX_VALUE;
        for (int set = 0; set < 64; set++) {
            int cost = 0;
            for (int v = 0; v < 6; v++) if ((set >> v & 1) != 0) cost += comings[v];
            if (cost < least && deal(clash, present & ~set, what - 20) != null) { best = set; least = cost; }
        }
        return best;
    }

    int clash(int slot, int v, int w) {
        if (!slot(slot) || v < 0 || v > 5 || w < 0 || w > 5 || v == w) return NONE;
        return clashes(slots.get(slot))[v][w] ? 1 : 0;
    }
}
