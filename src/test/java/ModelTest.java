import java.util.ArrayList;
import java.util.List;
import java.util.Random;

/** The same calls, chosen by a fixed seed, on SameAfter and on the Model: every answer must be the same. */
public final class ModelTest {
    // An object is used for 512 calls; what is begun behind the last look at this takes less than the rest.
    private static final int MOST_CALLS = 400;

    private static int wrong = 0;
    private static long asked = 0;

    private final SameAfter x = new SameAfter();
    private final Model m = new Model();
    private final Random random;
    private final List<String> told = new ArrayList<>();
    private int calls = 0;

    private ModelTest(long seed) { random = new Random(seed); }

    public static void main(String[] args) {
        int objects = args.length > 0 ? Integer.parseInt(args[0]) : 2000;
        long base = args.length > 1 ? Long.parseLong(args[1]) : 0;
        for (int n = 0; n < objects && wrong < 5; n++) {
            new ModelTest(base + n).session();
        }
        System.out.println("ModelTest: " + asked + " answers compared, " + wrong + " unlike");
        if (wrong != 0) System.exit(1);
    }

    private boolean same(String call, int got, int want) {
        calls++;
        asked++;
        told.add(call + " -> " + got);
        if (got == want) return true;
        wrong++;
        System.out.println("unlike: " + call + " answered " + got + ", the model " + want + ", behind:");
        for (String t : told) System.out.println("    " + t);
        return false;
    }

    private static int of(boolean b) { return b ? 1 : 0; }

    private int pick(int n) { return random.nextInt(n); }

    /** Mostly 0 .. n - 1, at times beside it. */
    private int near(int n) { return pick(40) == 0 ? pick(n + 6) - 3 : pick(n); }

    private void session() {
        int ruleShare = pick(4);
        for (int n = 0; n < ruleShare + pick(6); n++) giveRule();
        for (int n = pick(12); n > 0; n--) giveItem();
        for (int n = 0; n < 8; n++) giveProgram();
        while (calls < MOST_CALLS && wrong == 0) {
            switch (pick(14)) {
                case 0 -> giveRule();
                case 1, 2 -> giveItem();
                case 3, 4, 5, 6 -> giveProgram();
                case 7 -> clear();
                case 8, 9, 10 -> hunt();
                default -> change();
            }
            look();
        }
    }

    /** A PROGRAM and a PASS of one ITEM, so that CUT and BLAME often have something to find. */
    private void hunt() {
        int s = pick(6);
        int p = pick(6);
        int to = near(6);
        if (pick(3) > 0) {
            feed(new Texts(random).suspect());
            same("program(" + s + ")", x.program(s), m.program(s));
        }
        if (pick(2) == 0) {
            same("clear(" + p + ")", of(x.clear(p)), of(m.clear(p)));
            int v = pick(3) == 0 ? near(12) : 22 + pick(2);
            same("item(" + p + ", " + v + ")", x.item(p, v), m.item(p, v));
        }
        same("blame(" + s + ", 0)", x.blame(s, 0), m.blame(s, 0));
        same("blame(" + s + ", 1)", x.blame(s, 1), m.blame(s, 1));
        same("cut(" + p + ", " + s + ", " + to + ")", x.cut(p, s, to), m.cut(p, s, to));
        if (to >= 0 && to < 6) row(to);
    }

    private void clear() {
        int p = near(6);
        same("clear(" + p + ")", of(x.clear(p)), of(m.clear(p)));
    }

    private void feed(String text) {
        told.add("TEXT " + text.replace("\n", "\\n"));
        for (int i = 0; i < text.length(); i += 20) {
            int[] five = new int[5];
            for (int k = 0; k < 20; k++) {
                int c = i + k < text.length() ? text.charAt(i + k) : 32;
                five[k / 4] = five[k / 4] << 8 | c;
            }
            same("feed", x.feed(five[0], five[1], five[2], five[3], five[4]),
                m.feed(five[0], five[1], five[2], five[3], five[4]));
        }
        if (pick(30) == 0) {
            int n = pick(3) == 0 ? -1 : 900;
            same("end(" + n + ")", of(x.end(n)), of(m.end(n)));
        }
        same("end(" + text.length() + ")", of(x.end(text.length())), of(m.end(text.length())));
    }

    private String spoil(String text) {
        String signs = ";+-*(){}<=>  \n09155abcdefgxyz\t#outifelsewhilefail->ABFXZ@[`";
        StringBuilder b = new StringBuilder(text);
        for (int n = 1 + pick(2); n > 0; n--) {
            int at = pick(b.length() + 1);
            char c = signs.charAt(pick(signs.length()));
            switch (pick(4)) {
                case 0 -> b.insert(at, c);
                case 1 -> { if (at < b.length()) b.deleteCharAt(at); }
                case 2 -> { if (at < b.length()) b.setCharAt(at, c); }
                default -> b.setLength(at);
            }
        }
        return b.toString();
    }

    private void giveProgram() {
        String text = pick(25) == 0 ? new Texts(random).full() : new Texts(random).program();
        if (pick(5) == 0) text = spoil(text);
        if (text.length() > 800) return;
        feed(text);
        int s = near(6);
        same("program(" + s + ")", x.program(s), m.program(s));
        faults();
    }

    private static final String[] KNOWN = {"x+0->x", "0+x->x", "x*2->x+x", "x*x->x", "x-x->0", "x+y->y+x", "x->x+0",
        "x*(y+z)->x*y+x*z", "x+y-y->x", "x-y->x+y*15", "x->x", "x*y->y*x", "x*0->0", "x->x*x", "x+(y+z)->x+y+z",
        "x*8*(x+1)->0", "0*x*x*x*x*x*x*x*x->0", "x*x*x*x*x*x*x*x->y", "x+1->x", "x-1->x+15", "1->2", "x*y*z->z*y*x",
        "x*x*x*x*x*x*x->x", "(x-x)*x*x*x*x*x*x*x->0", "x*4*x*4*x*x*x*x*x->0", "z+y->y*z"};

    private void giveRule() {
        String text = pick(3) > 0 ? KNOWN[pick(KNOWN.length)] : new Texts(random).rule();
        if (pick(6) == 0) text = spoil(text);
        feed(text);
        int r = m.rule();
        same("rule()", x.rule(), r);
        faults();
        if (r >= 0) {
            for (int what = 0; what < 4; what++) ruleOf(r, what);
        }
    }

    private void ruleOf(int r, int what) {
        same("ruleOf(" + r + ", " + what + ")", x.ruleOf(r, what), m.ruleOf(r, what));
    }

    private void faults() {
        for (int what = -1; what < 3; what++) same("fault(" + what + ")", x.fault(what), m.fault(what));
    }

    private void giveItem() {
        int p = near(6);
        int v = pick(2) == 0 ? near(12) : 20 + near(5);
        same("item(" + p + ", " + v + ")", x.item(p, v), m.item(p, v));
    }

    private void change() {
        int s = near(6);
        int to = near(6);
        int p = near(6);
        int k = near(4);
        switch (pick(4)) {
            case 0 -> {
                int r = near(Math.max(1, m.rules.size()));
                same("apply(" + r + ", " + s + ", " + k + ", " + to + ")", of(x.apply(r, s, k, to)), of(m.apply(r, s, k, to)));
            }
            case 1 -> same("cut(" + p + ", " + s + ", " + to + ")", x.cut(p, s, to), m.cut(p, s, to));
            default -> same("make(" + p + ", " + s + ", " + to + ")", x.make(p, s, to), m.make(p, s, to));
        }
        if (to >= 0 && to < 6) row(to);
    }

    private void row(int s) {
        List<Integer> row = new ArrayList<>();
        Model.row(m.slots.get(s), row);
        if (!same("size(" + s + ", 2)", x.size(s, 2), row.size())) return;
        for (int k = 0; k < row.size() && calls < MOST_CALLS; k++) {
            calls++;
            if (x.at(s, k) != row.get(k)) { same("at(" + s + ", " + k + ")", x.at(s, k), row.get(k)); return; }
        }
    }

    private void look() {
        int s = near(6);
        int q = near(6);
        int what = near(4);
        int a = near(16);
        int b = near(16);
        int k = near(20);
        same("at(" + s + ", " + k + ")", x.at(s, k), m.at(s, k));
        same("size(" + s + ", " + what + ")", x.size(s, what), m.size(s, what));
        int ask = new int[] {what, 9 + near(8), 100 + near(8)}[pick(3)];
        same("run(" + s + ", " + a + ", " + b + ", " + ask + ")", x.run(s, a, b, ask), m.run(s, a, b, ask));
        if (pick(2) == 0) same("judge(" + s + ", " + q + ", " + what + ")", x.judge(s, q, what), m.judge(s, q, what));
        int r = near(12);
        same("places(" + r + ", " + s + ")", x.places(r, s), m.places(r, s));
        if (pick(3) == 0) {
            int w = near(2);
            same("blame(" + s + ", " + w + ")", x.blame(s, w), m.blame(s, w));
        }
        int reg = pick(40) == 0 ? near(30) : new int[] {0, 10 + near(6), 20 + near(7)}[pick(3)];
        same("registers(" + s + ", " + reg + ")", x.registers(s, reg), m.registers(s, reg));
        int v = near(6);
        int w = near(6);
        same("clash(" + s + ", " + v + ", " + w + ")", x.clash(s, v, w), m.clash(s, v, w));
    }

    /** Texts of PROGRAMS and RULES. */
    private static final class Texts {
        private final Random random;
        private final StringBuilder b = new StringBuilder();
        private final int vars;
        private final boolean small;

        Texts(Random random) {
            this.random = random;
            vars = random.nextInt(3) == 0 ? 1 + random.nextInt(6) : 3 + random.nextInt(2);
            small = random.nextInt(4) > 0;
        }

        private int pick(int n) { return random.nextInt(n); }

        private void say(String s) {
            b.append(s);
            if (pick(12) == 0) b.append(pick(2) == 0 ? " " : "\n");
        }

        String program() {
            block(small ? 1 + pick(5) : 1 + pick(14), 0);
            return b.toString();
        }

        /** Mostly copies, sets and outs, of up to 13 STATEMENTS. */
        String suspect() {
            for (int n = 2 + pick(8); n > 0; n--) {
                switch (pick(6)) {
                    case 0, 1 -> say(var() + "=" + var() + ";");
                    case 2 -> say(var() + "=" + pick(16) + ";");
                    case 3 -> say("out " + var() + "*" + var() + ";");
                    case 4 -> say("out " + var() + "+0;");
                    default -> {
                        if (pick(2) == 0) statement(2); else say("out " + var() + ";");
                    }
                }
            }
            return b.toString();
        }

        /** As near to 40 STATEMENTS, 300 EXPRESSIONS and 8 open ones as 800 bytes go. */
        String full() {
            int most = 20 + pick(25);
            int open = 0;
            for (int n = 0; n < most && b.length() < 700; n++) {
                int k = pick(10);
                if (k == 0 && open < 9) {
                    say(pick(2) == 0 ? "if a<1{" : "while b>1{");
                    open++;
                } else if (k == 1 && open > 0) {
                    say("}");
                    open--;
                } else {
                    say("c=a");
                    for (int i = pick(16); i > 0; i--) say(pick(6) == 0 ? "*(b)" : "+1");
                    say(";");
                }
            }
            for (; open > 0; open--) say("}");
            return b.toString();
        }

        String rule() {
            expression(2, true);
            String left = b.toString();
            say("->");
            expression(2, true);
            if (pick(3) > 0) {
                // Most rules should stand: their right side has letters of the left side alone.
                for (char c = 'x'; c <= 'z'; c++) {
                    if (left.indexOf(c) < 0) {
                        for (int i = left.length(); i < b.length(); i++) if (b.charAt(i) == c) b.setCharAt(i, '3');
                    }
                }
            }
            return b.toString();
        }

        private void block(int n, int depth) {
            for (int i = 0; i < n; i++) statement(depth);
        }

        private String var() { return "" + (char) ('a' + pick(vars)); }

        private void statement(int depth) {
            int k = pick(depth > 3 ? 8 : 12);
            if (k < 4) {
                say(var());
                say("=");
                if (pick(3) == 0) say(var()); else expression(2, false);
                say(";");
            } else if (k < 7) {
                b.append("out ");
                expression(2, false);
                say(";");
            } else if (k == 7) {
                if (pick(3) == 0) { say("fail"); say(";"); } else { say(var()); say("="); say("" + pick(16)); say(";"); }
            } else {
                branch(k < 10, depth);
            }
        }

        private void branch(boolean isIf, int depth) {
            b.append(isIf ? "if " : "while ");
            if (pick(6) == 0) say("" + pick(3)); else expression(1, false);
            say(new String[] {"<", "=", ">"}[pick(3)]);
            if (pick(2) == 0) say("" + pick(5)); else expression(1, false);
            say("{");
            block(pick(4), depth + 1);
            if (!isIf && pick(2) == 0) { String v = var(); say(v + "=" + v + (pick(2) == 0 ? "-1;" : "+1;")); }
            say("}");
            if (isIf && pick(2) == 0) {
                say("else");
                say("{");
                block(pick(3), depth + 1);
                say("}");
            }
        }

        private void expression(int depth, boolean ofRule) {
            int k = depth == 0 ? pick(5) : pick(9);
            if (k < 2) {
                say(pick(3) > 0 ? "" + pick(4) : "" + pick(16));
            } else if (k < 5) {
                say(ofRule ? "" + (char) ('x' + pick(3)) : var());
            } else if (k < 8) {
                expression(depth - 1, ofRule);
                say("" + "+-*".charAt(pick(3)));
                expression(depth - 1, ofRule);
            } else {
                say("(");
                expression(depth - 1, ofRule);
                say(")");
            }
        }
    }
}
