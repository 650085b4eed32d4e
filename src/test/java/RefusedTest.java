import java.util.ArrayList;
import java.util.List;

/**
 * Calls that are refused, and calls that only tell, change nothing: of two objects that were told the same, one hears
 * them as well; behind them both must answer alike to all that can be asked.
 */
public final class RefusedTest {
    public static void main(String[] args) {
        fullTape();
        afterRefusals();
        afterAsking();
        afterRefusalsWhenFull();
        afterFaults();
        wildArguments();
        Talk.close("RefusedTest");
    }

    private static final int[] OUTSIDE = {Integer.MIN_VALUE, -1, 6, Integer.MAX_VALUE};

    /** Two RULES, ITEMS in three PASSES, PROGRAMS in five SLOTS, a FAULT, and a text on the TAPE. */
    private static Talk told() {
        Talk t = new Talk();
        t.rule("1->2", 0);
        t.rule("x+0->x", 1);
        t.item(0, 0, 1);
        t.item(0, 20, 2);
        t.item(2, 24, 1);
        t.item(5, 23, 1);
        t.program(0, "out 1+0;", 1);
        t.program(1, "while a>0{a=a-1;}", 2);
        t.program(2, "c=b;b=3;out c;", 3);
        t.program(4, "fail;", 1);
        t.program(5, "out a+1;", 1);
        t.badProgram("out 16;", 2, 4);
        t.tape("d=7;");
        return t;
    }

    private static void addRows(SameAfter x, List<Integer> seen) {
        for (int s = 0; s < 6; s++) {
            int n = x.size(s, 2);
            seen.add(n);
            for (int k = 0; k < n; k++) seen.add(x.at(s, k));
        }
    }

    /** All that an object can be asked, by calls that may change it: it is of no use behind this. */
    private static List<Integer> seen(SameAfter x) {
        List<Integer> seen = new ArrayList<>();
        seen.add(x.fault(0));
        seen.add(x.fault(1));
        addRows(x, seen);
        for (int r = 0; r < 4; r++) seen.add(x.ruleOf(r, 1));
        for (int p = 0; p < 6; p++) {
            for (int s = 0; s < 3; s++) seen.add(x.make(p, s, 3));
            for (int n = 0; n < 8; n++) seen.add(x.item(p, 21));
        }
        seen.add(x.blame(2, 0));
        seen.add(x.feed(0x20202020, 0x20202020, 0x20202020, 0x20202020, 0x20202020));
        seen.add(x.program(3));
        seen.add(x.fault(0));
        seen.add(x.fault(1));
        addRows(x, seen);
        return seen;
    }

    private static void alike(String behind, Talk one, Talk other) {
        List<Integer> a = seen(one.x);
        List<Integer> b = seen(other.x);
        Talk.due("how much is seen behind " + behind, a.size(), b.size());
        for (int k = 0; k < Math.min(a.size(), b.size()); k++) Talk.due("what is seen at " + k + " behind " + behind, a.get(k), b.get(k));
    }

    /** "NONE, and nothing comes, if there would be more than 800." */
    private static void fullTape() {
        Talk one = new Talk();
        Talk other = new Talk();
        String text = Talk.times(" ", 791) + "out 1+2;";
        one.tape(text);
        other.tape(text);
        for (int n = 0; n < 5; n++) Talk.due("feed behind 799", one.x.feed(-1, -1, -1, -1, -1), -1);
        Talk.due("end(800)", one.x.end(800), false);
        Talk.due("end(-1)", one.x.end(-1), false);
        Talk.due("program", one.x.program(0), 1);
        Talk.due("program", other.x.program(0), 1);
        one.row(0, 110, 120, 1, 2);
        alike("a full TAPE", one, other);
    }

    /** "NONE, and nothing is done", "false, and nothing is done", "false, changing nothing". */
    private static void afterRefusals() {
        Talk t = told();
        SameAfter x = t.x;
        Talk.due("end(5)", x.end(5), false);
        for (int n : OUTSIDE) {
            if (n != 6) Talk.due("end(" + n + ")", x.end(n), false);
            Talk.due("apply", x.apply(n, 0, 0, 1), false);
            Talk.due("apply", x.apply(0, n, 0, 1), false);
            Talk.due("apply", x.apply(0, 0, n, 1), false);
            Talk.due("apply", x.apply(0, 0, 0, n), false);
            Talk.due("item", x.item(n, 20), -1);
            Talk.due("item", x.item(1, n), -1);
            Talk.due("clear", x.clear(n), false);
            Talk.due("make", x.make(n, 0, 1), -1);
            Talk.due("make", x.make(0, n, 1), -1);
            Talk.due("make", x.make(0, 0, n), -1);
            Talk.due("cut", x.cut(n, 2, 1), -1);
            Talk.due("cut", x.cut(5, n, 1), -1);
            Talk.due("cut", x.cut(5, 2, n), -1);
        }
        Talk.due("cut of what is RIGHT", x.cut(2, 1, 0), -1);
        Talk.due("cut of no STATEMENT", x.cut(5, 3, 0), -1);
        Talk.due("apply where there is none", x.apply(1, 2, 0, 0), false);
        Talk.due("item of a RULE that is not there", x.item(1, 2), -1);
        alike("refused calls", t, told());
    }

    /** at, size, run, judge, ruleOf, places, blame, registers, clash and fault tell, and do no more. */
    private static void afterAsking() {
        Talk t = told();
        SameAfter x = t.x;
        for (int s = 0; s < 6; s++) {
            x.at(s, 1);
            x.run(s, 3, 4, 2);
            x.judge(s, 5 - s, 3);
            x.blame(s, 0);
            x.blame(s, 1);
            x.clash(s, 0, 1);
            for (int what = 0; what < 4; what++) x.size(s, what);
            for (int r = 0; r < 2; r++) x.places(r, s);
            for (int k = 0; k < 7; k++) x.registers(s, 20 + k);
            x.registers(s, 0);
        }
        for (int what = 0; what < 4; what++) x.ruleOf(1, what);
        x.fault(0);
        x.fault(5);
        alike("calls that tell", t, told());
    }

    private static Talk full() {
        Talk t = new Talk();
        for (int r = 0; r < 12; r++) t.rule(r < 11 ? "1->2" : "x->x+x", r);
        for (int n = 1; n <= 8; n++) t.item(0, n == 8 ? 11 : 20, n);
        t.program(0, "out a;", 1);
        t.program(1, "while a<1{" + Talk.times("fail;", 30) + "}", 31);
        t.item(1, 24, 1);
        t.program(2, "out 1" + Talk.times("+a", 149) + ";", 1);
        return t;
    }

    /** "or it has 8", "if it FAILS", "or it would have more than 300 EXPRESSIONS". */
    private static void afterRefusalsWhenFull() {
        Talk t = full();
        SameAfter x = t.x;
        Talk.due("the 9th ITEM", x.item(0, 20), -1);
        Talk.due("a RULE as the 9th ITEM", x.item(0, 0), -1);
        for (int to = 0; to < 6; to++) {
            Talk.due("make that FAILS by a RULE", x.make(0, 0, to), -1);
            Talk.due("make that FAILS by UNROLL", x.make(1, 1, to), -1);
            Talk.due("apply beyond 300", x.apply(11, 2, 0, to), false);
            Talk.due("cut where the PASS FAILS", x.cut(0, 0, to), -1);
            Talk.due("cut of 31 STATEMENTS", x.cut(1, 1, to), -1);
        }
        Talk other = full();
        Talk.due("EXPRESSIONS", x.size(2, 1), 299);
        Talk.due("EXPRESSIONS", other.x.size(2, 1), 299);
        int[] slots = {0, 1, 3, 4, 5};
        for (int s : slots) {
            Talk.due("numbers of SLOT " + s, x.size(s, 2), other.x.size(s, 2));
            Talk.due("the last of SLOT " + s, x.at(s, x.size(s, 2) - 1), other.x.at(s, other.x.size(s, 2) - 1));
        }
        Talk.due("the first of SLOT 2", x.at(2, 0), 110);
        Talk.due("the 1 of SLOT 2", x.at(2, 150), 1);
        Talk.due("clear", x.clear(0), true);
        for (int n = 1; n <= 8; n++) t.item(0, 20, n);
    }

    /** program() and rule() with a FAULT, or with no place for them: nothing but the TAPE and fault() is as it was not. */
    private static void afterFaults() {
        Talk t = told();
        Talk other = told();
        String[] programs = {"out 1;out 2;out", "a=16;", Talk.times("(", 9), "a=" + Talk.times("(", 9)};
        for (int n = 0; n < programs.length; n++) t.program(n, programs[n], -1);
        t.program(6, "fail;fail;", -1);
        t.program(-1, "fail;fail;", -1);
        String[] rules = {"3->4->5", "x->y", "x*x*x*x->16", "(((((((((x"};
        for (String text : rules) t.rule(text, -1);
        t.badProgram("out 16;", 2, 4);
        t.tape("d=7;");
        alike("FAULTS", t, other);
    }

    private static final int[] WILD = {Integer.MIN_VALUE, Integer.MIN_VALUE + 1, -1000, -2, -1, 6, 12, 26, 27, 100, 1000, Integer.MAX_VALUE - 1,
        Integer.MAX_VALUE};

    /** Whatever the arguments are, each call answers; of those that can't be, each as the document says. */
    private static void wildArguments() {
        for (int n : WILD) {
            for (int m : WILD) {
                Talk t = new Talk();
                SameAfter x = t.x;
                Talk.due("feed", x.feed(n, m, n, m, n), 20);
                Talk.due("end", x.end(n), n >= 0 && n <= 20);
                Talk.due("end(0)", x.end(0), true);
                Talk.due("program", x.program(n), -1);
                Talk.due("fault", x.fault(n), -1);
                Talk.due("at", x.at(n, m), -1);
                Talk.due("at", x.at(0, m), -1);
                Talk.due("size", x.size(n, m), -1);
                Talk.due("size", x.size(0, m), -1);
                Talk.due("run", x.run(n, m, n, m), -1);
                Talk.due("run", x.run(0, 0, 0, m), m == 12 ? 0 : -1);
                Talk.due("judge", x.judge(n, m, n), -1);
                Talk.due("judge", x.judge(0, 0, m), -1);
                Talk.due("ruleOf", x.ruleOf(n, m), -2);
                Talk.due("places", x.places(n, m), -1);
                Talk.due("apply", x.apply(n, m, n, m), false);
                Talk.due("apply", x.apply(0, 0, n, m), false);
                Talk.due("item", x.item(n, m), -1);
                Talk.due("item", x.item(0, m), -1);
                Talk.due("clear", x.clear(n), false);
                Talk.due("make", x.make(n, m, n), -1);
                Talk.due("make", x.make(0, 0, m), -1);
                Talk.due("blame", x.blame(n, m), -1);
                Talk.due("blame", x.blame(0, m), -1);
                Talk.due("cut", x.cut(n, m, n), -1);
                Talk.due("cut", x.cut(0, 0, m), -1);
                Talk.due("registers", x.registers(n, m), -1);
                Talk.due("registers", x.registers(0, m), m == 26 ? 0 : -1);
                Talk.due("clash", x.clash(n, m, n), -1);
                Talk.due("clash", x.clash(0, n, m), -1);
            }
        }
    }
}
