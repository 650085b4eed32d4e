/**
 * Promises 9 and 10, and what part 1 of the Terms says of RUNS and of PROGRAMS that are JUDGED, at their edges.
 * Each method is for one sentence of the document, which stands above it.
 */
public final class EdgeRunTest {
    public static void main(String[] args) {
        moduloSixteen();
        comparesWords();
        inputs();
        steps();
        askingIsAStep();
        failEnds();
        hundredth();
        hundredFirst();
        endsBehindLast();
        variables();
        outputs();
        mostOutputs();
        runRefused();
        partPlace();
        partMany();
        partEnds();
        partTired();
        firstInputs();
        unproved();
        right();
        judgePlace();
        judgeMany();
        judgeSlots();
        judgeAgain();
        judgeRefused();
        deepest();
        lastCall();
        Talk.close("EdgeRunTest");
    }

    private static final int[] NO_SLOTS = {Integer.MIN_VALUE, -1, 6, 7, Integer.MAX_VALUE};
    private static final int[] NO_WORDS = {Integer.MIN_VALUE, -16, -1, 16, 17, 31, 256, Integer.MAX_VALUE};

    private static Talk with(String text) {
        Talk t = new Talk();
        t.tape(text);
        Talk.due("(the text stands) " + text, t.x.program(0) >= 0, true);
        return t;
    }

    private static void run(Talk t, int a, int b, int ends, int steps, int... outputs) {
        String on = "run on " + a + ", " + b;
        Talk.due(on + " ENDS", t.x.run(0, a, b, 0), ends);
        Talk.due(on + " STEPS", t.x.run(0, a, b, 1), steps);
        Talk.due(on + " OUTPUTS", t.x.run(0, a, b, 2), outputs.length);
        for (int k = 0; k < outputs.length; k++) Talk.due(on + " OUTPUT " + k, t.x.run(0, a, b, 100 + k), outputs[k]);
        Talk.due(on + " OUTPUT behind the last", t.x.run(0, a, b, 100 + outputs.length), -1);
    }

    /** "WORDS are 0 .. 15; sums, differences and products are taken modulo 16." */
    private static void moduloSixteen() {
        run(with("out 15+1;out 15+15;out 8+8;out 7+8;"), 0, 0, 0, 4, 0, 14, 0, 15);
        run(with("out 0-1;out 0-15;out 1-2;out 15-15;out 0-0;"), 0, 0, 0, 5, 15, 1, 15, 0, 0);
        run(with("out 4*4;out 15*15;out 8*2;out 3*5;out 3*6;out 0*15;"), 0, 0, 0, 6, 0, 1, 0, 15, 2, 0);
        for (int a = 0; a < 16; a++) {
            Talk t = with("c=a+b;d=a-b;e=a*b;");
            for (int b = 0; b < 16; b++) {
                Talk.due(a + "+" + b, t.x.run(0, a, b, 12), (a + b) % 16);
                Talk.due(a + "-" + b, t.x.run(0, a, b, 13), (a - b + 16) % 16);
                Talk.due(a + "*" + b, t.x.run(0, a, b, 14), a * b % 16);
            }
        }
        // What is out of the WORDS on the way is taken modulo 16 there, and is no more or less than that.
        run(with("if 15+1<1{out 1;}if 0-1>14{out 2;}if 4*4=0{out 3;}"), 0, 0, 0, 6, 1, 2, 3);
        run(with("out 0-1" + Talk.times("-1", 16) + ";out 1" + Talk.times("*2", 4) + ";out 15" + Talk.times("*15", 20) + ";"),
            0, 0, 0, 3, 15, 0, 15);
    }

    /** "B = E (< | = | >) E": of equal ones neither is less or more. */
    private static void comparesWords() {
        Talk t = with("if a<b{c=1;}if a=b{d=1;}if a>b{e=1;}");
        int[][] pairs = {{0, 0}, {0, 1}, {1, 0}, {15, 15}, {14, 15}, {15, 14}, {0, 15}, {15, 0}, {7, 8}, {8, 7}};
        for (int[] p : pairs) {
            Talk.due(p[0] + "<" + p[1], t.x.run(0, p[0], p[1], 12), p[0] < p[1] ? 1 : 0);
            Talk.due(p[0] + "=" + p[1], t.x.run(0, p[0], p[1], 13), p[0] == p[1] ? 1 : 0);
            Talk.due(p[0] + ">" + p[1], t.x.run(0, p[0], p[1], 14), p[0] > p[1] ? 1 : 0);
        }
    }

    /** "A RUN on INPUTS (a, b): these are a and b, the others 0." */
    private static void inputs() {
        Talk t = with("out a;out b;out c;out d;out e;out f;");
        run(t, 0, 0, 0, 6, 0, 0, 0, 0, 0, 0);
        run(t, 15, 0, 0, 6, 15, 0, 0, 0, 0, 0);
        run(t, 0, 15, 0, 6, 0, 15, 0, 0, 0, 0);
        // Of one RUN nothing is left in the next one.
        t = with("out c+d+e+f;c=1;d=1;e=1;f=1;a=0;b=0;");
        for (int n = 0; n < 3; n++) run(t, 15, 15, 0, 7, 0);
    }

    /** "A STEP is a STATEMENT that is done". */
    private static void steps() {
        run(with(""), 0, 0, 0, 0);
        run(with("a=1;"), 0, 0, 0, 1);
        run(with("out 1;"), 0, 0, 0, 1, 1);
        run(with("fail;"), 0, 0, 1, 1);
        run(with("if 1<2{a=1;a=1;}else{a=1;a=1;a=1;}"), 0, 0, 0, 3);
        run(with("if 2<1{a=1;a=1;}else{a=1;a=1;a=1;}"), 0, 0, 0, 4);
        run(with(Talk.times("a=1;", 40)), 0, 0, 0, 40);
    }

    /** "of if and while each asking of B." */
    private static void askingIsAStep() {
        run(with("if 1<2{}"), 0, 0, 0, 1);
        run(with("if 2<1{}"), 0, 0, 0, 1);
        run(with("while 2<1{}"), 0, 0, 0, 1);
        Talk t = with("while a>0{a=a-1;}");
        run(t, 0, 0, 0, 1);
        run(t, 1, 0, 0, 3);
        run(t, 15, 0, 0, 31);
        t = with("while a>0{while b>0{b=b-1;}a=a-1;}");
        run(t, 0, 15, 0, 1);
        run(t, 2, 0, 0, 7);
        run(t, 2, 3, 0, 13);
    }

    /** "fail ends it." */
    private static void failEnds() {
        run(with("out 1;fail;out 2;"), 0, 0, 1, 2, 1);
        run(with("while 0<1{if a=3{fail;out 9;}a=a+1;}out 8;"), 1, 0, 1, 9);
        run(with("if 0<1{fail;}else{out 1;}out 2;"), 0, 0, 1, 2);
        run(with("if 1<0{fail;}else{out 1;}out 2;"), 0, 0, 0, 3, 1, 2);
        run(with("fail;fail;"), 0, 0, 1, 1);
    }

    /** On a = 15 these are 91 STEPS, and then more. */
    private static Talk ninetyOneAnd(int more, String last) {
        return with("while a>0{a=a-1;c=1;c=1;c=1;c=1;}" + Talk.times("d=d+1;", more) + last);
    }

    /** "The 101st STEP is not done": the 100th is, whatever it is. */
    private static void hundredth() {
        run(ninetyOneAnd(9, ""), 15, 0, 0, 100);
        run(ninetyOneAnd(8, "out 7;"), 15, 0, 0, 100, 7);
        run(ninetyOneAnd(8, "fail;"), 15, 0, 1, 100);
        run(ninetyOneAnd(8, "if 1<0{out 1;}"), 15, 0, 0, 100);
        run(ninetyOneAnd(8, "if 0<1{}else{out 1;}"), 15, 0, 0, 100);
        run(ninetyOneAnd(8, "while 1<0{out 1;}"), 15, 0, 0, 100);
        run(ninetyOneAnd(7, "if 0<1{out 7;}"), 15, 0, 0, 100, 7);
        run(ninetyOneAnd(6, "while b>0{b=b-1;}"), 15, 1, 0, 100);
        Talk.due("d", ninetyOneAnd(9, "").x.run(0, 15, 0, 13), 9);
    }

    /** "The 101st STEP is not done: it is TIRED." */
    private static void hundredFirst() {
        run(ninetyOneAnd(10, ""), 15, 0, 2, 100);
        run(ninetyOneAnd(9, "out 7;"), 15, 0, 2, 100);
        run(ninetyOneAnd(9, "fail;"), 15, 0, 2, 100);
        run(ninetyOneAnd(9, "if 1<0{}"), 15, 0, 2, 100);
        run(ninetyOneAnd(9, "while 1<0{}"), 15, 0, 2, 100);
        run(ninetyOneAnd(8, "if 0<1{out 7;}"), 15, 0, 2, 100);
        run(ninetyOneAnd(8, "while 0<1{}"), 15, 0, 2, 100);
        run(ninetyOneAnd(7, "while b>0{b=b-1;}"), 15, 1, 2, 100);
        Talk.due("d", ninetyOneAnd(10, "").x.run(0, 15, 0, 13), 9);
        Talk.due("d", ninetyOneAnd(11, "").x.run(0, 15, 0, 13), 9);
        run(with("while 0<1{}"), 0, 0, 2, 100);
        Talk t = with("while 0<1{c=c+1;}");
        run(t, 0, 0, 2, 100);
        Talk.due("c behind 50 times, modulo 16", t.x.run(0, 0, 0, 12), 2);
    }

    /** "It ENDS 0 behind its last STATEMENT, 1 by fail, 2 TIRED". */
    private static void endsBehindLast() {
        run(with(""), 15, 15, 0, 0);
        run(with("if 0<1{if 0<1{}}"), 0, 0, 0, 2);
        run(with("while a<1{if 0<1{a=1;}else{fail;}}"), 0, 0, 0, 4);
        run(with("if 0<1{while a<1{a=1;}}else{fail;}"), 0, 0, 0, 4);
        run(with("if a>0{fail;}"), 0, 0, 0, 1);
        run(with("if a>0{fail;}"), 1, 0, 1, 2);
        run(with("while a>0{}"), 1, 0, 2, 100);
    }

    /** "10 + v VARIABLE v in the end". */
    private static void variables() {
        Talk t = with("c=1;d=2;e=3;f=4;b=5;fail;a=9;");
        int[] due = {15, 5, 1, 2, 3, 4};
        for (int v = 0; v < 6; v++) Talk.due("VARIABLE " + v, t.x.run(0, 15, 15, 10 + v), due[v]);
        Talk.due("what 9", t.x.run(0, 15, 15, 9), -1);
        Talk.due("what 16", t.x.run(0, 15, 15, 16), -1);
        t = new Talk();
        for (int v = 0; v < 6; v++) Talk.due("VARIABLE " + v + " of an empty PROGRAM", t.x.run(5, 7, 8, 10 + v), v == 0 ? 7 : v == 1 ? 8 : 0);
    }

    /** "100 + k OUTPUT k. NONE if there is none such". */
    private static void outputs() {
        Talk t = with("out 5;if a>0{out 6;}");
        Talk.due("OUTPUT 0", t.x.run(0, 0, 0, 100), 5);
        Talk.due("OUTPUT 1, which another RUN has", t.x.run(0, 0, 0, 101), -1);
        Talk.due("OUTPUT 1", t.x.run(0, 1, 0, 101), 6);
        Talk.due("OUTPUT 1, which the RUN ahead had", t.x.run(0, 0, 0, 101), -1);
        Talk.due("OUTPUT 2", t.x.run(0, 1, 0, 102), -1);
        Talk.due("what 99", t.x.run(0, 1, 0, 99), -1);
        Talk.due("OUTPUT 0 of none", with("fail;").x.run(0, 0, 0, 100), -1);
    }

    /** As many OUTPUTS as 100 STEPS can tell: "100 + k OUTPUT k". */
    private static void mostOutputs() {
        Talk t = with("while 0<1{" + Talk.times("out c;", 38) + "c=c+1;}");
        Talk.due("OUTPUTS", t.x.run(0, 0, 0, 2), 95);
        Talk.due("OUTPUT 37", t.x.run(0, 0, 0, 137), 0);
        Talk.due("OUTPUT 38", t.x.run(0, 0, 0, 138), 1);
        Talk.due("OUTPUT 94", t.x.run(0, 0, 0, 194), 2);
        Talk.due("OUTPUT 95", t.x.run(0, 0, 0, 195), -1);
        t = with("while 0<1{" + Talk.times("out 3;", 39) + "}");
        Talk.due("OUTPUTS", t.x.run(0, 0, 0, 2), 97);
        Talk.due("OUTPUT 96", t.x.run(0, 0, 0, 196), 3);
        Talk.due("OUTPUT 97", t.x.run(0, 0, 0, 197), -1);
        Talk.due("OUTPUT 100", t.x.run(0, 0, 0, 200), -1);
    }

    /** "NONE if there is none such, one can't be, or another what." */
    private static void runRefused() {
        Talk t = with("out a;");
        t.program(5, "out b;", 1);
        int[] good = {0, 1, 2, 10, 15, 100};
        for (int what : good) {
            for (int s : NO_SLOTS) Talk.due("run of SLOT " + s, t.x.run(s, 0, 0, what), -1);
            for (int w : NO_WORDS) {
                Talk.due("run on a = " + w, t.x.run(0, w, 0, what), -1);
                Talk.due("run on b = " + w, t.x.run(0, 0, w, what), -1);
            }
        }
        int[] wrong = {Integer.MIN_VALUE, -100, -90, -1, 3, 4, 9, 16, 17, 20, 99, 101, 200, Integer.MAX_VALUE};
        for (int what : wrong) Talk.due("run what " + what, t.x.run(0, 0, 0, what), -1);
        Talk.due("run of SLOT 0 on 15, 15", t.x.run(0, 15, 15, 100), 15);
        Talk.due("run of SLOT 5 on 0, 15", t.x.run(5, 0, 15, 100), 15);
    }

    private static void judged(String p, String q, int verdict, int first, int place, int many) {
        Talk t = new Talk();
        t.tape(p);
        Talk.due("(the text stands) " + p, t.x.program(1) >= 0, true);
        t.tape(q);
        Talk.due("(the text stands) " + q, t.x.program(4) >= 0, true);
        int[] due = {verdict, first, place, many};
        for (int what = 0; what < 4; what++) {
            Talk.due("judge " + what + " of " + p + " and " + q, t.x.judge(1, 4, what), due[what]);
            Talk.due("judge " + what + " of " + q + " and " + p, t.x.judge(4, 1, what), due[what]);
        }
    }

    /** "Two PROGRAMS PART on INPUTS, if their OUTPUTS differ at a place that both have". */
    private static void partPlace() {
        judged("out 1;", "out 2;", 1, 0, 0, 256);
        judged("out 1;out 1;out 1;", "out 1;out 1;out 2;", 1, 0, 2, 256);
        judged("out 1;out 2;", "out 2;", 1, 0, 0, 256);
        // Be one TIRED or both.
        judged("while 0<1{out 1;}", "out 2;", 1, 0, 0, 256);
        judged("while 0<1{out 1;out 2;}", "while 0<1{out 1;out 3;}", 1, 0, 1, 256);
        judged("while 0<1{out c;c=c+1;}", "while 0<1{out c;c=c+1;if c=15{c=0;}}", 1, 0, 15, 256);
        judged("while 0<1{" + Talk.times("out 3;", 39) + "}", "while 0<1{" + Talk.times("out 3;", 38) + "out 4;}", 1, 0, 38, 256);
    }

    /** "or neither is TIRED and they have not as many OUTPUTS". */
    private static void partMany() {
        judged("out 1;", "", 1, 0, -1, 256);
        judged("out 1;out 1;", "out 1;", 1, 0, -1, 256);
        judged("out 1;fail;", "fail;", 1, 0, -1, 256);
        judged("if a=15{if b=15{out 0;}}", "", 1, 255, -1, 1);
        judged("while 0<1{out 1;}", "out 1;", 2, -1, -1, 0);
        judged("while 0<1{}", "out 1;", 2, -1, -1, 0);
    }

    /** "or neither is TIRED and .. ENDS unlike." */
    private static void partEnds() {
        judged("fail;", "", 1, 0, -1, 256);
        judged("out 1;fail;", "out 1;", 1, 0, -1, 256);
        judged("if b=15{fail;}", "", 1, 15, -1, 16);
        judged("fail;", "while 0<1{}", 2, -1, -1, 0);
        judged("", "while 0<1{}", 2, -1, -1, 0);
    }

    /** "if .. neither is TIRED": where one is, or both are, how many OUTPUTS there are and how they end tell nothing. */
    private static void partTired() {
        judged("while 0<1{out 1;}", "while 0<1{out 1;out 1;}", 2, -1, -1, 0);
        judged("while 0<1{out 1;}", "while 0<1{}", 2, -1, -1, 0);
        judged("out 1;out 1;fail;", "while 0<1{out 1;}", 2, -1, -1, 0);
        // 100 STEPS on one side, the 101st on the other one.
        String ninetyOne = "a=15;while a>0{a=a-1;c=1;c=1;c=1;c=1;}";
        judged(ninetyOne + Talk.times("c=1;", 7) + "fail;", ninetyOne + Talk.times("c=1;", 8), 1, 0, -1, 256);
        judged(ninetyOne + Talk.times("c=1;", 8) + "fail;", ninetyOne + Talk.times("c=1;", 8), 2, -1, -1, 0);
    }

    /** "JUDGED they are WRONG by the first INPUTS (a first, then b) on which they PART". */
    private static void firstInputs() {
        judged("if a=0{if b=0{out 1;}}", "", 1, 0, -1, 1);
        judged("if a=15{if b=15{out 1;}}", "", 1, 255, -1, 1);
        judged("if a=0{if b=15{out 1;}}if a=1{if b=0{out 1;}}", "", 1, 15, -1, 2);
        judged("if a+b=1{out 1;}", "", 1, 1, -1, 16);
        judged("if a>0{out 1;}", "", 1, 16, -1, 240);
        judged("if b>0{out 1;}", "", 1, 1, -1, 240);
        // It is WRONG though they are TIRED on INPUTS ahead of the first, or behind.
        judged("if a<15{while 0<1{}}out b;", "if a<15{while 0<1{}}out 0;", 1, 241, 0, 15);
        judged("if a>0{while 0<1{}}out b;", "if a>0{while 0<1{}}out 0;", 1, 1, 0, 15);
    }

    /** "UNPROVED if there are none, but INPUTS on which one of them is TIRED". */
    private static void unproved() {
        judged("if a=15{if b=15{while 0<1{}}}", "", 2, -1, -1, 0);
        judged("if a=0{if b=0{while 0<1{}}}", "", 2, -1, -1, 0);
        judged("while 0<1{}", "while 0<1{}", 2, -1, -1, 0);
        judged("if a=1{while 0<1{}}", "if a=2{while 0<1{}}", 2, -1, -1, 0);
        judged("while b=7{}", "", 2, -1, -1, 0);
    }

    /** "else RIGHT." */
    private static void right() {
        judged("", "", 0, -1, -1, 0);
        judged("fail;", "fail;out 1;", 0, -1, -1, 0);
        judged("a=1;b=2;", "", 0, -1, -1, 0);
        judged("out a*8*2;", "out 0;", 0, -1, -1, 0);
        judged("while a>0{a=a-1;}out a;", "out 0;", 0, -1, -1, 0);
    }

    /** "2 the first place of OUTPUTS that differs then (NONE if none that both have does)". */
    private static void judgePlace() {
        judged("out 0;out a;", "out 0;out 0;", 1, 16, 1, 240);
        judged("out b;out a;", "out 0;out 0;", 1, 1, 0, 255);
        // The first INPUTS on which they PART have no place that differs; others have.
        judged("if a=0{fail;}out a;", "out 0;", 1, 0, -1, 256);
        judged("if a=0{out 1;}else{out a;out a;}", "if a=0{}else{out 0;}", 1, 0, -1, 256);
        String many = Talk.times("out 0;", 35);
        judged(many + "out b;", many + "out 0;", 1, 1, 35, 240);
    }

    /** "3 on how many INPUTS they PART." */
    private static void judgeMany() {
        judged("out a;", "out a;", 0, -1, -1, 0);
        judged("if a=7{if b=9{out 1;}}", "", 1, 7 * 16 + 9, -1, 1);
        judged("if a=15{if b=15{}else{out 1;}}else{out 1;}", "", 1, 0, -1, 255);
        judged("out 1;", "", 1, 0, -1, 256);
        judged("out a;", "out b;", 1, 1, 0, 240);
        // INPUTS that neither reads count all the same.
        judged("out a;", "out 0;", 1, 16, 0, 240);
        judged("out b;", "out 0;", 1, 1, 0, 240);
        judged("a=0;out a;", "out b;", 1, 1, 0, 240);
        judged("if a=3{while 0<1{}}else{out 1;}", "", 1, 0, -1, 240);
    }

    /** "Two SLOTS' PROGRAMS JUDGED": of empty ones, and of one and itself, too. */
    private static void judgeSlots() {
        Talk t = new Talk();
        for (int p = 0; p < 6; p++) {
            for (int q = 0; q < 6; q++) Talk.due("judge(" + p + ", " + q + ", 0)", t.x.judge(p, q, 0), 0);
        }
        t.program(0, "out a;", 1);
        t.program(5, "out b;", 1);
        for (int s = 0; s < 6; s++) Talk.due("judge(" + s + ", " + s + ", 0)", t.x.judge(s, s, 0), 0);
        Talk.due("judge(0, 5, 1)", t.x.judge(0, 5, 1), 1);
        Talk.due("judge(5, 0, 1)", t.x.judge(5, 0, 1), 1);
        Talk.due("judge(0, 1, 1)", t.x.judge(0, 1, 1), 0);
        t.row(0, 110, 20);
        t.row(5, 110, 21);
    }

    /** "0 RIGHT, 1 WRONG, 2 UNPROVED; 1 the first INPUTS .. (.. NONE), 2 .. (NONE ..)": whatever was JUDGED ahead. */
    private static void judgeAgain() {
        Talk t = new Talk();
        t.program(0, "out 0;out a;", 2);
        t.program(1, "out 0;out b;", 2);
        t.program(2, "while 0<1{}", 1);
        t.program(3, "out 0;", 1);
        int[][] due = {{0, 1, 1, 1, 1, 240}, {0, 0, 0, -1, -1, 0}, {2, 2, 2, -1, -1, 0}, {3, 3, 0, -1, -1, 0}, {0, 3, 1, 0, -1, 256},
            {4, 5, 0, -1, -1, 0}, {2, 5, 2, -1, -1, 0}, {5, 5, 0, -1, -1, 0}};
        for (int what = 0; what < 4; what++) {
            for (int[] d : due) Talk.due("judge(" + d[0] + ", " + d[1] + ", " + what + ")", t.x.judge(d[0], d[1], what), d[2 + what]);
        }
    }

    /** "NONE if one can't be, or another what." */
    private static void judgeRefused() {
        Talk t = with("out a;");
        int[] wrong = {Integer.MIN_VALUE, -2, -1, 4, 5, 10, Integer.MAX_VALUE};
        for (int what : wrong) Talk.due("judge(0, 1, " + what + ")", t.x.judge(0, 1, what), -1);
        for (int what = 0; what < 4; what++) {
            for (int s : NO_SLOTS) {
                Talk.due("judge(" + s + ", 0, " + what + ")", t.x.judge(s, 0, what), -1);
                Talk.due("judge(0, " + s + ", " + what + ")", t.x.judge(0, s, what), -1);
                Talk.due("judge(" + s + ", " + s + ", " + what + ")", t.x.judge(s, s, what), -1);
            }
        }
        Talk.due("judge(0, 1, 0)", t.x.judge(0, 1, 0), 1);
    }

    /** The deepest PROGRAM that there can be, made by UNROLL: 39 ifs and the while. */
    private static void deepest() {
        Talk t = with("while a>0{}");
        for (int n = 1; n <= 8; n++) t.item(0, 24, n);
        t.item(1, 24, 1);
        for (int n = 9; n <= 33; n += 8) Talk.due("make", t.x.make(0, 0, 0), n);
        for (int n = 34; n <= 40; n++) Talk.due("make", t.x.make(1, 0, 0), n);
        Talk.due("numbers", t.x.size(0, 2), 239);
        Talk.due("LIVE", t.x.size(0, 3), 1);
        Talk.due("at(0, 156)", t.x.at(0, 156), 115);
        run(t, 0, 0, 0, 1);
        run(t, 1, 0, 2, 100);
        Talk.due("judge", t.x.judge(0, 5, 0), 2);
        Talk.due("registers", t.x.registers(0, 0), 1);
        t.program(5, "if a>0{while 0<1{}}", 2);
        Talk.due("judge", t.x.judge(0, 5, 3), 0);
        t.item(2, 20, 1);
        t.item(2, 21, 2);
        t.item(2, 22, 3);
        t.item(2, 23, 4);
        Talk.due("make by all others", t.x.make(2, 0, 1), 40);
    }

    /** "An object is used for at most 512 calls after it has been made": the last of them answers as the first one. */
    private static void lastCall() {
        Talk t = with("while a>0{out a*a;a=a-1;}");
        t.rule("x*x->x", 0);
        t.item(0, 0, 1);
        // Behind three feeds, two ends, program(), rule() and item(): 8 calls.
        for (int n = 9; n <= 510; n++) {
            switch (n % 4) {
                case 0 -> Talk.due("cut", t.x.cut(0, 0, 1), 2);
                case 1 -> Talk.due("blame", t.x.blame(0, 1), 32);
                case 2 -> Talk.due("judge", t.x.judge(0, 5, 3), 240);
                default -> Talk.due("make", t.x.make(0, 0, 2), 3);
            }
        }
        Talk.due("the 511th call", t.x.run(0, 3, 0, 102), 1);
        Talk.due("the 512th call", t.x.judge(0, 2, 1), 32);
    }
}
