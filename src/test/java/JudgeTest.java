/** Promises 9 and 10: RUNS of PROGRAMS, and how two of them are JUDGED. */
public final class JudgeTest {
    public static void main(String[] args) {
        endings();
        arithmetic();
        tests();
        tired();
        wrongRuns();
        verdicts();
        unproved();
        wrongJudges();
        Talk.close("JudgeTest");
    }

    private static void run(Talk t, int a, int b, int ends, int steps, int... outputs) {
        Talk.due("run ends on " + a + ", " + b, t.x.run(0, a, b, 0), ends);
        Talk.due("run steps on " + a + ", " + b, t.x.run(0, a, b, 1), steps);
        Talk.due("run outputs on " + a + ", " + b, t.x.run(0, a, b, 2), outputs.length);
        for (int k = 0; k < outputs.length; k++) Talk.due("output " + k, t.x.run(0, a, b, 100 + k), outputs[k]);
        Talk.due("output behind the last", t.x.run(0, a, b, 100 + outputs.length), -1);
    }

    private static void endings() {
        Talk t = new Talk();
        run(t, 3, 4, 0, 0);
        t.program(0, "out a;out b;out c;", 3);
        run(t, 3, 4, 0, 3, 3, 4, 0);
        t.program(0, "out a;fail;out b;", 3);
        run(t, 3, 4, 1, 2, 3);
        t.program(0, "if a>b{fail;}else{out 1;}out 2;", 4);
        run(t, 4, 3, 1, 2);
        run(t, 3, 4, 0, 3, 1, 2);
        t.program(0, "if a=1{}else{}", 1);
        run(t, 1, 0, 0, 1);
        run(t, 2, 0, 0, 1);
        t.program(0, "while a>0{out a;a=a-1;}out 9;", 4);
        run(t, 0, 0, 0, 2, 9);
        run(t, 2, 0, 0, 8, 2, 1, 9);
        t.program(0, "while a<3{if a=1{fail;}a=a+1;}", 4);
        run(t, 0, 0, 1, 6);
        run(t, 2, 0, 0, 4);
        run(t, 3, 0, 0, 1);
        t.program(0, "c=a;d=b;e=c*d;f=e+1;a=0;", 5);
        int[] last = {0, 3, 5, 3, 15, 0};
        for (int v = 0; v < 6; v++) Talk.due("VARIABLE " + v, t.x.run(0, 5, 3, 10 + v), last[v]);
    }

    private static void arithmetic() {
        Talk t = new Talk();
        t.program(0, "out 3-5;out 7*7;out 9+9;out 0-15;out 15*15;out 8*2;out 10-3-4;out 10-(3-4);out 2+3*4;out (2+3)*4;", 10);
        run(t, 0, 0, 0, 10, 14, 1, 2, 1, 1, 0, 3, 11, 14, 4);
        for (int a = 0; a < 16; a++) {
            t = new Talk();
            t.program(0, "out a-b;out a*b;out a+b;", 3);
            for (int b = 0; b < 16; b++) run(t, a, b, 0, 3, a - b & 15, a * b & 15, a + b & 15);
        }
        // A row that leans to the left as far as 300 EXPRESSIONS go, and one of the same on the right.
        t.program(0, "out 1" + Talk.times("+1", 149) + ";", 1);
        run(t, 0, 0, 0, 1, 150 & 15);
        t.program(0, "if 1" + Talk.times("+1", 74) + "=1" + Talk.times("+1", 74) + "{out 1;}", 2);
        run(t, 0, 0, 0, 2, 1);
    }

    private static void tests() {
        Talk t = new Talk();
        t.program(0, "if a<b{out 1;}if a=b{out 2;}if a>b{out 3;}", 6);
        run(t, 1, 2, 0, 4, 1);
        run(t, 2, 2, 0, 4, 2);
        run(t, 15, 2, 0, 4, 3);
        t.program(0, "if a-1<b{out 1;}", 2);
        run(t, 0, 14, 0, 1);
        run(t, 0, 15, 0, 1);
        run(t, 1, 1, 0, 2, 1);
    }

    private static void tired() {
        Talk t = new Talk();
        String ninetyOne = "while a>0{a=a-1;c=1;c=1;c=1;c=1;}";
        t.program(0, ninetyOne + Talk.times("d=d+1;", 9), 15);
        run(t, 15, 0, 0, 100);
        Talk.due("d", t.x.run(0, 15, 0, 13), 9);
        t.program(0, ninetyOne + Talk.times("d=d+1;", 10), 16);
        run(t, 15, 0, 2, 100);
        Talk.due("d", t.x.run(0, 15, 0, 13), 9);
        t.program(0, ninetyOne + Talk.times("d=d+1;", 8) + "fail;", 15);
        run(t, 15, 0, 1, 100);
        t.program(0, ninetyOne + Talk.times("d=d+1;", 9) + "fail;", 16);
        run(t, 15, 0, 2, 100);
        t.program(0, ninetyOne + Talk.times("d=d+1;", 8) + "while 1<0{out 1;}", 16);
        run(t, 15, 0, 0, 100);
        t.program(0, ninetyOne + Talk.times("d=d+1;", 9) + "if 1<0{out 1;}", 17);
        run(t, 15, 0, 2, 100);
        t.program(0, "while 0<1{out c;c=c+1;}", 3);
        Talk.due("ends", t.x.run(0, 0, 0, 0), 2);
        Talk.due("outputs", t.x.run(0, 0, 0, 2), 33);
        Talk.due("output 17", t.x.run(0, 0, 0, 117), 1);
        Talk.due("c", t.x.run(0, 0, 0, 12), 1);
        t.program(0, "out 1;" + "while 0<1{" + Talk.times("out 2;", 33) + "}", 35);
        Talk.due("outputs", t.x.run(0, 0, 0, 2), 97);
        Talk.due("output 96", t.x.run(0, 0, 0, 196), 2);
        Talk.due("output 97", t.x.run(0, 0, 0, 197), -1);
    }

    private static void wrongRuns() {
        Talk t = new Talk();
        t.program(0, "out a;", 1);
        int[][] wrong = {{-1, 0, 0, 0}, {6, 0, 0, 0}, {0, -1, 0, 0}, {0, 16, 0, 0}, {0, 0, -1, 0}, {0, 0, 16, 0},
            {0, 0, 0, -1}, {0, 0, 0, 3}, {0, 0, 0, 9}, {0, 0, 0, 16}, {0, 0, 0, 99}, {0, 0, 0, 101},
            {0, 0, 0, Integer.MAX_VALUE}, {0, 0, 0, Integer.MIN_VALUE}, {Integer.MIN_VALUE, 0, 0, 0}};
        for (int[] w : wrong) Talk.due("a wrong run", t.x.run(w[0], w[1], w[2], w[3]), -1);
        Talk.due("a right one", t.x.run(0, 15, 15, 100), 15);
    }

    private static void judged(Talk t, String p, String q, int verdict, int first, int place, int parted) {
        t.tape(p);
        t.x.program(1);
        t.tape(q);
        t.x.program(2);
        int[] due = {verdict, first, place, parted};
        for (int what = 0; what < 4; what++) {
            Talk.due("judge " + what + " of " + p + " and " + q, t.x.judge(1, 2, what), due[what]);
            Talk.due("judge " + what + " of " + q + " and " + p, t.x.judge(2, 1, what), due[what]);
        }
    }

    private static void verdicts() {
        Talk t = new Talk();
        judged(t, "", "", 0, -1, -1, 0);
        judged(t, "out a+a;", "out 2*a;", 0, -1, -1, 0);
        judged(t, "a=1;", "b=2;c=3;", 0, -1, -1, 0);
        judged(t, "out a;", "out b;", 1, 1, 0, 240);
        judged(t, "fail;", "", 1, 0, -1, 256);
        judged(t, "out 1;", "out 1;out 2;", 1, 0, -1, 256);
        judged(t, "out 1;fail;", "out 1;", 1, 0, -1, 256);
        judged(t, "out 1;out 2;", "out 1;out 3;fail;", 1, 0, 1, 256);
        judged(t, "if a=15{if b=15{out 1;}}", "", 1, 255, -1, 1);
        judged(t, "if b=3{out 1;out 2;}", "if b=3{out 1;}", 1, 3, -1, 16);
        judged(t, "out 0;if a=2{out b;}else{out 0;}", "out 0;out 0;", 1, 33, 1, 15);
        judged(t, "a=0;out a;", "out 0;", 0, -1, -1, 0);
        judged(t, "a=0;b=0;out a;", "out 1;", 1, 0, 0, 256);
        judged(t, "a=0;out a;", "out b;", 1, 1, 0, 240);
        t.program(3, "out a;", 1);
        Talk.due("judge of a PROGRAM and itself", t.x.judge(3, 3, 0), 0);
    }

    private static void unproved() {
        Talk t = new Talk();
        judged(t, "while 0<1{}", "", 2, -1, -1, 0);
        judged(t, "while 0<1{}", "fail;", 2, -1, -1, 0);
        judged(t, "while 0<1{out 1;}", "out 1;out 1;", 2, -1, -1, 0);
        judged(t, "while 0<1{out 1;}", "while 0<1{out 1;out 1;}", 2, -1, -1, 0);
        judged(t, "while 0<1{out 1;}", "while 0<1{out 2;}", 1, 0, 0, 256);
        judged(t, "while 0<1{out 1;}", "out 1;out 1;out 3;", 1, 0, 2, 256);
        judged(t, "if a=15{if b=15{while 0<1{}}}", "", 2, -1, -1, 0);
        judged(t, "if a=0{while 0<1{}}out 1;", "if a=0{while 0<1{}}if a=2{out 2;}else{out 1;}", 1, 32, 0, 16);
    }

    private static void wrongJudges() {
        Talk t = new Talk();
        int[][] wrong = {{-1, 0, 0}, {0, -1, 0}, {6, 0, 0}, {0, 6, 0}, {0, 0, -1}, {0, 0, 4}, {0, 0, Integer.MIN_VALUE}};
        for (int[] w : wrong) Talk.due("a wrong judge", t.x.judge(w[0], w[1], w[2]), -1);
    }
}
