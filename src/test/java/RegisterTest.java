/** Promises 19 and 20: REGISTERS, SPILLS, and VARIABLES that CLASH. */
public final class RegisterTest {
    public static void main(String[] args) {
        dealings();
        spills();
        clashes();
        wrongAsks();
        Talk.close("RegisterTest");
    }

    /** How many REGISTERS, and that of each VARIABLE. */
    private static void dealt(String text, int fewest, int... registers) {
        Talk t = new Talk();
        t.tape(text);
        t.x.program(0);
        Talk.due("registers(0, 0) of " + text, t.x.registers(0, 0), fewest);
        for (int v = 0; v < 6; v++) Talk.due("registers(0, " + (10 + v) + ") of " + text, t.x.registers(0, 10 + v), registers[v]);
        for (int v = 0; v < 6; v++) {
            Talk alone = new Talk();
            alone.tape(text);
            alone.x.program(0);
            Talk.due("registers(0, " + (10 + v) + ") at once of " + text, alone.x.registers(0, 10 + v), registers[v]);
        }
    }

    private static void dealings() {
        dealt("", 0, -1, -1, -1, -1, -1, -1);
        dealt("out 1;fail;", 0, -1, -1, -1, -1, -1, -1);
        dealt("c=1;", 1, -1, -1, 0, -1, -1, -1);
        dealt("a=b;", 1, 0, 0, -1, -1, -1, -1);
        dealt("a=1;b=2;out a;", 2, 0, 1, -1, -1, -1, -1);
        dealt("a=1;out a;b=2;out b;", 1, 0, 0, -1, -1, -1, -1);
        dealt("c=a+b;d=a-b;out c*d;", 3, 0, 1, 2, 0, -1, -1);
        dealt("out a+b+c+d+e+f;", 6, 0, 1, 2, 3, 4, 5);
        dealt("out f+e;", 2, -1, -1, -1, -1, 0, 1);
        // a with c, c with d, d with b: the least REGISTER for each in turn would need three.
        dealt("out a+c;d=1;out c+d;b=2;out d+b;", 2, 0, 1, 1, 0, -1, -1);
        // A chain of a, c, e, b, d, and then a round of them, which needs three.
        dealt("a=1;c=1;out a;e=1;out c;b=1;out e;d=1;out b;out d;", 2, 0, 1, 1, 0, 0, -1);
        dealt("a=1;c=1;out a;e=1;out c;b=1;out e;d=1;out b;a=2;out d;out a;", 3, 0, 0, 1, 1, 2, -1);
        dealt("if a<1{b=1;out b;}else{c=1;out c;}", 1, 0, 0, 0, -1, -1, -1);
        dealt("if a<1{b=1;}else{c=1;}out b+c;", 3, 0, 1, 2, -1, -1, -1);
    }

    private static void spilled(String text, int... sets) {
        Talk t = new Talk();
        t.tape(text);
        t.x.program(0);
        for (int k = 0; k < 7; k++) Talk.due("registers(0, " + (20 + k) + ") of " + text, t.x.registers(0, 20 + k), sets[k]);
    }

    private static void spills() {
        spilled("", 0, 0, 0, 0, 0, 0, 0);
        spilled("c=1;", 4, 0, 0, 0, 0, 0, 0);
        spilled("out a+b+c+d+e+f;", 63, 31, 15, 7, 3, 1, 0);
        spilled("out a+a+b;", 3, 2, 0, 0, 0, 0, 0);
        spilled("out a+b+b;", 3, 1, 0, 0, 0, 0, 0);
        spilled("out a+b;", 3, 1, 0, 0, 0, 0, 0);
        // To be set counts, too.
        spilled("b=1;out a+b;", 3, 1, 0, 0, 0, 0, 0);
        spilled("a=1;out a+b;", 3, 2, 0, 0, 0, 0, 0);
        // c CLASHES with a, b and d, which don't with one another; c comes four times, those twice each.
        spilled("a=1;c=2;out a;b=3;out b;d=4;out d+c;c=5;", 15, 4, 0, 0, 0, 0, 0);
        spilled("c=a+b;d=a-b;out c*d;", 15, 5, 1, 0, 0, 0, 0);
    }

    private static void clashes(String text, String pairs) {
        Talk t = new Talk();
        t.tape(text);
        t.x.program(0);
        for (int v = 0; v < 6; v++) {
            for (int w = 0; w < 6; w++) {
                String one = "" + (char) ('a' + Math.min(v, w)) + (char) ('a' + Math.max(v, w));
                int want = v == w ? -1 : pairs.contains(one) ? 1 : 0;
                Talk.due("clash(0, " + v + ", " + w + ") of " + text, t.x.clash(0, v, w), want);
            }
        }
    }

    private static void clashes() {
        clashes("", "");
        clashes("out a+b;", "ab");
        clashes("a=1;b=2;", "");
        clashes("c=1;out a;", "ac");
        clashes("c=a;out a+c;", "ac");
        clashes("c=a;out c;", "");
        clashes("while a>0{out b;a=a-1;}", "ab");
        clashes("while a>0{b=1;out b;}out c;", "ab ac bc");
        clashes("while a>0{fail;}out c;", "ac");
        clashes("while 1>0{c=1;d=2;out c;}", "cd");
        clashes("while 1>0{out c;d=2;c=3;out d;}", "cd");
        clashes("if a>0{out b;}else{out c;}", "ab ac bc");
        clashes("b=1;fail;out c;", "");
        clashes("if a>0{b=1;fail;}out c;", "ac");
        clashes("e=f;f=e;out e;", "ef");
    }

    private static void wrongAsks() {
        Talk t = new Talk();
        t.program(0, "out a+b+c+d+e+f;", 1);
        int[] wrong = {-1, 1, 9, 16, 19, 27, 100, Integer.MIN_VALUE, Integer.MAX_VALUE};
        for (int what : wrong) Talk.due("registers(0, " + what + ")", t.x.registers(0, what), -1);
        Talk.due("registers(6, 0)", t.x.registers(6, 0), -1);
        Talk.due("registers(-1, 0)", t.x.registers(-1, 0), -1);
        Talk.due("clash(6, 0, 1)", t.x.clash(6, 0, 1), -1);
        Talk.due("clash(-1, 0, 1)", t.x.clash(-1, 0, 1), -1);
        Talk.due("clash(0, -1, 1)", t.x.clash(0, -1, 1), -1);
        Talk.due("clash(0, 6, 1)", t.x.clash(0, 6, 1), -1);
        Talk.due("clash(0, 0, -1)", t.x.clash(0, 0, -1), -1);
        Talk.due("clash(0, 0, 6)", t.x.clash(0, 0, 6), -1);
        Talk.due("clash(0, 5, 0)", t.x.clash(0, 5, 0), 1);
    }
}
