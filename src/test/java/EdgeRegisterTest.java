/**
 * Promises 19 and 20, and what part 4 of the Terms says of REGISTERS, at their edges.
 * Each method is for one sentence of the document, which stands above it.
 */
public final class EdgeRegisterTest {
    public static void main(String[] args) {
        bothLiveAhead();
        aheadOfWhile();
        setAndLiveBehind();
        inTheRow();
        fewest();
        firstDealing();
        spillsFewestTimes();
        spillsLeast();
        spillsForNone();
        spillsForAll();
        registersAnswers();
        registersRefused();
        clashBothWays();
        clashNotThere();
        clashRefused();
        liveBehindFail();
        Talk.close("EdgeRegisterTest");
    }

    private static final int[] NO_SLOTS = {Integer.MIN_VALUE, -1, 6, 7, Integer.MAX_VALUE};

    private static Talk with(String text) {
        Talk t = new Talk();
        t.tape(text);
        Talk.due("(the text stands) " + text, t.x.program(0) >= 0, true);
        return t;
    }

    /** The pairs that CLASH, each as "ab"; all others do not. */
    private static void clashes(String text, String pairs) {
        Talk t = with(text);
        for (int v = 0; v < 6; v++) {
            for (int w = 0; w < 6; w++) {
                String one = "" + (char) ('a' + Math.min(v, w)) + (char) ('a' + Math.max(v, w));
                int want = v == w ? -1 : pairs.contains(one) ? 1 : 0;
                Talk.due("clash(0, " + v + ", " + w + ") of " + text, t.x.clash(0, v, w), want);
            }
        }
    }

    private static void dealt(String text, int fewest, int... registers) {
        Talk t = with(text);
        Talk.due("registers(0, 0) of " + text, t.x.registers(0, 0), fewest);
        for (int v = 0; v < 6; v++) Talk.due("registers(0, " + (10 + v) + ") of " + text, t.x.registers(0, 10 + v), registers[v]);
    }

    private static void spilled(String text, int... sets) {
        Talk t = with(text);
        for (int k = 0; k < 7; k++) Talk.due("registers(0, " + (20 + k) + ") of " + text, t.x.registers(0, 20 + k), sets[k]);
    }

    /** "VARIABLES CLASH, if both are LIVE ahead of one STATEMENT". */
    private static void bothLiveAhead() {
        clashes("", "");
        clashes("fail;", "");
        clashes("out a;", "");
        clashes("out a;out b;", "ab");
        clashes("out a+f;", "af");
        clashes("if a<b{}", "ab");
        clashes("if a<1{out b;}else{out c;}", "ab ac bc");
        clashes("if a<1{}else{out c;}", "ac");
        clashes("b=1;if a<1{out b;}", "ab");
        // One is read for the last time where the other one is set.
        clashes("a=b;out a;", "");
        clashes("a=b;out a+b;", "ab");
        // What is read behind its being set alone is not LIVE ahead.
        clashes("out a;b=1;out b;", "");
    }

    /** "(of while: ahead of each asking)". */
    private static void aheadOfWhile() {
        clashes("while a<b{}", "ab");
        clashes("while a<1{out b;}", "ab");
        clashes("while a<1{}out b;", "ab");
        clashes("while a<1{b=1;out b;}", "ab");
        clashes("b=1;while b<1{c=1;b=c;}", "");
        clashes("while 0<1{a=1;out b;b=a;}", "ab");
        // c is read in the next round alone.
        clashes("while 0<1{out c;c=1;d=1;out d;}", "cd");
        clashes("while 0<1{d=1;out d;c=1;out c;}", "");
        clashes("while a<1{while b<1{out c;}}", "ab ac bc");
        // c is read in the next round of the outermost, where d is set in the innermost.
        clashes("while e<1{out c;c=1;d=1;out d+e;}", "cd ce de");
        clashes("while e<1{out c;" + Talk.times("while e<1{", 7) + "d=1;out d+e;" + Talk.times("}", 8), "cd ce de");
    }

    /** "or one is set by it and the other one LIVE behind it." */
    private static void setAndLiveBehind() {
        clashes("a=1;out b;", "ab");
        clashes("a=1;b=2;", "");
        clashes("a=1;b=2;out a;", "ab");
        clashes("a=1;b=2;out b;", "");
        clashes("a=b;out b;", "ab");
        clashes("a=a;out b;", "ab");
        clashes("a=1;fail;out b;", "");
        clashes("a=1;if 1<2{out b;}else{out c;}", "ab ac bc");
        clashes("while 0<1{a=1;}out b;", "ab");
        clashes("while b<1{a=1;}", "ab");
        clashes("if b<1{a=1;}out c;", "ac bc");
        clashes("f=1;out e;", "ef");
    }

    /** "VARIABLES that are in THE ROW get REGISTERS 0, 1, ..": those that are set or read, and no others. */
    private static void inTheRow() {
        dealt("", 0, -1, -1, -1, -1, -1, -1);
        dealt("fail;out 1;", 0, -1, -1, -1, -1, -1, -1);
        dealt("a=1;", 1, 0, -1, -1, -1, -1, -1);
        dealt("f=1;", 1, -1, -1, -1, -1, -1, 0);
        dealt("out f;", 1, -1, -1, -1, -1, -1, 0);
        dealt("fail;out c;", 1, -1, -1, 0, -1, -1, -1);
        dealt("if b<1{}", 1, -1, 0, -1, -1, -1, -1);
        dealt("a=1;b=1;c=1;d=1;e=1;f=1;", 1, 0, 0, 0, 0, 0, 0);
    }

    /** "so that no two that CLASH have the same: with the fewest". */
    private static void fewest() {
        dealt("out a+b;", 2, 0, 1, -1, -1, -1, -1);
        dealt("out a+b+c;", 3, 0, 1, 2, -1, -1, -1);
        dealt("out a+b+c+d;", 4, 0, 1, 2, 3, -1, -1);
        dealt("out a+b+c+d+e;", 5, 0, 1, 2, 3, 4, -1);
        dealt("out a+b+c+d+e+f;", 6, 0, 1, 2, 3, 4, 5);
        // a-c, c-d, d-b: the least that is free for each in turn would need three.
        dealt("out a+c;d=1;out c+d;b=2;out d+b;", 2, 0, 1, 1, 0, -1, -1);
        // A round of five, no three of which CLASH with one another: three all the same.
        clashes("a=1;c=1;out a;e=1;out c;b=1;out e;d=1;out b;a=2;out d;out a;", "ac ce be bd ad");
        dealt("a=1;c=1;out a;e=1;out c;b=1;out e;d=1;out b;a=2;out d;out a;", 3, 0, 0, 1, 1, 2, -1);
    }

    /** "of several dealings the first by the REGISTERS of a, b, ..." */
    private static void firstDealing() {
        dealt("out b+a;", 2, 0, 1, -1, -1, -1, -1);
        dealt("out f+e;out d;", 3, -1, -1, -1, 0, 1, 2);
        // c CLASHES with b alone; it could have that of a or another one.
        dealt("out a;c=1;out b;out c;", 2, 0, 1, 0, -1, -1, -1);
        // f needs another one than d; a, b and c don't CLASH with any.
        dealt("a=1;b=1;c=1;d=1;f=1;out d+f;", 2, 0, 0, 0, 0, -1, 1);
        // a with b; c with d: c has the first one again.
        dealt("out a+b;c=1;d=1;out c+d;", 2, 0, 1, 0, 1, -1, -1);
    }

    /** "SPILLS for k REGISTERS (0 .. 6): the set of VARIABLES without which k are enough for the others, that come (set or read) the fewest times in THE ROW". */
    private static void spillsFewestTimes() {
        spilled("out a+a+b;", 3, 2, 0, 0, 0, 0, 0);
        spilled("out a+b+b;", 3, 1, 0, 0, 0, 0, 0);
        // To be set counts as to be read does.
        spilled("a=1;out a+b;", 3, 2, 0, 0, 0, 0, 0);
        spilled("b=1;out a+b;", 3, 1, 0, 0, 0, 0, 0);
        spilled("a=a;out a+b+b;", 3, 2, 0, 0, 0, 0, 0);
        spilled("out a+a+a+b+b+c;", 7, 6, 4, 0, 0, 0, 0);
        // Two that come twice in all, against one that comes three times.
        spilled("out a+a+a+b;c=1;out c+a;a=1;", 7, 6, 0, 0, 0, 0, 0);
        // Where many CLASH with one that comes often, it is that one: c, four times, against 2, 2 and 2.
        spilled("a=1;c=2;out a;b=3;out b;d=4;out d+c;c=5;", 15, 4, 0, 0, 0, 0, 0);
    }

    /** "of several the least as a number (VARIABLE v counts 2 to the v)." */
    private static void spillsLeast() {
        spilled("out a+b;", 3, 1, 0, 0, 0, 0, 0);
        spilled("out e+f;", 48, 16, 0, 0, 0, 0, 0);
        spilled("out a+b+c+d+e+f;", 63, 31, 15, 7, 3, 1, 0);
        // b CLASHES with a and c; it comes twice, and so do those in all: 2 is less than 5.
        spilled("out a;c=1;out b+b;", 7, 2, 0, 0, 0, 0, 0);
        // The same with d, and a and b: 3 is less than 8.
        spilled("out a;b=1;out d+d;", 11, 3, 0, 0, 0, 0, 0);
    }

    /** "for k REGISTERS (0 .. 6)": with none, all that are in THE ROW; those that are not are not among them. */
    private static void spillsForNone() {
        String[] texts = {"", "fail;", "a=1;", "f=1;", "out a+f;", "b=c;", "a=b;c=d;e=f;"};
        int[] sets = {0, 0, 1, 32, 33, 6, 63};
        for (int n = 0; n < texts.length; n++) Talk.due("SPILLS for 0 of " + texts[n], with(texts[n]).x.registers(0, 20), sets[n]);
    }

    /** "the set of VARIABLES without which k are enough for the others": none, where k are enough for all. */
    private static void spillsForAll() {
        String text = "out a";
        for (int n = 1; n <= 6; n++) {
            Talk t = with(text + ";");
            Talk.due("REGISTERS of " + text, t.x.registers(0, 0), n);
            for (int k = 0; k <= 6; k++) Talk.due("SPILLS for " + k + " of " + text, t.x.registers(0, 20 + k), k >= n ? 0 : (1 << n - k) - 1);
            text = text + "+" + (char) ('a' + Math.min(n, 5));
        }
    }

    /** "what 0 how many, 10 + v that of VARIABLE v (NONE: not in THE ROW), 20 + k SPILLS for k." */
    private static void registersAnswers() {
        Talk t = with("out b+d;");
        int[] due = {-1, 0, -1, 1, -1, -1};
        Talk.due("registers(0, 0)", t.x.registers(0, 0), 2);
        for (int v = 0; v < 6; v++) Talk.due("registers(0, " + (10 + v) + ")", t.x.registers(0, 10 + v), due[v]);
        int[] spills = {10, 2, 0, 0, 0, 0, 0};
        for (int k = 0; k < 7; k++) Talk.due("registers(0, " + (20 + k) + ")", t.x.registers(0, 20 + k), spills[k]);
        // Of SPILLS or of another SLOT asked ahead nothing is left.
        t.program(5, "out a+b+c;", 1);
        Talk.due("registers(5, 12)", t.x.registers(5, 12), 2);
        Talk.due("registers(0, 12)", t.x.registers(0, 12), -1);
        Talk.due("registers(0, 13)", t.x.registers(0, 13), 1);
        Talk.due("registers(1, 0)", t.x.registers(1, 0), 0);
        Talk.due("registers(5, 0)", t.x.registers(5, 0), 3);
        t.program(2, "out a+a+a+b;", 1);
        t.program(3, "out a+b+b;", 1);
        for (int n = 0; n < 3; n++) {
            Talk.due("registers(2, 21)", t.x.registers(2, 21), 2);
            Talk.due("registers(3, 21)", t.x.registers(3, 21), 1);
        }
    }

    /** "NONE if one can't be, or another what." */
    private static void registersRefused() {
        Talk t = with("out a+b+c+d+e+f;");
        for (int what = -3; what < 40; what++) {
            if (what != 0 && (what < 10 || what > 15) && (what < 20 || what > 26)) Talk.due("registers(0, " + what + ")", t.x.registers(0, what), -1);
        }
        int[] far = {Integer.MIN_VALUE, -100, 100, 1000, Integer.MAX_VALUE};
        for (int what : far) Talk.due("registers(0, " + what + ")", t.x.registers(0, what), -1);
        int[] good = {0, 10, 15, 20, 26};
        for (int what : good) {
            for (int s : NO_SLOTS) Talk.due("registers(" + s + ", " + what + ")", t.x.registers(s, what), -1);
        }
    }

    /** "Whether two VARIABLES of a SLOT's PROGRAM CLASH: 1 or 0": the one with the other as the other with the one. */
    private static void clashBothWays() {
        Talk t = with("a=1;out f;");
        Talk.due("clash(0, 0, 5)", t.x.clash(0, 0, 5), 1);
        Talk.due("clash(0, 5, 0)", t.x.clash(0, 5, 0), 1);
        t.program(5, "out f;a=1;", 2);
        Talk.due("clash(5, 0, 5)", t.x.clash(5, 0, 5), 0);
        Talk.due("clash(5, 5, 0)", t.x.clash(5, 5, 0), 0);
        Talk.due("clash(0, 0, 5) again", t.x.clash(0, 0, 5), 1);
    }

    /** "1 or 0": VARIABLES that are not in THE ROW don't CLASH. */
    private static void clashNotThere() {
        clashes("out a;", "");
        clashes("out 1;", "");
        Talk t = new Talk();
        for (int s = 0; s < 6; s++) Talk.due("clash(" + s + ", 0, 5) of an empty SLOT", t.x.clash(s, 0, 5), 0);
    }

    /** "NONE if one can't be, or for the same." */
    private static void clashRefused() {
        Talk t = with("out a+b+c+d+e+f;");
        for (int s : NO_SLOTS) {
            Talk.due("clash(" + s + ", 0, 1)", t.x.clash(s, 0, 1), -1);
            Talk.due("clash(0, " + s + ", 1)", t.x.clash(0, s, 1), -1);
            Talk.due("clash(0, 1, " + s + ")", t.x.clash(0, 1, s), -1);
            Talk.due("clash(0, " + s + ", " + s + ")", t.x.clash(0, s, s), -1);
        }
        for (int v = 0; v < 6; v++) {
            Talk.due("clash(0, " + v + ", " + v + ")", t.x.clash(0, v, v), -1);
            Talk.due("clash of the same that is not there", t.x.clash(5, v, v), -1);
        }
        Talk.due("clash(0, 0, 5)", t.x.clash(0, 0, 5), 1);
    }

    /** "LIVE at a place .. (behind fail none; behind the last STATEMENT none)." */
    private static void liveBehindFail() {
        String[] texts = {"out a;", "a=1;", "fail;out a;", "if b<1{fail;}out a;", "if b<1{fail;}else{fail;}out a;", "while b<1{fail;}",
            "while 0<1{fail;}out a;", "while c<1{out a;a=1;}", "while c<1{a=1;}out a;", "a=1;while c<1{out a;}", ""};
        int[] live = {1, 0, 0, 3, 2, 2, 1, 5, 5, 4, 0};
        for (int n = 0; n < texts.length; n++) Talk.due("LIVE at the beginning of " + texts[n], with(texts[n]).x.size(0, 3), live[n]);
        clashes("a=1;b=1;fail;", "");
        clashes("a=1;b=1;fail;out a+b;", "ab");
    }
}
