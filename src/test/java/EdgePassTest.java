/**
 * Promises 14 to 18, and what part 3 of the Terms says of PASSES, BLAME and CUT, at their edges.
 * Each method is for one sentence of the document, which stands above it.
 */
public final class EdgePassTest {
    public static void main(String[] args) {
        passesAtFirst();
        itemCounts();
        itemEight();
        itemKinds();
        itemRuleYet();
        itemNoPass();
        clearEmpties();
        clearRefused();
        firstMatch();
        fiftyTimes();
        foldModulo();
        foldInside();
        foldIf();
        foldWhile();
        deadBehind();
        deadAgain();
        deadAnyWay();
        deadFail();
        hastyDeadFurther();
        hastyDeadAgain();
        copyLast();
        copyOwnRow();
        copyBranch();
        copyByThen();
        copyAnother();
        unrollOuter();
        unrollEmpty();
        oneBehindTheOther();
        failsStatements();
        failsExpressions();
        failsOnTheWay();
        makeNothing();
        makeCounts();
        makeInto();
        makeRefused();
        makeFails();
        blameFirst();
        blameWithout();
        blameAhead();
        blameFails();
        blameInputs();
        blameRefused();
        blameChangesNothing();
        cutSizes();
        cutFirst();
        cutWithAllInIt();
        cutStillSo();
        cutNotWrong();
        cutRefused();
        cutInto();
        Talk.close("EdgePassTest");
    }

    private static final int[] NO_SLOTS = {Integer.MIN_VALUE, -1, 6, 7, Integer.MAX_VALUE};
    private static final int FOLD = 20;
    private static final int DEAD = 21;
    private static final int HASTY_DEAD = 22;
    private static final int HASTY_COPY = 23;
    private static final int UNROLL = 24;

    /** "PASSES 0 .. 5 are rows of ITEMS (8 at most; none at first)". */
    private static void passesAtFirst() {
        Talk t = new Talk();
        t.program(0, "while 1+1>a{b=1;}", 2);
        for (int p = 0; p < 6; p++) {
            Talk.due("make by PASS " + p, t.x.make(p, 0, 1), 2);
            t.row(1, 115, 132, 120, 1, 1, 20, 101, 1, 114);
        }
        for (int p = 0; p < 6; p++) t.item(p, UNROLL, 1);
        for (int p = 0; p < 6; p++) Talk.due("make by PASS " + p, t.x.make(p, 0, 1), 4);
    }

    /** "An ITEM comes behind a PASS: how many it has". */
    private static void itemCounts() {
        Talk t = new Talk();
        for (int n = 1; n <= 8; n++) {
            for (int p = 0; p < 6; p++) t.item(p, FOLD + (n + p) % 5, n);
        }
    }

    /** "NONE .. or it has 8." */
    private static void itemEight() {
        Talk t = new Talk();
        t.rule("x->x", 0);
        t.program(0, "while a>0{}", 1);
        for (int n = 1; n <= 8; n++) t.item(3, UNROLL, n);
        int[] any = {0, FOLD, DEAD, HASTY_DEAD, HASTY_COPY, UNROLL};
        for (int v : any) t.item(3, v, -1);
        // Nothing came, and nothing went.
        Talk.due("make by 8 ITEMS", t.x.make(3, 0, 1), 9);
        t.item(2, UNROLL, 1);
        t.item(4, UNROLL, 1);
        Talk.due("clear", t.x.clear(3), true);
        for (int n = 1; n <= 8; n++) t.item(3, DEAD, n);
        t.item(3, DEAD, -1);
    }

    /** "0 .. 11 a RULE ..; and: 20 FOLD .. 24 UNROLL": no other ITEM can be. */
    private static void itemKinds() {
        Talk t = new Talk();
        for (int r = 0; r < 12; r++) t.rule("x->x", r);
        for (int v = -3; v < 40; v++) {
            boolean can = v >= 0 && v < 12 || v >= 20 && v < 25;
            Talk.due("item(0, " + v + ")", t.x.item(0, v), can ? 1 : -1);
            t.x.clear(0);
        }
        int[] none = {Integer.MIN_VALUE, Integer.MAX_VALUE, 256, -236, 1 << 20};
        for (int v : none) t.item(0, v, -1);
        t.item(0, FOLD, 1);
    }

    /** "NONE if one can't be (no such RULE yet)". */
    private static void itemRuleYet() {
        Talk t = new Talk();
        for (int r = 0; r < 12; r++) {
            t.item(5, r, -1);
            t.badRule("x", 1, 1);
            t.item(5, r, -1);
            t.rule("x->x", r);
            t.item(5, r, 1);
            t.item(5, r + 1, -1);
            Talk.due("clear", t.x.clear(5), true);
        }
    }

    /** "NONE if one can't be": no such PASS. */
    private static void itemNoPass() {
        Talk t = new Talk();
        t.rule("x->x", 0);
        for (int p : NO_SLOTS) {
            t.item(p, FOLD, -1);
            t.item(p, 0, -1);
        }
        for (int p = 0; p < 6; p++) t.item(p, FOLD, 1);
    }

    /** "A PASS has no ITEMS: true". */
    private static void clearEmpties() {
        Talk t = new Talk();
        for (int p = 0; p < 6; p++) {
            t.item(p, UNROLL, 1);
            t.item(p, UNROLL, 2);
        }
        Talk.due("clear(0)", t.x.clear(0), true);
        Talk.due("clear(5)", t.x.clear(5), true);
        Talk.due("clear(5) again", t.x.clear(5), true);
        t.program(0, "while a>0{}", 1);
        for (int p = 0; p < 6; p++) Talk.due("make by " + p, t.x.make(p, 0, 1), p == 0 || p == 5 ? 1 : 3);
        t.item(0, UNROLL, 1);
        Talk.due("make by 0", t.x.make(0, 0, 1), 2);
        t.item(1, UNROLL, 3);
    }

    /** "false if there is none such." */
    private static void clearRefused() {
        Talk t = new Talk();
        for (int p = 0; p < 6; p++) t.item(p, FOLD, 1);
        for (int p : NO_SLOTS) Talk.due("clear(" + p + ")", t.x.clear(p), false);
        for (int p = 0; p < 6; p++) t.item(p, FOLD, 2);
    }

    /** A new object with RULE 0 in PASS 5: what that makes of a text. */
    private static void byRule(String rule, String text, String want) {
        Talk t = new Talk();
        t.rule(rule, 0);
        t.makes(0, text, want);
    }

    private static void by(int item, String text, String want) {
        new Talk().makes(item, text, want);
    }

    /** "a RULE, again and again applied at its first EXPRESSION that it MATCHES". */
    private static void firstMatch() {
        byRule("1->2", "fail;", "fail;");
        byRule("1->2", "", "");
        byRule("1->2", "out 1;out 1+1;", "out 2;out 2+2;");
        byRule("x+0->x", "out a+0+0+0;", "out a;");
        // The first one in THE ROW is the outer one, and then what has come of it.
        byRule("x-y->y", "out a-(b-(c-d));", "out d;");
        byRule("x-x->0", "out a-a-(a-a);", "out 0;");
        byRule("x*x->x", "out a*a*(a*a);", "out a;");
        byRule("x*(y+z)->x*y+x*z", "out (a+b)*(c+d);", "out (a+b)*c+(a+b)*d;");
    }

    /** "50 times at most". */
    private static void fiftyTimes() {
        for (int n = 49; n <= 52; n++) {
            Talk t = new Talk();
            t.rule("1->2", 0);
            t.pass(0, 0);
            t.program(0, "out 1" + Talk.times("+1", n - 1) + ";", 1);
            Talk.due("make", t.x.make(0, 0, 1), 1);
            Talk.due("left of " + n, t.x.places(0, 1), Math.max(0, n - 50));
            Talk.due("make again", t.x.make(0, 1, 1), 1);
            Talk.due("left then", t.x.places(0, 1), 0);
        }
        // One that always MATCHES is no FAIL; each ITEM has its own 50.
        Talk t = new Talk();
        t.rule("x->x+1", 0);
        t.program(0, "out a;", 1);
        t.pass(0, 0);
        Talk.due("make", t.x.make(0, 0, 1), 1);
        Talk.due("EXPRESSIONS", t.x.size(1, 1), 101);
        t.item(0, 0, 2);
        Talk.due("make", t.x.make(0, 0, 1), 1);
        Talk.due("EXPRESSIONS", t.x.size(1, 1), 201);
        t = new Talk();
        t.rule("x->x", 0);
        t.makes(0, "out a;", "out a;");
        t.rule("x-y->y-x", 1);
        t.makes(1, "out a-b;", "out a-b;");
    }

    /** "from inside out an operation of two NUMBERS becomes its NUMBER", modulo 16. */
    private static void foldModulo() {
        by(FOLD, "out 15+1;out 0-1;out 4*4;", "out 0;out 15;out 0;");
        by(FOLD, "out 15+15;out 0-15;out 15*15;", "out 14;out 1;out 1;");
        by(FOLD, "out 7+8;out 8-8;out 3*5;", "out 15;out 0;out 15;");
        by(FOLD, "out 1-2-3;out 1-(2-3);", "out 12;out 2;");
        by(FOLD, "a=15+1;b=a;", "a=0;b=a;");
        by(FOLD, "if 15+1<1{out 1;}else{out 2;}", "out 1;");
        by(FOLD, "while 0-1<15{out 1;}", "");
    }

    /** "from inside out": the whole of it, however deep, and no more than NUMBERS. */
    private static void foldInside() {
        by(FOLD, "out 1;out a;", "out 1;out a;");
        by(FOLD, "out " + Talk.times("(1+", 8) + "1" + Talk.times(")", 8) + ";", "out 9;");
        by(FOLD, "out 1" + Talk.times("+1", 149) + ";", "out 6;");
        by(FOLD, "out a*0;out 0*a;out a-a;out a+1+1;", "out a*0;out 0*a;out a-a;out a+1+1;");
        by(FOLD, "out (1+1)*a*(2-3);", "out 2*a*15;");
        by(FOLD, "out a+(1+1);out 1+1+a;", "out a+2;out 2+a;");
        by(FOLD, "", "");
        by(FOLD, "fail;", "fail;");
    }

    /** "an if whose B is of two NUMBERS becomes the STATEMENTS that would be done (in its place)". */
    private static void foldIf() {
        by(FOLD, "if 1<2{out 1;}", "out 1;");
        by(FOLD, "if 2<1{out 1;}", "");
        by(FOLD, "if 1<1{out 1;}else{out 2;}", "out 2;");
        by(FOLD, "if 1>1{out 1;}else{out 2;}", "out 2;");
        by(FOLD, "if 1=1{out 1;}else{out 2;}", "out 1;");
        by(FOLD, "if 0<15{}else{out 2;}", "");
        by(FOLD, "if 0>15{out 1;}else{}", "");
        by(FOLD, "fail;if 1<2{out 1;out 2;}out 3;", "fail;out 1;out 2;out 3;");
        by(FOLD, "if a<2{out 1;}if 1<a{out 2;}", "if a<2{out 1;}if 1<a{out 2;}");
        by(FOLD, "if 1<2{if 1<2{if 1<2{if 1<2{if 1<2{if 1<2{if 1<2{if 1<2{fail;}}}}}}}}", "fail;");
        by(FOLD, "if a<1{if 1<2{out 1;}}else{if 2<1{out 2;}}", "if a<1{out 1;}");
        by(FOLD, "while a<1{if 1<2{out 1;}else{out 2;}}", "while a<1{out 1;}");
        // What is done by then has a while whose B is not so, and an else of an else.
        by(FOLD, "if 2<1{}else{if 2<1{}else{while 1=2{}out 7;}}", "out 7;");
        // What is not done goes with all that is in it.
        by(FOLD, "if 2<1{if a<1{out 1;}else{while 1<2{}}}else{out 2;}out 3;", "out 2;out 3;");
        by(FOLD, Talk.times("if 1<2{}", 40), "");
    }

    /** "a while whose B is and is not so is taken out." */
    private static void foldWhile() {
        by(FOLD, "while 2<1{out 1;}", "");
        by(FOLD, "while 1=2{}while 1>1{}while 1<1{}", "");
        by(FOLD, "while 1<2{out 1;}", "while 1<2{out 1;}");
        by(FOLD, "while 1=1{}", "while 1=1{}");
        by(FOLD, "while 1<2{while 2<1{}if 1<2{out 1+1;}}", "while 1<2{out 2;}");
        by(FOLD, "while 2<a{out 1;}while a<2{}", "while 2<a{out 1;}while a<2{}");
        by(FOLD, "out 1;while 2<1{while a<1{if a<1{}else{}}}out 2;", "out 1;out 2;");
    }

    /** "V = E is taken out, if V is not LIVE behind it"; "behind the last STATEMENT none". */
    private static void deadBehind() {
        by(DEAD, "", "");
        by(DEAD, "a=1;", "");
        by(DEAD, "a=1;out a;", "a=1;out a;");
        by(DEAD, "out a;a=1;", "out a;");
        by(DEAD, "a=1;a=a;", "");
        by(DEAD, "a=1;a=2;out a;", "a=2;out a;");
        by(DEAD, "a=1;a=a+1;out a;", "a=1;a=a+1;out a;");
        by(DEAD, "a=1;if a<1{}", "a=1;if a<1{}");
        by(DEAD, "if 1<2{a=1;}else{b=1;}", "if 1<2{}");
        by(DEAD, "f=1;while f<1{f=1;}", "f=1;while f<1{f=1;}");
    }

    /** "all such at once, again and again till there is none." */
    private static void deadAgain() {
        // Each is read by the next one alone: 40 times one is taken out.
        by(DEAD, Talk.times("a=b;b=a;", 20), "");
        by(DEAD, "a=1;b=a;c=b;d=c;e=d;f=e;", "");
        by(DEAD, "a=1;b=a;c=b;d=c;e=d;f=e;out f;", "a=1;b=a;c=b;d=c;e=d;f=e;out f;");
        by(DEAD, Talk.times("a=1;", 39) + "out a;", "a=1;out a;");
        by(DEAD, Talk.times("a=1;", 40), "");
        by(DEAD, "while a<1{b=c;c=d;d=e;e=f;f=1;}", "while a<1{}");
    }

    /** "LIVE at a place are VARIABLES that may be read further on before they are set, any way of if and while being taken". */
    private static void deadAnyWay() {
        by(DEAD, "a=1;if 1<2{a=2;}out a;", "a=1;if 1<2{a=2;}out a;");
        by(DEAD, "a=1;if 1<2{a=2;}else{a=3;}out a;", "if 1<2{a=2;}else{a=3;}out a;");
        by(DEAD, "a=1;if 2<1{out a;}", "a=1;if 2<1{out a;}");
        by(DEAD, "a=1;while 2<1{out a;}", "a=1;while 2<1{out a;}");
        by(DEAD, "a=1;while 1<2{a=2;}out a;", "a=1;while 1<2{a=2;}out a;");
        by(DEAD, "while 1<2{out a;a=1;}", "while 1<2{out a;a=1;}");
        by(DEAD, "while 1<2{a=1;out a;a=2;}", "while 1<2{a=1;out a;}");
        by(DEAD, "while 1<2{if b<1{out a;}else{a=1;}}", "while 1<2{if b<1{out a;}else{a=1;}}");
        // What is set in the innermost is read ahead of it in the outermost.
        by(DEAD, "while 1<2{out a;while 1<2{while 1<2{a=b;}b=c;}c=1;}", "while 1<2{out a;while 1<2{while 1<2{a=b;}b=c;}c=1;}");
    }

    /** "(behind fail none ..)". */
    private static void deadFail() {
        by(DEAD, "a=1;fail;out a;", "fail;out a;");
        by(DEAD, "a=1;fail;", "fail;");
        by(DEAD, "a=1;if b<1{fail;}out a;", "a=1;if b<1{fail;}out a;");
        by(DEAD, "a=1;if b<1{fail;}else{fail;}out a;", "if b<1{fail;}else{fail;}out a;");
        by(DEAD, "while b<1{out a;a=1;fail;}", "while b<1{out a;fail;}");
        by(DEAD, "fail;a=1;out a;a=2;", "fail;a=1;out a;");
    }

    /** "22 HASTY DEAD: V = E is taken out, if no E further on in THE ROW (behind this STATEMENT) reads V". */
    private static void hastyDeadFurther() {
        by(HASTY_DEAD, "", "");
        by(HASTY_DEAD, "a=1;", "");
        by(HASTY_DEAD, "a=a;", "");
        by(HASTY_DEAD, "out a;a=1;", "out a;");
        by(HASTY_DEAD, "a=1;a=2;out a;", "a=1;a=2;out a;");
        by(HASTY_DEAD, "a=1;fail;out a;", "a=1;fail;out a;");
        by(HASTY_DEAD, "while a<1{a=1;}", "while a<1{}");
        by(HASTY_DEAD, "while b<1{out a;a=1;}", "while b<1{out a;}");
        by(HASTY_DEAD, "while b<1{a=1;out a;}", "while b<1{a=1;out a;}");
        by(HASTY_DEAD, "if b<1{a=1;}else{out a;}", "if b<1{a=1;}else{out a;}");
        by(HASTY_DEAD, "if b<1{out a;}else{a=1;}", "if b<1{out a;}");
        by(HASTY_DEAD, "a=1;if 1<a{}", "a=1;if 1<a{}");
        by(HASTY_DEAD, "a=1;while a<1{}", "a=1;while a<1{}");
        by(HASTY_DEAD, "f=1;e=2;out f;", "f=1;out f;");
    }

    /** "all such at once, again and again till there is none." */
    private static void hastyDeadAgain() {
        by(HASTY_DEAD, Talk.times("a=b;b=a;", 20), "");
        by(HASTY_DEAD, "a=1;b=a;c=b;d=c;e=d;f=e;", "");
        by(HASTY_DEAD, "a=a+1;a=a+1;a=a+1;", "");
        by(HASTY_DEAD, "a=1;b=a;out b;c=b;", "a=1;b=a;out b;");
        by(HASTY_DEAD, "if d<1{a=1;}else{b=a;}while d<1{c=b;}", "if d<1{}else{}while d<1{}");
    }

    /** "one that sets V itself reads W in place of V and is the last one". */
    private static void copyLast() {
        by(HASTY_COPY, "c=a;", "c=a;");
        by(HASTY_COPY, "c=a;out c;", "c=a;out a;");
        by(HASTY_COPY, "c=a;c=c+1;out c;", "c=a;c=a+1;out c;");
        by(HASTY_COPY, "c=a;c=1;out c;", "c=a;c=1;out c;");
        by(HASTY_COPY, "c=a;out c;c=c*c;out c;c=c;", "c=a;out a;c=a*a;out c;c=c;");
        by(HASTY_COPY, "c=a;a=5;out c;", "c=a;a=5;out a;");
        by(HASTY_COPY, "c=a;fail;out c;", "c=a;fail;out a;");
        by(HASTY_COPY, "c=a;" + Talk.times("out c;", 39), "c=a;" + Talk.times("out a;", 39));
    }

    /** "the STATEMENTS behind it in the same row of STATEMENTS". */
    private static void copyOwnRow() {
        by(HASTY_COPY, "out c;c=a;out c;", "out c;c=a;out a;");
        by(HASTY_COPY, "if b<1{c=a;}out c;", "if b<1{c=a;}out c;");
        by(HASTY_COPY, "if b<1{c=a;}else{out c;}", "if b<1{c=a;}else{out c;}");
        by(HASTY_COPY, "if b<1{c=a;out c;}else{out c;}out c;", "if b<1{c=a;out a;}else{out c;}out c;");
        by(HASTY_COPY, "if b<1{}else{c=a;out c;}out c;", "if b<1{}else{c=a;out a;}out c;");
        by(HASTY_COPY, "while c<1{c=a;out c;}out c;", "while c<1{c=a;out a;}out c;");
        by(HASTY_COPY, "while b<1{out c;c=a;}", "while b<1{out c;c=a;}");
    }

    /** "an if or while that sets V somewhere in it is not reached any more; others read W in place of V everywhere in them." */
    private static void copyBranch() {
        by(HASTY_COPY, "c=a;if c<1{out c;}else{out c;}out c;", "c=a;if a<1{out a;}else{out a;}out a;");
        by(HASTY_COPY, "c=a;while c<1{out c;}out c;", "c=a;while a<1{out a;}out a;");
        by(HASTY_COPY, "c=a;if c<1{c=1;}out c;", "c=a;if c<1{c=1;}out c;");
        by(HASTY_COPY, "c=a;if c<1{out c;}else{c=1;}out c;", "c=a;if c<1{out c;}else{c=1;}out c;");
        by(HASTY_COPY, "c=a;while c<1{c=c+1;}out c;", "c=a;while c<1{c=c+1;}out c;");
        by(HASTY_COPY, "c=a;if b<1{if b<1{while b<1{c=1;}}}out c;", "c=a;if b<1{if b<1{while b<1{c=1;}}}out c;");
        by(HASTY_COPY, "c=a;if b<1{a=1;}out c;", "c=a;if b<1{a=1;}out a;");
        by(HASTY_COPY, "c=a;if b<1{while c<1{out c;}}c=c;", "c=a;if b<1{while a<1{out a;}}c=a;");
    }

    /** "in the order of THE ROW as it is by then". */
    private static void copyByThen() {
        by(HASTY_COPY, "c=a;d=c;out d;", "c=a;d=a;out a;");
        by(HASTY_COPY, "c=a;c=c;out c;", "c=a;c=a;out a;");
        by(HASTY_COPY, "c=a;a=c;out a+c;", "c=a;a=a;out a+a;");
        by(HASTY_COPY, "c=a;d=b;c=d;out c;", "c=a;d=b;c=b;out b;");
        by(HASTY_COPY, "b=a;c=b;d=c;e=d;f=e;out f;", "b=a;c=a;d=a;e=a;f=a;out a;");
        by(HASTY_COPY, "c=a;if b<1{d=c;out d+c;}out d+c;", "c=a;if b<1{d=a;out a+a;}out d+a;");
    }

    /** "of each V = W (another VARIABLE alone)". */
    private static void copyAnother() {
        by(HASTY_COPY, "c=c;out c;", "c=c;out c;");
        by(HASTY_COPY, "c=1;out c;", "c=1;out c;");
        by(HASTY_COPY, "c=a+0;out c;", "c=a+0;out c;");
        by(HASTY_COPY, "c=(a);out c;", "c=(a);out a;");
        by(HASTY_COPY, "a=f;f=a;out f;", "a=f;f=f;out f;");
        by(HASTY_COPY, "out a;fail;", "out a;fail;");
        by(HASTY_COPY, "", "");
    }

    /** "24 UNROLL: each while that is in no other one becomes if B { its STATEMENTS while B { its STATEMENTS } }." */
    private static void unrollOuter() {
        by(UNROLL, "while a<1{out a;}", "if a<1{out a;while a<1{out a;}}");
        by(UNROLL, "while a<1{}while b<1{}", "if a<1{while a<1{}}if b<1{while b<1{}}");
        by(UNROLL, "while a<1{while b<1{}}", "if a<1{while b<1{}while a<1{while b<1{}}}");
        by(UNROLL, "if a<1{while b<1{}}else{while c<1{}}", "if a<1{if b<1{while b<1{}}}else{if c<1{while c<1{}}}");
        by(UNROLL, "while a<1{if b<1{while c<1{}}}", "if a<1{if b<1{while c<1{}}while a<1{if b<1{while c<1{}}}}");
        by(UNROLL, "while a+1<b*2{if a<1{}else{fail;}}out 1;",
            "if a+1<b*2{if a<1{}else{fail;}while a+1<b*2{if a<1{}else{fail;}}}out 1;");
    }

    /** UNROLL where there is no while, and of one without STATEMENTS. */
    private static void unrollEmpty() {
        by(UNROLL, "", "");
        by(UNROLL, "fail;", "fail;");
        by(UNROLL, "if a<1{out 1;}else{out 2;}", "if a<1{out 1;}else{out 2;}");
        by(UNROLL, "while a<1{}", "if a<1{while a<1{}}");
        by(UNROLL, "while 2<1{}", "if 2<1{while 2<1{}}");
    }

    /** "A PASS makes of a PROGRAM what its ITEMS make one behind the other". */
    private static void oneBehindTheOther() {
        Talk t = new Talk();
        t.rule("1->2", 0);
        t.rule("2->3", 1);
        t.program(0, "out 1;", 1);
        t.item(0, 0, 1);
        t.item(0, 1, 2);
        t.item(1, 1, 1);
        t.item(1, 0, 2);
        Talk.due("make", t.x.make(0, 0, 1), 1);
        t.row(1, 110, 3);
        Talk.due("make", t.x.make(1, 0, 1), 1);
        t.row(1, 110, 2);
        t.program(0, "a=1;if a+a=1+1{b=a;out b;}", 4);
        int[] items = {HASTY_COPY, DEAD, FOLD, UNROLL, HASTY_DEAD, 0, FOLD, 1};
        for (int n = 0; n < 8; n++) t.item(2, items[n], n + 1);
        // a=1; if a+a=1+1 {b=a; out a;}, then without b=a, then a+a=2, then 2 for 1 and 3 for 2.
        Talk.due("make by 8 ITEMS", t.x.make(2, 0, 1), 3);
        t.row(1, 100, 3, 112, 131, 120, 20, 20, 3, 110, 20, 113, 114);
    }

    /** "it FAILS if a PROGRAM on the way .. has more than 40 STATEMENTS". */
    private static void failsStatements() {
        for (int n = 18; n <= 21; n++) {
            Talk t = new Talk();
            t.pass(0, UNROLL);
            t.program(0, "while a<1{" + Talk.times("fail;", n) + "}", n + 1);
            t.program(1, "out 7;", 1);
            Talk.due("UNROLL to " + (2 * n + 2), t.x.make(0, 0, 1), n <= 19 ? 2 * n + 2 : -1);
            if (n > 19) t.row(1, 110, 7);
        }
        Talk t = new Talk();
        t.pass(0, UNROLL);
        t.program(0, "while a<1{" + Talk.times("fail;", 19) + "}fail;", 21);
        Talk.due("UNROLL to 41", t.x.make(0, 0, 1), -1);
        // As deep as UNROLL can nest: each time one more.
        t.program(0, Talk.times("fail;", 38) + "while a<1{}", 39);
        Talk.due("UNROLL to 40", t.x.make(0, 0, 0), 40);
        Talk.due("UNROLL to 41", t.x.make(0, 0, 0), -1);
        Talk.due("STATEMENTS", t.x.size(0, 0), 40);
    }

    /** "or 300 EXPRESSIONS." */
    private static void failsExpressions() {
        int[] ones = {146, 147, 148, 149};
        for (int n : ones) {
            for (int more = 0; more < 2; more++) {
                // 2 n + 3 of them, and at times one more; the RULE makes two more.
                int size = 2 * n + 1 + more;
                Talk t = new Talk();
                t.rule("7->8+0", 0);
                t.pass(0, 0);
                t.program(1, "fail;", 1);
                t.program(0, "out 7" + Talk.times("+1", n) + ";" + (more == 1 ? "out a;" : ""), 1 + more);
                Talk.due("EXPRESSIONS", t.x.size(0, 1), size);
                Talk.due("make of " + size, t.x.make(0, 0, 1), size <= 298 ? 1 + more : -1);
                if (size <= 298) Talk.due("EXPRESSIONS", t.x.size(1, 1), size + 2); else t.row(1, 111);
            }
        }
        Talk t = new Talk();
        t.pass(0, UNROLL);
        t.program(0, "while a<1{out 1" + Talk.times("+1", 73) + ";out 1;}", 3);
        Talk.due("UNROLL to 300", t.x.make(0, 0, 1), 6);
        Talk.due("EXPRESSIONS", t.x.size(1, 1), 300);
        t.program(0, "while a<1{out 1" + Talk.times("+1", 73) + ";out 1;}out 1;", 4);
        Talk.due("UNROLL to 301", t.x.make(0, 0, 1), -1);
    }

    /** "a PROGRAM on the way (behind an applied RULE, or an ITEM)": though what comes of it in the end is smaller. */
    private static void failsOnTheWay() {
        Talk t = new Talk();
        t.rule("7->8+0", 0);
        t.rule("8+0->1", 1);
        t.program(0, "out 7" + Talk.times("+1", 148) + ";out 7;", 2);
        t.item(0, 0, 1);
        t.item(0, 1, 2);
        // 298, and two RULES applied: 302 on the way.
        Talk.due("EXPRESSIONS", t.x.size(0, 1), 298);
        Talk.due("FAILS behind the second time", t.x.make(0, 0, 1), -1);
        t.program(0, "out 7" + Talk.times("+1", 147) + ";out 7;", 2);
        Talk.due("to 300 and back", t.x.make(0, 0, 1), 2);
        Talk.due("EXPRESSIONS", t.x.size(1, 1), 296);
        t = new Talk();
        t.item(0, UNROLL, 1);
        t.item(0, FOLD, 2);
        t.program(0, "while 2<1{" + Talk.times("fail;", 20) + "}", 21);
        Talk.due("FAILS behind UNROLL", t.x.make(0, 0, 1), -1);
        t.program(0, "while 2<1{" + Talk.times("fail;", 19) + "}", 20);
        Talk.due("40 on the way", t.x.make(0, 0, 1), 0);
        // 50 times, of which one alone would be too large, is not asked for where the RULE does not MATCH.
        t = new Talk();
        t.rule("x->x" + Talk.times("+x", 19), 0);
        t.pass(0, 0);
        t.program(0, "fail;", 1);
        Talk.due("no EXPRESSION", t.x.make(0, 0, 1), 1);
        t.program(0, "out 1;", 1);
        Talk.due("FAILS", t.x.make(0, 0, 1), -1);
    }

    /** "What a PASS makes": without ITEMS, the same. */
    private static void makeNothing() {
        Talk t = new Talk();
        t.program(0, "if 1<2{out 1+1;}", 2);
        Talk.due("make", t.x.make(5, 0, 1), 2);
        t.row(1, 112, 130, 1, 2, 110, 120, 1, 1, 113, 114);
        Talk.due("make of an empty SLOT", t.x.make(5, 4, 1), 0);
        t.row(1);
        for (int v = FOLD; v <= UNROLL; v++) {
            t.pass(5, v);
            Talk.due("make of an empty SLOT by " + v, t.x.make(5, 4, 1), 0);
        }
    }

    /** "how many STATEMENTS". */
    private static void makeCounts() {
        Talk t = new Talk();
        t.pass(0, DEAD);
        t.pass(1, UNROLL);
        t.program(0, Talk.times("a=1;", 40), 40);
        Talk.due("none", t.x.make(0, 0, 1), 0);
        t.program(0, "while a<1{" + Talk.times("out 1;", 19) + "}", 20);
        Talk.due("40", t.x.make(1, 0, 1), 40);
        Talk.due("40 again", t.x.make(0, 1, 2), 40);
    }

    /** "comes into a SLOT": into each of them, over what is there, and into itself. */
    private static void makeInto() {
        for (int to = 0; to < 6; to++) {
            Talk t = new Talk();
            t.pass(0, FOLD);
            t.program(0, "out 1+2;", 1);
            for (int s = 1; s < 6; s++) t.program(s, "out " + (s + 4) + ";fail;out 4;", 3);
            Talk.due("make into " + to, t.x.make(0, 0, to), 1);
            for (int s = 0; s < 6; s++) {
                if (s == to) {
                    t.row(s, 110, 3);
                } else if (s == 0) {
                    t.row(s, 110, 120, 1, 2);
                } else {
                    t.row(s, 110, s + 4, 111, 110, 4);
                }
            }
        }
    }

    /** "NONE, and nothing is done, .. if one can't be." */
    private static void makeRefused() {
        Talk t = new Talk();
        t.pass(0, FOLD);
        t.program(0, "out 1+2;", 1);
        t.program(1, "fail;", 1);
        for (int n : NO_SLOTS) {
            Talk.due("make by PASS " + n, t.x.make(n, 0, 1), -1);
            Talk.due("make of SLOT " + n, t.x.make(0, n, 1), -1);
            Talk.due("make into SLOT " + n, t.x.make(0, 0, n), -1);
            Talk.due("make by, of and into " + n, t.x.make(n, n, n), -1);
        }
        t.row(0, 110, 120, 1, 2);
        t.row(1, 111);
    }

    /** "NONE, and nothing is done, if it FAILS". */
    private static void makeFails() {
        Talk t = new Talk();
        t.rule("x->x+x", 0);
        t.item(0, FOLD, 1);
        t.item(0, 0, 2);
        t.program(0, "out 1+2;", 1);
        t.program(1, "fail;", 1);
        Talk.due("make", t.x.make(0, 0, 1), -1);
        Talk.due("make into itself", t.x.make(0, 0, 0), -1);
        t.row(0, 110, 120, 1, 2);
        t.row(1, 111);
    }

    private static void blamed(Talk t, String text, int pass, int inputs) {
        t.tape(text);
        Talk.due("(the text stands) " + text, t.x.program(0) >= 0, true);
        Talk.due("blame of " + text, t.x.blame(0, 0), pass);
        Talk.due("INPUTS of blame of " + text, t.x.blame(0, 1), inputs);
    }

    /** "all PASSES from 0 on that have ITEMS ..; the first one that FAILS, or whose PROGRAM is WRONG". */
    private static void blameFirst() {
        for (int p = 0; p < 6; p++) {
            Talk t = new Talk();
            t.rule("1->2", 0);
            t.item(p, 0, 1);
            blamed(t, "out 1;", p, 0);
            for (int q = p; q < 6; q++) t.x.item(q, 0);
            blamed(t, "out 1;", p, 0);
            for (int q = 0; q < p; q++) t.item(q, FOLD, 1);
            blamed(t, "out 1;", p, 0);
        }
        Talk t = new Talk();
        t.rule("1->2", 0);
        t.rule("x->x+x", 1);
        t.item(1, 1, 1);
        t.item(3, 0, 1);
        blamed(t, "out 1;", 1, -1);
        t.item(0, 0, 1);
        blamed(t, "out 1;", 0, 0);
    }

    /** "NONE if there is none". */
    private static void blameWithout() {
        Talk t = new Talk();
        blamed(t, "", -1, -1);
        blamed(t, "out 1;", -1, -1);
        for (int p = 0; p < 6; p++) t.item(p, FOLD, 1);
        blamed(t, "", -1, -1);
        blamed(t, "out 1+1;", -1, -1);
        // UNPROVED is not WRONG.
        blamed(t, "while 0<1{out 1+1;}", -1, -1);
        t.pass(0, UNROLL);
        blamed(t, "while 0<1{out a;}", -1, -1);
        t.pass(0, HASTY_DEAD);
        blamed(t, "while 0<1{out c;c=b;}", 0, 1);
        blamed(t, "while 0<1{if 1=2{out c;}c=1;}", -1, -1);
    }

    /** "make of a PROGRAM one behind the other; .. WRONG against the one ahead." */
    private static void blameAhead() {
        Talk t = new Talk();
        t.rule("1->2", 0);
        t.rule("2->1", 1);
        t.item(0, FOLD, 1);
        t.item(2, 1, 1);
        t.item(4, 0, 1);
        // PASS 2 is asked on what PASS 0 has made, PASS 4 on what PASS 2 has made of that.
        blamed(t, "out 3-1;", 2, 0);
        blamed(t, "out 3-2;", 4, 0);
        blamed(t, "out 5;", -1, -1);
        // Within one PASS they mend each other.
        t.item(2, 0, 2);
        t.x.clear(4);
        blamed(t, "out 3-1;", -1, -1);
        // The given PROGRAM is TIRED ahead of its out; what DEAD makes of it is not, and against that PASS 1 is WRONG.
        t = new Talk();
        t.rule("7->8", 0);
        t.item(0, DEAD, 1);
        t.item(1, 0, 1);
        blamed(t, "c=15;while c>0{c=c-1;d=1;d=1;d=1;d=1;d=1;}out 7;", 1, 0);
        // What PASS 0 makes is TIRED ahead of its out, and against that PASS 1 is not WRONG.
        t = new Talk();
        t.rule("0->6", 0);
        t.rule("6->0", 1);
        t.rule("7->8", 2);
        t.item(0, 0, 1);
        t.item(1, 1, 1);
        t.item(1, 2, 2);
        blamed(t, "while 0>5{}out 7;", -1, -1);
        t.x.clear(0);
        blamed(t, "while 0>5{}out 7;", 1, 0);
    }

    /** "the INPUTS (16 a + b; NONE if it FAILS)". */
    private static void blameFails() {
        Talk t = new Talk();
        t.rule("x->x+x", 0);
        t.item(5, 0, 1);
        blamed(t, "out 1;", 5, -1);
        blamed(t, "fail;", -1, -1);
        t = new Talk();
        t.item(0, UNROLL, 1);
        blamed(t, "while a<1{" + Talk.times("fail;", 19) + "}", -1, -1);
        blamed(t, "while a<1{" + Talk.times("fail;", 20) + "}", 0, -1);
    }

    /** "1 the INPUTS (16 a + b ..)": the first and the last that there are. */
    private static void blameInputs() {
        Talk t = new Talk();
        t.item(3, HASTY_COPY, 1);
        blamed(t, "c=b;b=b+1;out c;", 3, 0);
        blamed(t, "c=b;b=b*0;if a=15{if c=15{out 1;}}", 3, 255);
        blamed(t, "c=b;b=b*0;if a=15{out c;}", 3, 241);
        blamed(t, "c=a;a=a*0;if b=15{out c;}", 3, 31);
        blamed(t, "c=a;a=a*0;if c=15{out 1;}", 3, 240);
    }

    /** "NONE if .. one can't be, or another what." */
    private static void blameRefused() {
        Talk t = new Talk();
        t.rule("1->2", 0);
        t.item(0, 0, 1);
        for (int s = 0; s < 6; s++) t.program(s, "out 1;", 1);
        int[] wrong = {Integer.MIN_VALUE, -2, -1, 2, 3, Integer.MAX_VALUE};
        for (int what : wrong) Talk.due("blame(0, " + what + ")", t.x.blame(0, what), -1);
        for (int s : NO_SLOTS) {
            Talk.due("blame(" + s + ", 0)", t.x.blame(s, 0), -1);
            Talk.due("blame(" + s + ", 1)", t.x.blame(s, 1), -1);
        }
        for (int s = 0; s < 6; s++) Talk.due("blame(" + s + ", 0)", t.x.blame(s, 0), 0);
    }

    /** "BLAME of a SLOT's PROGRAM" tells, and leaves all SLOTS as they are. */
    private static void blameChangesNothing() {
        Talk t = new Talk();
        t.rule("1->2", 0);
        t.item(0, FOLD, 1);
        t.item(1, 0, 1);
        for (int s = 0; s < 6; s++) t.program(s, "out 1+" + s + ";", 1);
        for (int s = 0; s < 6; s++) Talk.due("blame(" + s + ", 0)", t.x.blame(s, 0), s == 0 ? 1 : -1);
        for (int s = 0; s < 6; s++) t.row(s, 110, 120, 1, s);
    }

    /** A new object, whose PASS 0 has one ITEM: what is CUT of a text for it. */
    private static void cutTo(int item, String text, String want) {
        Talk t = new Talk();
        t.rule("1->2", 0);
        t.rule("x*x->x", 1);
        t.item(0, item, 1);
        t.tape(want);
        int n = t.x.program(1);
        t.tape(text);
        Talk.due("(the text stands) " + text, t.x.program(0) >= 0, true);
        Talk.due("cut of " + text, t.x.cut(0, 0, 2), n);
        Talk.due("numbers of what is cut of " + text, t.x.size(2, 2), t.x.size(1, 2));
        for (int k = 0; k < t.x.size(1, 2); k++) Talk.due("at(2, " + k + ") of what is cut of " + text, t.x.at(2, k), t.x.at(1, k));
    }

    /** "CUT for a PASS: of a PROGRAM of 1 .. 12 STATEMENTS". */
    private static void cutSizes() {
        cutTo(0, "out 1;", "out 1;");
        cutTo(0, Talk.times("out 3;", 10) + "out 1;", "out 1;");
        cutTo(0, Talk.times("out 3;", 11) + "out 1;", "out 1;");
        cutTo(0, "out 1;" + Talk.times("fail;", 11), "out 1;");
        cutTo(0, Talk.times("if a<3{", 8) + "out 1;" + Talk.times("}", 8) + "fail;fail;fail;",
            Talk.times("if a<3{", 8) + "out 1;" + Talk.times("}", 8));
        Talk t = new Talk();
        t.rule("1->2", 0);
        t.item(0, 0, 1);
        t.program(1, "fail;", 1);
        t.program(0, Talk.times("out 3;", 12) + "out 1;", 13);
        Talk.due("13 STATEMENTS", t.x.cut(0, 0, 1), -1);
        t.program(0, "if a<3{" + Talk.times("out 1;", 12) + "}", 13);
        Talk.due("13 STATEMENTS, of which 12 are in one", t.x.cut(0, 0, 1), -1);
        t.program(0, Talk.times("out 1;", 40), 40);
        Talk.due("40 STATEMENTS", t.x.cut(0, 0, 1), -1);
        Talk.due("no STATEMENT", t.x.cut(0, 5, 1), -1);
        t.row(1, 111);
    }

    /** "again and again the first STATEMENT .. is taken out without which that is still so, till there is none." */
    private static void cutFirst() {
        cutTo(0, "out 1;out 1;", "out 1;");
        cutTo(0, "out 1;out 1+3;out 1+4;", "out 1+4;");
        cutTo(0, "out 3;out 1;out 4;", "out 1;");
        // Behind a later one is taken out, the first ones are asked again.
        cutTo(0, "a=5;if a=5{out 1;}a=6;", "if a=5{out 1;}");
        cutTo(1, "b=2;out b*b;", "out b*b;");
        cutTo(HASTY_DEAD, "while a>b{out c;c=a;b=b+1;}", "while a>b{out c;c=a;}");
        cutTo(HASTY_COPY, "c=a;out c;a=5;out c;", "c=a;a=5;out c;");
    }

    /** "the first STATEMENT (with all in it)". */
    private static void cutWithAllInIt() {
        cutTo(0, "if a<3{out 1;}else{out 1;}", "if a<3{}else{out 1;}");
        cutTo(0, "if a<3{fail;out 4;}out 1;", "out 1;");
        cutTo(0, "while a<3{out 1;a=a+3;}", "while a<3{out 1;}");
        cutTo(0, "if a<3{if a<4{out 1;}else{out 5;}}", "if a<3{if a<4{out 1;}}");
        cutTo(0, "out 1;if a<3{while a<4{out 1;fail;}}else{out 1;}", "if a<3{}else{out 1;}");
    }

    /** "without which that is still so": its making by the PASS is WRONG, and does not FAIL. */
    private static void cutStillSo() {
        // Without c=3 one of the two is TIRED wherever the other one fails: UNPROVED.
        cutTo(0, "while c=0{if a=1{fail;}c=3;}", "while c=0{if a=1{fail;}c=3;}");
        cutTo(0, "if a=1{fail;}out a;", "if a=1{fail;}");
        // The 50 times are spent on the first STATEMENT; without it RULE 1 finds what it makes larger and larger.
        Talk t = new Talk();
        t.rule("7->1", 0);
        t.rule("1*x->1*(x+x+x)", 1);
        t.item(0, 0, 1);
        t.item(0, 1, 2);
        t.program(1, "out 7*a;", 1);
        Talk.due("FAILS", t.x.make(0, 1, 2), -1);
        t.program(0, "out 7" + Talk.times("+7", 49) + ";out 7*a;", 2);
        Talk.due("cut", t.x.cut(0, 0, 1), 1);
        Talk.due("numbers", t.x.size(1, 2), 100);
        Talk.due("at(1, 50)", t.x.at(1, 50), 7);
    }

    /** "NONE, and nothing is done, if it is not WRONG". */
    private static void cutNotWrong() {
        Talk t = new Talk();
        t.rule("1->2", 0);
        t.rule("x->x+x", 1);
        t.item(0, 0, 1);
        t.item(1, 1, 1);
        t.program(1, "fail;", 1);
        t.program(0, "out 3;", 1);
        Talk.due("unchanged", t.x.cut(0, 0, 1), -1);
        t.program(0, "c=1;out 3;", 2);
        Talk.due("RIGHT", t.x.cut(0, 0, 1), -1);
        t.program(0, "c=1;while 0<3{}", 2);
        Talk.due("UNPROVED", t.x.cut(0, 0, 1), -1);
        t.program(0, "out 1;", 1);
        Talk.due("FAILS", t.x.cut(1, 0, 1), -1);
        Talk.due("a PASS without ITEMS", t.x.cut(2, 0, 1), -1);
        Talk.due("a PASS without ITEMS into itself", t.x.cut(2, 0, 0), -1);
        t.row(0, 110, 1);
        t.row(1, 111);
    }

    /** "NONE, and nothing is done, .. if one can't be." */
    private static void cutRefused() {
        Talk t = new Talk();
        t.rule("1->2", 0);
        t.item(0, 0, 1);
        t.program(0, "out 3;out 1;", 2);
        t.program(1, "fail;", 1);
        for (int n : NO_SLOTS) {
            Talk.due("cut for PASS " + n, t.x.cut(n, 0, 1), -1);
            Talk.due("cut of SLOT " + n, t.x.cut(0, n, 1), -1);
            Talk.due("cut into SLOT " + n, t.x.cut(0, 0, n), -1);
            Talk.due("cut for, of and into " + n, t.x.cut(n, n, n), -1);
        }
        t.row(0, 110, 3, 110, 1);
        t.row(1, 111);
    }

    /** "comes into a SLOT: how many STATEMENTS": into each of them, over what is there, and into itself. */
    private static void cutInto() {
        for (int to = 0; to < 6; to++) {
            Talk t = new Talk();
            t.rule("1->2", 0);
            t.item(0, 0, 1);
            t.program(0, "out 3;out 1;", 2);
            for (int s = 1; s < 6; s++) t.program(s, "out " + (s + 4) + ";fail;out 4;", 3);
            Talk.due("cut into " + to, t.x.cut(0, 0, to), 1);
            for (int s = 0; s < 6; s++) {
                if (s == to) {
                    t.row(s, 110, 1);
                } else if (s == 0) {
                    t.row(s, 110, 3, 110, 1);
                } else {
                    t.row(s, 110, s + 4, 111, 110, 4);
                }
            }
        }
    }
}
