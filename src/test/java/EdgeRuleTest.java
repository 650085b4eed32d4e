/**
 * Promises 11 to 13, and what part 2 of the Terms says of RULES, at their edges.
 * Each method is for one sentence of the document, which stands above it.
 */
public final class EdgeRuleTest {
    public static void main(String[] args) {
        fortyFirst();
        arrow();
        eightOpen();
        letterOfRight();
        sameForSame();
        matchesWhole();
        rightSideStands();
        rightForAll();
        firstWords();
        lettersItHasNot();
        factorsModulo();
        sevenTimes();
        onTheWay();
        factorZero();
        formsApart();
        formsAnswers();
        wrongsCounted();
        ruleOfRefused();
        placesCounted();
        placesRefused();
        applyKth();
        applyBeyond();
        applyThreeHundred();
        applyRefused();
        applyInto();
        Talk.close("EdgeRuleTest");
    }

    private static final int[] NO_SLOTS = {Integer.MIN_VALUE, -1, 6, 7, Integer.MAX_VALUE};

    /** A RULE 0, and a PROGRAM in SLOT 0. */
    private static Talk with(String rule, String program) {
        Talk t = new Talk();
        t.rule(rule, 0);
        t.tape(program);
        Talk.due("(the text stands) " + program, t.x.program(0) >= 0, true);
        return t;
    }

    private static void good(String rule) {
        Talk t = new Talk();
        t.rule(rule, 0);
        t.faultIs(rule, 0, -1);
    }

    private static void bad(String rule, int what, int place) {
        new Talk().badRule(rule, what, place);
    }

    /** "up to 40 NUMBERS, letters and operations in all (the 41st: FAULT 3 at it, an operation at its sign ..". */
    private static void fortyFirst() {
        for (int left = 0; left < 20; left++) {
            String some = "x" + Talk.times("+1", left) + "->x" + Talk.times("*x", 19 - left);
            good(some);
            bad(some + "-1", 3, some.length());
            bad(some + " - 1", 3, some.length() + 1);
            bad(some + "+", 3, some.length());
        }
        // On the left the 41st may be a NUMBER or a letter, too.
        String forty = "x" + Talk.times("+1", 19) + "*";
        bad(forty + "1", 3, 40);
        bad(forty + " y", 3, 41);
        bad(forty + "(1", 3, 41);
        bad("x" + Talk.times("+1", 19) + "->", 1, 41);
        good(" x" + Talk.times("+1", 19) + " -> 7 ");
        // ( and -> are none of them.
        good("((x))" + Talk.times("+(1)", 18) + "->(x)-((x))");
    }

    /** "-> is one TOKEN ..; in PROGRAMS - and > are two". */
    private static void arrow() {
        good("x->x");
        good("x ->x");
        good("x-1->x-1");
        bad("x- >x", 1, 3);
        bad("x-\n>x", 1, 3);
        bad("x>x", 1, 1);
        bad("x-x", 1, 3);
        bad("x-->x", 1, 2);
        bad("x->->x", 1, 3);
        bad("x->x->x", 1, 4);
        bad("->", 1, 0);
        String[] others = {"out", "fail", "if", "else", "while", "=", "<", ";", "{", "}", "(", ")"};
        for (String other : others) bad("x " + other + " x", 1, 2);
        for (String other : others) bad("x->x " + other, 1, 5);
        bad("(x->x)", 1, 2);
        Talk t = new Talk();
        t.badProgram("if a->b{}", 1, 5);
        t.badProgram("out a->b;", 1, 6);
        t.badProgram("->", 1, 0);
    }

    /** "at most 8 open". */
    private static void eightOpen() {
        String eight = Talk.times("(", 8) + "x" + Talk.times(")", 8);
        good(eight + "->" + eight);
        good(eight + "+" + eight + "->" + eight + "*" + eight);
        bad("(" + eight + ")->x", 3, 8);
        bad("x->(" + eight + ")", 3, 11);
        bad(Talk.times("(", 9), 3, 8);
        bad("x+" + Talk.times(" (", 9), 3, 2 + 17);
        bad(eight + "+" + Talk.times("(", 9), 3, 18 + 8);
        // { is none that can stand there.
        bad(Talk.times("(", 8) + "{", 1, 8);
    }

    /** "FAULT 2 also (at it): a letter on the right that the left has not." */
    private static void letterOfRight() {
        String letters = "xyz";
        for (char l : letters.toCharArray()) {
            for (char r : letters.toCharArray()) {
                if (l == r) good(l + "->" + r); else bad(l + "->" + r, 2, 3);
                if (l == r) good(l + "+1->(2*" + r + ")"); else bad(l + "+1->(2*" + r + ")", 2, 8);
            }
        }
        good("x+y+z->z*y*x");
        bad("x+y->x+y+z", 2, 9);
        bad("x+z->x+ y", 2, 8);
        bad("y+z->x", 2, 5);
        bad("1->x", 2, 3);
        // The left side may have letters that the right has not; and a letter is one of the left once it is there.
        good("x*y*z->1");
        bad("x->x+y+y", 2, 5);
    }

    private static void places(String rule, String program, int want) {
        Talk.due("places of " + rule + " in " + program, with(rule, program).x.places(0, 0), want);
    }

    /** "A RULE MATCHES an EXPRESSION, if that is its left side, with an EXPRESSION in place of each letter (the same for the same letter)". */
    private static void sameForSame() {
        places("x+x->1", "out a+a;", 1);
        places("x+x->1", "out a+b;", 0);
        places("x+x->1", "out 1+1;", 1);
        places("x+x->1", "out 1+(1);", 1);
        places("x+x->1", "out a+1+(a+1);", 1);
        places("x+x->1", "out a+1+(1+a);", 0);
        places("x+x->1", "out a+1+(a+2);", 0);
        places("x+x->1", "out a+1+a;", 0);
        // One is the beginning of the other one in THE ROW, and shorter or longer.
        places("x-x->1", "out a-(a-a);", 1);
        places("x-x->1", "out a*b-a*b*c;", 0);
        places("x-x->1", "out a*b*c-a*b;", 0);
        places("x-x->1", "out a-a*b;", 0);
        places("x+y->1", "out a+a;", 1);
        places("x*(y+x)->1", "out a*(b+a);", 1);
        places("x*(y+x)->1", "out a*(a+b);", 0);
        places("x*y*z+z*y*x->1", "out a*(b+1)*3+3*(b+1)*a;", 1);
        places("x*y*z+z*y*x->1", "out a*(b+1)*3+3*(b+1)*b;", 0);
    }

    /** "if that is its left side": NUMBERS and operations are what they are; each EXPRESSION is asked, inside others too. */
    private static void matchesWhole() {
        places("x->1", "out a;", 1);
        places("x->1", "fail;", 0);
        places("x->1", "", 0);
        places("0->1", "out 0;out 1;", 1);
        places("15->1", "out 15;out 14;", 1);
        places("0->1", "out a;a=0;if 0<0{}", 3);
        places("x+0->1", "out 0+a;", 0);
        places("x+0->1", "out a-0;out a*0;out a+1;", 0);
        places("x+y->1", "out a+b+c+d;", 3);
        places("x-y-z->1", "out a-b-c-d;", 2);
        places("x-(y-z)->1", "out a-b-c-d;", 0);
        places("x-(y-z)->1", "out a-(b-(c-d));", 2);
        // Neither a VARIABLE that is set nor B is an EXPRESSION.
        places("x->1", "a=b;if c<d{}while e>f{}", 5);
        // What is at the end of THE ROW does not go beyond it.
        places("x+y->1", "out a;", 0);
        places("1+2->1", "out 1;out 2;", 0);
        places("x*(1+y)->1", "out a*1;out b;", 0);
    }

    private static void becomes(String rule, String program, int k, String want) {
        Talk t = with(rule, program);
        t.tape(want);
        t.x.program(1);
        Talk.due("(the text stands) " + want, t.x.fault(0), 0);
        Talk.due("apply " + rule + " at " + k + " of " + program, t.x.apply(0, 0, k, 2), true);
        Talk.due("size of " + want, t.x.size(2, 2), t.x.size(1, 2));
        for (int n = 0; n < t.x.size(1, 2); n++) Talk.due("at(2, " + n + ") of " + want, t.x.at(2, n), t.x.at(1, n));
    }

    /** "applied, its right side stands there, with these." */
    private static void rightSideStands() {
        becomes("x->7", "out a;", 0, "out 7;");
        becomes("x->x", "out a+1;", 0, "out a+1;");
        becomes("x->x*x", "out a+1;", 0, "out (a+1)*(a+1);");
        becomes("x*y->1", "out a*b-c*d;", 1, "out a*b-1;");
        becomes("x-y->y-x", "out a-b-(c-d);", 0, "out c-d-(a-b);");
        becomes("x-y->y-x", "out a-b-(c-d);", 1, "out b-a-(c-d);");
        becomes("x-y->y-x", "out a-b-(c-d);", 2, "out a-b-(d-c);");
        becomes("x+y*z->z*(y-x)", "while 1+2*3<4{out 5;}", 0, "while 3*(2-1)<4{out 5;}");
        becomes("x->x+1", "if a<b{out c;}else{d=e;}", 1, "if a<b+1{out c;}else{d=e;}");
        becomes("x->x+1", "if a<b{out c;}else{d=e;}", 3, "if a<b{out c;}else{d=e+1;}");
    }

    /** RULE 0 of a new object: what 0 to 3. */
    private static void proved(String text, int right, int first, int forms, int wrongs) {
        Talk t = new Talk();
        t.rule(text, 0);
        int[] due = {right, first, forms, wrongs};
        for (int what = 0; what < 4; what++) Talk.due("ruleOf(0, " + what + ") of " + text, t.x.ruleOf(0, what), due[what]);
    }

    /** "A RULE is RIGHT, if both sides are alike for all WORDS in place of its letters". */
    private static void rightForAll() {
        proved("x->x", 1, -1, 1, 0);
        proved("15+1->0", 1, -1, 1, 0);
        proved("0-1->15", 1, -1, 1, 0);
        proved("4*4->0", 1, -1, 1, 0);
        proved("x+y+z->z+x+y", 1, -1, 1, 0);
        proved("x*2*8->0", 1, -1, 1, 0);
        // On one x alone, on half of them, on all but one.
        proved("8*x*(x+1)->0", 1, -1, 0, 0);
        proved("x*x->x*x*x*x*x*x", 0, 512, 0, 4);
        proved("8*x->8", 0, 0, 0, 8);
        proved("x->0", 0, 256, 0, 15);
    }

    /** "else WRONG by the first x, y, z (x first) on which they are not"; "1 the first x, y, z (256 x + 16 y + z; NONE if it is RIGHT)". */
    private static void firstWords() {
        proved("x->x+1", 0, 0, 0, 16);
        proved("x+y+z->x+y+z+1", 0, 0, 0, 4096);
        proved("x+y+z->x+y", 0, 1, 0, 15 * 256);
        proved("x+y+z->x+z", 0, 16, 0, 15 * 256);
        proved("x+y+z->y+z", 0, 256, 0, 15 * 256);
        proved("8*x*y*z->0", 0, 273, 0, 512);
        proved("x*y->x*y*y", 0, 288, 0, pairsUnlike());
        // NONE if it is RIGHT, though a WRONG one was asked ahead.
        Talk t = new Talk();
        t.rule("x->x+1", 0);
        t.rule("x->x", 1);
        for (int n = 0; n < 2; n++) {
            Talk.due("ruleOf(0, 1)", t.x.ruleOf(0, 1), 0);
            Talk.due("ruleOf(0, 3)", t.x.ruleOf(0, 3), 16);
            Talk.due("ruleOf(1, 1)", t.x.ruleOf(1, 1), -1);
            Talk.due("ruleOf(1, 3)", t.x.ruleOf(1, 3), 0);
        }
        // At x = 0 there is none; at x = 1 the first y.
        proved("x*(y-1)->0", 0, 256, 0, 256 - zeroProducts());
    }

    private static int pairsUnlike() {
        int n = 0;
        for (int x = 0; x < 16; x++) {
            for (int y = 0; y < 16; y++) n += (x * y - x * y * y) % 16 != 0 ? 1 : 0;
        }
        return n;
    }

    private static int zeroProducts() {
        int n = 0;
        for (int x = 0; x < 16; x++) {
            for (int y = 0; y < 16; y++) n += x * y % 16 == 0 ? 1 : 0;
        }
        return n;
    }

    /** "(letters that it has not are 0)". */
    private static void lettersItHasNot() {
        proved("1->2", 0, 0, 0, 1);
        proved("x*x->x", 0, 2 * 256, 0, 14);
        proved("y*y->y", 0, 2 * 16, 0, 14);
        proved("z*z->z", 0, 2, 0, 14);
        proved("x+z->x", 0, 1, 0, 240);
        proved("x+z->z", 0, 256, 0, 240);
        proved("y+z->z", 0, 16, 0, 240);
    }

    /** "with factors modulo 16 (those of factor 0 left out)". */
    private static void factorsModulo() {
        proved("x*15+x->0", 1, -1, 1, 0);
        proved("x*8+x*8->0", 1, -1, 1, 0);
        proved("x*4*4->0", 1, -1, 1, 0);
        proved("x*5*3->0-x", 1, -1, 1, 0);
        proved("x-x*2->15*x", 1, -1, 1, 0);
        proved("(x+8)*(x+8)->x*x", 1, -1, 1, 0);
        proved("(x+4)*(x+4)->x*x+8*x", 1, -1, 1, 0);
        proved("x+0*y*z->x", 1, -1, 1, 0);
        proved("x-y->x+15*y", 1, -1, 1, 0);
        proved("x-x->0", 1, -1, 1, 0);
        proved("0*x->0", 1, -1, 1, 0);
        proved("x->x+8*x*x+8*x", 1, -1, 0, 0);
    }

    /** "there is none if a letter would come more than 7 times in a product": 7 times is not more. */
    private static void sevenTimes() {
        for (char l = 'x'; l <= 'z'; l++) {
            String seven = l + Talk.times("*" + l, 6);
            String eight = seven + "*" + l;
            proved(seven + "->" + seven, 1, -1, 1, 0);
            Talk t = new Talk();
            t.rule(eight + "->" + eight, 0);
            t.rule(eight + "->" + l, 1);
            t.rule(l + "->" + eight, 2);
            t.rule("(" + l + "+1)" + Talk.times("*(" + l + "+1)", 6) + "->" + l, 3);
            t.rule("(" + l + "+1)" + Talk.times("*(" + l + "+1)", 7) + "->" + l, 4);
            for (int r = 0; r < 5; r++) Talk.due("FORMS of RULE " + r + " of " + l, t.x.ruleOf(r, 2), r == 3 ? 0 : -1);
        }
        // Each letter is counted for itself, and each product for itself.
        proved("x*x*x*x*x*y*y*y*y*y->y*y*y*y*y*x*x*x*x*x", 1, -1, 1, 0);
        proved("x*x*x*x+x*x*x*x+x*x*x*x->3*x*x*x*x", 1, -1, 1, 0);
    }

    /** "in a product on the way": what comes only while it is multiplied out counts. */
    private static void onTheWay() {
        String four = "x*x*x*x";
        proved(four + "*(" + four + ")-" + four + "*(" + four + ")->0", 1, -1, -1, 0);
        proved("(" + four + "+1)*(" + four + ")->0*x", 0, 256, -1, 8);
        proved("(" + four + "+1)*(x*x*x)->" + four + "*x*x*x+x*x*x", 1, -1, 1, 0);
        proved("y+0*(" + four + "*(" + four + "))->y", 1, -1, -1, 0);
    }

    /** "(of factor 0, too)". */
    private static void factorZero() {
        proved("4*x*x*x*x*(4*x*x*x*x)->0", 1, -1, -1, 0);
        proved("8*x*x*x*x*x*x*x*(2*x)->0", 1, -1, -1, 0);
        proved("4*x*x*x*x*(4*x*x*x)->0", 1, -1, 1, 0);
        proved("0*x*x*x*x*x*x*x*x->0", 1, -1, -1, 0);
        proved("0*x*x*x*x*x*x*x->0", 1, -1, 1, 0);
        proved("(y-y)*y*y*y*y*y*y*y->0", 1, -1, -1, 0);
    }

    private static String power(int m) {
        char l = (char) ('x' + m / 7);
        return l + Talk.times("*" + l, m % 7);
    }

    /** "a sum of products of letters": each letter, as often as it comes, is another product. */
    private static void formsApart() {
        for (int m = 0; m < 21; m++) {
            Talk t = new Talk();
            for (int n = 0; n < 21; n++) {
                if (n % 12 == 0) t = new Talk();
                t.rule(power(m) + "+0*(x*y*z)->" + power(n), n % 12);
                Talk.due("FORMS of " + power(m) + " and " + power(n), t.x.ruleOf(n % 12, 2), m == n ? 1 : 0);
            }
            t.rule(power(m) + "->0", 9);
            Talk.due("FORMS of " + power(m) + " and 0", t.x.ruleOf(9, 2), 0);
        }
        proved("x*y+x*z+y*z->y*x+z*x+z*y", 1, -1, 1, 0);
        Talk t = new Talk();
        t.rule("x*y+0*z->x*z", 0);
        t.rule("x*x*y->x*y*y", 1);
        t.rule("x*y*z+x*x+y*y->x*y*z+x*x+z*z", 2);
        for (int r = 0; r < 3; r++) Talk.due("FORMS of RULE " + r, t.x.ruleOf(r, 2), 0);
    }

    /** "2 1 if both FORMS are the same, 0 if they are not, NONE if one is none". */
    private static void formsAnswers() {
        String eight = "x" + Talk.times("*x", 7);
        proved("x+x->2*x", 1, -1, 1, 0);
        proved("8*x*x->8*x", 1, -1, 0, 0);
        Talk t = new Talk();
        t.rule(eight + "->x", 0);
        t.rule("x->" + eight, 1);
        t.rule(eight + "->" + eight, 2);
        t.rule("x->x", 3);
        for (int r = 0; r < 4; r++) Talk.due("ruleOf(" + r + ", 2)", t.x.ruleOf(r, 2), r < 3 ? -1 : 1);
        // Of one with the FORM of the RULE asked ahead of it nothing is left.
        t.rule("x*y+z->z", 4);
        Talk.due("ruleOf(4, 2)", t.x.ruleOf(4, 2), 0);
        Talk.due("ruleOf(3, 2)", t.x.ruleOf(3, 2), 1);
        Talk.due("ruleOf(2, 2)", t.x.ruleOf(2, 2), -1);
        // As deep as parentheses go, and the longest sums there are.
        proved(Talk.times("x+(", 8) + "x" + Talk.times(")", 8) + "->9*x", 1, -1, 1, 0);
        proved("x" + Talk.times("+x", 16) + "+8+8+0->x", 1, -1, 1, 0);
        proved("x->x" + Talk.times("+x", 16) + "+8+8+0", 1, -1, 1, 0);
    }

    /** "3 on how many x, y, z it is WRONG (of letters that it has)." */
    private static void wrongsCounted() {
        proved("0->1", 0, 0, 0, 1);
        proved("z->z+1", 0, 0, 0, 16);
        proved("y+z->y+z+1", 0, 0, 0, 256);
        proved("x+y+z->x+y+z+1", 0, 0, 0, 4096);
        proved("x*y*z->z*y*x", 1, -1, 1, 0);
        // A letter that the left has alone is one that it has.
        proved("x+0*y->x+1", 0, 0, 0, 256);
    }

    /** "NONE - 1 if there is none such, or another what." */
    private static void ruleOfRefused() {
        Talk t = new Talk();
        int[] whats = {Integer.MIN_VALUE, -2, -1, 0, 1, 2, 3, 4, 5, Integer.MAX_VALUE};
        for (int what : whats) Talk.due("ruleOf(0, " + what + ") without RULES", t.x.ruleOf(0, what), -2);
        t.rule("x->x", 0);
        int[] none = {Integer.MIN_VALUE, -1, 1, 2, 11, 12, 13, Integer.MAX_VALUE};
        for (int r : none) {
            for (int what : whats) Talk.due("ruleOf(" + r + ", " + what + ")", t.x.ruleOf(r, what), -2);
        }
        int[] due = {-2, -2, -2, 1, -1, 1, 0, -2, -2, -2};
        for (int n = 0; n < whats.length; n++) Talk.due("ruleOf(0, " + whats[n] + ")", t.x.ruleOf(0, whats[n]), due[n]);
    }

    /** "How many EXPRESSIONS of a SLOT's PROGRAM a RULE MATCHES". */
    private static void placesCounted() {
        Talk t = with("x->x", "a=1" + Talk.times("+1", 149) + ";b=3;");
        t.rule("1->2", 1);
        t.rule("x+1->x", 2);
        t.rule("9->9", 3);
        Talk.due("all", t.x.places(0, 0), 300);
        Talk.due("the NUMBERS 1", t.x.places(1, 0), 150);
        Talk.due("the sums", t.x.places(2, 0), 149);
        Talk.due("none", t.x.places(3, 0), 0);
        for (int s = 1; s < 6; s++) Talk.due("of an empty SLOT", t.x.places(0, s), 0);
    }

    /** "NONE if one can't be." */
    private static void placesRefused() {
        Talk t = with("x->x", "out a;");
        int[] none = {Integer.MIN_VALUE, -1, 1, 11, 12, Integer.MAX_VALUE};
        for (int r : none) Talk.due("places(" + r + ", 0)", t.x.places(r, 0), -1);
        for (int s : NO_SLOTS) Talk.due("places(0, " + s + ")", t.x.places(0, s), -1);
        for (int s : NO_SLOTS) Talk.due("places(1, " + s + ")", t.x.places(1, s), -1);
        Talk.due("places(0, 0)", t.x.places(0, 0), 1);
    }

    /** "The RULE applied at the k-th (from 0) of these comes into a SLOT: true". */
    private static void applyKth() {
        Talk t = with("1->2", "out 1;if 1<1{out 1;}");
        int[] place = {1, 4, 5, 7};
        int[] row = {110, 1, 112, 130, 1, 1, 110, 1, 113, 114};
        for (int k = 0; k < 4; k++) {
            Talk.due("apply at " + k, t.x.apply(0, 0, k, 5), true);
            int[] want = row.clone();
            want[place[k]] = 2;
            t.row(5, want);
        }
        t.row(0, row);
    }

    /** "false, and nothing is done, if .. there is none such". */
    private static void applyBeyond() {
        Talk t = with("1->2", "out 1;out 1;");
        t.program(1, "fail;", 1);
        int[] none = {Integer.MIN_VALUE, -2, -1, 2, 3, 300, Integer.MAX_VALUE};
        for (int k : none) {
            Talk.due("apply at " + k, t.x.apply(0, 0, k, 1), false);
            Talk.due("apply at " + k + " into itself", t.x.apply(0, 0, k, 0), false);
        }
        t.row(0, 110, 1, 110, 1);
        t.row(1, 111);
        Talk.due("apply at the last", t.x.apply(0, 0, 1, 0), true);
        Talk.due("apply at the one that is left", t.x.apply(0, 0, 0, 0), true);
        Talk.due("apply at none", t.x.apply(0, 0, 0, 0), false);
        Talk.due("apply in an empty SLOT", t.x.apply(0, 5, 0, 1), false);
        t.row(0, 110, 2, 110, 2);
        t.row(1, 111);
    }

    /** "false .. or it would have more than 300 EXPRESSIONS." */
    private static void applyThreeHundred() {
        // 298 and 299 of them, of which the first of all is the whole sum.
        Talk t = with("2->3+4", "out 2" + Talk.times("+1", 148) + ";out 1;");
        Talk.due("EXPRESSIONS", t.x.size(0, 1), 298);
        Talk.due("apply to 300", t.x.apply(0, 0, 0, 1), true);
        Talk.due("EXPRESSIONS", t.x.size(1, 1), 300);
        Talk.due("numbers", t.x.size(1, 2), 302);
        t = with("2->3+4", "out 2" + Talk.times("+1", 149) + ";");
        t.program(1, "fail;", 1);
        Talk.due("EXPRESSIONS", t.x.size(0, 1), 299);
        Talk.due("apply to 301", t.x.apply(0, 0, 0, 1), false);
        Talk.due("apply to 301 into itself", t.x.apply(0, 0, 0, 0), false);
        Talk.due("EXPRESSIONS", t.x.size(0, 1), 299);
        Talk.due("at(0, 150)", t.x.at(0, 150), 2);
        t.row(1, 111);
        // At 300 it may become as many or fewer.
        t = with("1->2", "out 1" + Talk.times("+1", 149) + ";out 5;");
        t.rule("x+1->x", 1);
        Talk.due("EXPRESSIONS", t.x.size(0, 1), 300);
        Talk.due("apply to 300 again", t.x.apply(0, 0, 149, 0), true);
        Talk.due("apply to 298", t.x.apply(1, 0, 0, 1), true);
        Talk.due("EXPRESSIONS", t.x.size(1, 1), 298);
        // Far more than that: 20 times a sum of 279.
        t = with("x->x" + Talk.times("*x", 19), "out 1" + Talk.times("+1", 139) + ";");
        Talk.due("apply to thousands", t.x.apply(0, 0, 0, 0), false);
        Talk.due("apply to 317", t.x.apply(0, 0, 139, 0), false);
        Talk.due("EXPRESSIONS", t.x.size(0, 1), 279);
    }

    /** "false, and nothing is done, if one can't be". */
    private static void applyRefused() {
        Talk t = with("1->2", "out 1;");
        t.program(1, "fail;", 1);
        int[] none = {Integer.MIN_VALUE, -1, 1, 11, 12, Integer.MAX_VALUE};
        for (int r : none) Talk.due("apply of RULE " + r, t.x.apply(r, 0, 0, 1), false);
        for (int s : NO_SLOTS) {
            Talk.due("apply of SLOT " + s, t.x.apply(0, s, 0, 1), false);
            Talk.due("apply into SLOT " + s, t.x.apply(0, 0, 0, s), false);
            Talk.due("apply of and into SLOT " + s, t.x.apply(0, s, 0, s), false);
        }
        t.row(0, 110, 1);
        t.row(1, 111);
    }

    /** "comes into a SLOT": into each of them, over what is there, and into itself. */
    private static void applyInto() {
        for (int to = 0; to < 6; to++) {
            Talk t = with("1->2+3", "out 1;");
            for (int s = 1; s < 6; s++) t.program(s, "out " + (s + 4) + ";fail;out 4;", 3);
            Talk.due("apply into " + to, t.x.apply(0, 0, 0, to), true);
            for (int s = 0; s < 6; s++) {
                if (s == to) {
                    t.row(s, 110, 120, 2, 3);
                } else if (s == 0) {
                    t.row(s, 110, 1);
                } else {
                    t.row(s, 110, s + 4, 111, 110, 4);
                }
            }
        }
    }
}
