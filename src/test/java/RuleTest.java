/** Promises 11 to 13: whether RULES are RIGHT, where they MATCH, and what they make there. */
public final class RuleTest {
    public static void main(String[] args) {
        byWords();
        byForms();
        oneBehindTheOther();
        wrongAsks();
        matches();
        applied();
        atTheLimit();
        Talk.close("RuleTest");
    }

    private static void proved(String text, int right, int first, int forms, int wrongs) {
        Talk t = new Talk();
        t.rule(text, 0);
        int[] due = {right, first, forms, wrongs};
        for (int what = 0; what < 4; what++) Talk.due("ruleOf(0, " + what + ") of " + text, t.x.ruleOf(0, what), due[what]);
    }

    private static void byWords() {
        proved("x->x", 1, -1, 1, 0);
        proved("1->1", 1, -1, 1, 0);
        proved("1->2", 0, 0, 0, 1);
        proved("x->x+1", 0, 0, 0, 16);
        proved("y*y->y", 0, 32, 0, 14);
        proved("z*z->z", 0, 2, 0, 14);
        proved("x+y->x", 0, 16, 0, 240);
        proved("x+z->z", 0, 256, 0, 240);
        proved("x+y*z->x", 0, 17, 0, 16 * (256 - 48));
        proved("x*y->0", 0, 272, 0, 256 - 48);
        proved("x-y-z->x-(y+z)", 1, -1, 1, 0);
        proved("x-y-z->x-(y-z)", 0, 1, 0, 16 * 16 * 14);
        proved("8*x->8*x*x", 1, -1, 0, 0);
        proved("x*x*x*x*x*x*x*x->1", 0, 0, -1, 8);
    }

    private static void byForms() {
        proved("x*(y+z)->z*x+y*x", 1, -1, 1, 0);
        proved("(x+y)*(x-y)->x*x-y*y", 1, -1, 1, 0);
        proved("x-y->x+15*y", 1, -1, 1, 0);
        proved("x*4*4->0", 1, -1, 1, 0);
        proved("x*8+x*8->0", 1, -1, 1, 0);
        proved("0-x->15*x", 1, -1, 1, 0);
        proved("x*(x+1)*8->0", 1, -1, 0, 0);
        proved("x*x*x*x*x*x*x->x*x*x*x*(x*x*x)", 1, -1, 1, 0);
        proved("x*x*x*x*(x*x*x*x)->x*x*x*x*x*x*x*x", 1, -1, -1, 0);
        proved("x+0*y->x", 1, -1, 1, 0);
        proved("x*y*z*x*y*z*x*y*z->x*x*x*y*y*y*z*z*z", 1, -1, 1, 0);
        proved("x*x+y->y+y", 0, 16, 0, 16 * 16 - roots());
        proved("y*y+z->z+z", 0, 1, 0, 16 * 16 - roots());
        proved("y*y*y*y*y*y*y*y->y*y*y*y*y*y*y*y", 1, -1, -1, 0);
        proved("z*z*z*z*z*z*z->z*z*z*z*z*z*z", 1, -1, 1, 0);
        proved("z*z*z*z*z*z*z*z->z*z*z*z*z*z*z*z", 1, -1, -1, 0);
        proved("x*x*x*x*y*y*y*y->y*x*y*x*y*x*y*x", 1, -1, 1, 0);
        // A letter may come 7 times in a product, and more than 7 times in the sum.
        proved("x+x+x+x+x+x+x+x+x->9*x", 1, -1, 1, 0);
        // A product of factor 0 counts too.
        proved("x*x*x*x*4*(4*x*x*x*x)->0", 1, -1, -1, 0);
        proved("0*x*x*x*x*x*x*x*x->0", 1, -1, -1, 0);
        proved("(x-x)*x*x*x*x*x*x*x->0", 1, -1, -1, 0);
        proved("(x-x)*x*x*x*x*x*x->0", 1, -1, 1, 0);
    }

    /** On how many x, y the square of x is y: one y for each x. */
    private static int roots() {
        return 16;
    }

    private static void oneBehindTheOther() {
        Talk t = new Talk();
        t.rule("x->x+1", 0);
        t.badRule("x+y->y+x+y*16", 2, 11);
        t.badRule("z*z->z+(x", 2, 8);
        t.rule("y*2->y+y", 1);
        t.badRule("x->x)", 1, 4);
        t.rule("1->2", 2);
        Talk.due("a WRONG one", t.x.ruleOf(0, 1), 0);
        Talk.due("a RIGHT one", t.x.ruleOf(1, 1), -1);
        Talk.due("a RIGHT one", t.x.ruleOf(1, 0), 1);
        Talk.due("its wrongs", t.x.ruleOf(1, 3), 0);
        Talk.due("a WRONG one without letters", t.x.ruleOf(2, 3), 1);
        t.program(0, "out 3*2;out 1;", 2);
        Talk.due("apply", t.x.apply(1, 0, 0, 0), true);
        Talk.due("apply", t.x.apply(2, 0, 0, 0), true);
        t.row(0, 110, 120, 3, 3, 110, 2);
    }

    private static void wrongAsks() {
        Talk t = new Talk();
        t.rule("x->x", 0);
        Talk.due("ruleOf(1, 0)", t.x.ruleOf(1, 0), -2);
        Talk.due("ruleOf(1, 2)", t.x.ruleOf(1, 2), -2);
        Talk.due("ruleOf(-1, 0)", t.x.ruleOf(-1, 0), -2);
        Talk.due("ruleOf(0, -1)", t.x.ruleOf(0, -1), -2);
        Talk.due("ruleOf(0, 4)", t.x.ruleOf(0, 4), -2);
        Talk.due("places(1, 0)", t.x.places(1, 0), -1);
        Talk.due("places(-1, 0)", t.x.places(-1, 0), -1);
        Talk.due("places(0, 6)", t.x.places(0, 6), -1);
        Talk.due("places(0, -1)", t.x.places(0, -1), -1);
        Talk.due("places(0, 0)", t.x.places(0, 0), 0);
        Talk.due("apply(0, 0, 0, 0)", t.x.apply(0, 0, 0, 0), false);
    }

    private static void matches(String rule, String program, int places) {
        Talk t = new Talk();
        t.rule(rule, 0);
        t.tape(program);
        t.x.program(0);
        Talk.due("places of " + rule + " in " + program, t.x.places(0, 0), places);
    }

    private static void matches() {
        matches("x->x", "a=b+1;if a<c*2{out 1;}else{fail;}while 1=a{}", 10);
        matches("x+x->x*2", "out (a+b)+(a+b);", 1);
        matches("x+x->x*2", "out a+a+(a+a);", 3);
        matches("x+x->x*2", "out a+a+a+a;", 1);
        matches("x+y->y+x", "out a+a+a+a;", 3);
        matches("x+y->y+x", "out a-b*c;", 0);
        matches("x+1->x", "out 1+a;out a+1;out a+2;a=b+(1);", 2);
        matches("x*(y+z)->x", "out a*b+c;out a*(b+c);", 1);
        matches("x-y-x->y", "out a-b-a;out a-b-b;out a*1-b-(a*1);", 2);
        matches("x-y-x->y", "out a-1-a*1;", 0);
        matches("3->4", "out 3+3;if 3<a{while 3>3{}}", 5);
        matches("x+y+z->x", "out 1+2+(3+4);", 1);
        matches("x->1", "a=1;", 1);
    }

    private static Talk withRule(String rule, String program) {
        Talk t = new Talk();
        t.rule(rule, 0);
        t.tape(program);
        t.x.program(0);
        return t;
    }

    private static void applied() {
        Talk t = withRule("x+x->x*2", "out a+a+(a+a);");
        Talk.due("apply 0", t.x.apply(0, 0, 0, 1), true);
        t.row(1, 110, 122, 120, 20, 20, 2);
        Talk.due("apply 1", t.x.apply(0, 0, 1, 2), true);
        t.row(2, 110, 120, 122, 20, 2, 120, 20, 20);
        Talk.due("apply 2", t.x.apply(0, 0, 2, 3), true);
        t.row(3, 110, 120, 120, 20, 20, 122, 20, 2);
        Talk.due("apply 3", t.x.apply(0, 0, 3, 3), false);
        Talk.due("apply -1", t.x.apply(0, 0, -1, 3), false);
        Talk.due("apply least", t.x.apply(0, 0, Integer.MIN_VALUE, 3), false);
        Talk.due("apply most", t.x.apply(0, 0, Integer.MAX_VALUE, 3), false);
        Talk.due("no such RULE", t.x.apply(1, 0, 0, 3), false);
        Talk.due("no such SLOT", t.x.apply(0, 6, 0, 3), false);
        Talk.due("no such SLOT", t.x.apply(0, 0, 0, -1), false);
        t.row(3, 110, 120, 120, 20, 20, 122, 20, 2);
        t.row(0, 110, 120, 120, 20, 20, 120, 20, 20);
        Talk.due("apply into itself", t.x.apply(0, 0, 0, 0), true);
        t.row(0, 110, 122, 120, 20, 20, 2);

        t = withRule("x-(y-z)->z+x-y*z", "while a-(b*2-c)>1{if 2=d{}else{e=1-(f-0);}}");
        Talk.due("places", t.x.places(0, 0), 2);
        Talk.due("apply in the test", t.x.apply(0, 0, 0, 1), true);
        t.row(1, 115, 132, 121, 120, 22, 20, 122, 122, 21, 2, 22, 1, 112, 131, 2, 23, 113,
            104, 121, 1, 121, 25, 0, 114, 114);
        Talk.due("apply in the else", t.x.apply(0, 0, 1, 1), true);
        t.row(1, 115, 132, 121, 20, 121, 122, 21, 2, 22, 1, 112, 131, 2, 23, 113,
            104, 121, 120, 0, 1, 122, 25, 0, 114, 114);

        t = withRule("x*y->7", "out a*(b*c)+d;");
        Talk.due("apply", t.x.apply(0, 0, 0, 5), true);
        t.row(5, 110, 120, 7, 23);
        Talk.due("size", t.x.size(5, 1), 3);
    }

    private static void atTheLimit() {
        Talk t = withRule("x->x+0", "a=1" + Talk.times("+1", 148) + ";b=3;");
        Talk.due("size", t.x.size(0, 1), 298);
        Talk.due("apply to 300", t.x.apply(0, 0, 0, 1), true);
        Talk.due("size", t.x.size(1, 1), 300);
        Talk.due("apply to 302", t.x.apply(0, 1, 0, 2), false);
        Talk.due("size", t.x.size(2, 1), 0);
        Talk.due("apply to 302 into itself", t.x.apply(0, 1, 7, 1), false);
        Talk.due("size", t.x.size(1, 1), 300);
        t.rule("x->1", 1);
        Talk.due("apply to 2", t.x.apply(1, 1, 0, 1), true);
        t.row(1, 100, 1, 101, 3);
        t.rule("x->x" + Talk.times("+x", 19), 2);
        Talk.due("20 times 149 and more", t.x.apply(2, 0, 0, 3), false);
        t.program(0, "a=b" + Talk.times("+1", 6) + ";", 1);
        Talk.due("20 times 13 and 19", t.x.apply(2, 0, 0, 3), true);
        Talk.due("size", t.x.size(3, 1), 279);
    }
}
