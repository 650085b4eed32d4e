/** Promises 14 to 18: PASSES and their ITEMS, what they make, which is to blame, and PROGRAMS CUT for them. */
public final class PassTest {
    public static void main(String[] args) {
        items();
        fold();
        dead();
        hastyDead();
        hastyCopy();
        unroll();
        ruleItems();
        fails();
        wrongMakes();
        blame();
        cut();
        cutEdges();
        Talk.close("PassTest");
    }

    private static void items() {
        Talk t = new Talk();
        t.item(0, 0, -1);
        t.rule("x->x", 0);
        t.item(0, 0, 1);
        t.item(0, 1, -1);
        t.item(0, -1, -1);
        t.item(0, 12, -1);
        t.item(0, 19, -1);
        t.item(0, 25, -1);
        t.item(-1, 20, -1);
        t.item(6, 20, -1);
        for (int n = 2; n <= 6; n++) t.item(0, 18 + n, n);
        t.item(0, 20, 7);
        t.item(0, 20, 8);
        t.item(0, 20, -1);
        t.item(1, 20, 1);
        Talk.due("clear(0)", t.x.clear(0), true);
        t.item(0, 24, 1);
        t.item(1, 24, 2);
        Talk.due("clear(2)", t.x.clear(2), true);
        Talk.due("clear(-1)", t.x.clear(-1), false);
        Talk.due("clear(6)", t.x.clear(6), false);
    }

    private static void fold() {
        Talk t = new Talk();
        t.makes(20, "", "");
        t.makes(20, "out 1+2*3;", "out 7;");
        t.makes(20, "out a+1+2;", "out a+1+2;");
        t.makes(20, "out a+(1+2)*(3-4);", "out a+13;");
        t.makes(20, "a=3-5;b=(2+2)*b;", "a=14;b=4*b;");
        t.makes(20, "if 1+1=2{out 1;}else{out 2;}", "out 1;");
        t.makes(20, "if 1>2{out 1;}else{out 2;fail;}", "out 2;fail;");
        t.makes(20, "out 0;if 1>2{out 1;}out 3;", "out 0;out 3;");
        t.makes(20, "if 1<2{}out 3;", "out 3;");
        t.makes(20, "while 1<1{out 1;while a<1{}}", "");
        t.makes(20, "while 1=1{out 2-3;}", "while 1=1{out 15;}");
        t.makes(20, "while 2>1+1{}fail;", "fail;");
        t.makes(20, "if a=a{out 1*1;}", "if a=a{out 1;}");
        t.makes(20, "if 1+a<2{}", "if 1+a<2{}");
        t.makes(20, "if 1<a{}while a>1{}", "if 1<a{}while a>1{}");
        t.makes(20, "if 1=1{if 2=2{out 3;}else{fail;}while 0>1{}if a<1{if 1<0{}else{c=1*1;}}}", "out 3;if a<1{c=1;}");
        t.makes(20, "if 1=2{if 2=2{out 3;}}else{while b<1{if 1<2{out 4;}else{out 5;}}}out 6;", "while b<1{out 4;}out 6;");
    }

    private static void dead() {
        Talk t = new Talk();
        t.makes(21, "a=1;a=2;out a;", "a=2;out a;");
        t.makes(21, "a=1;b=a;c=b;", "");
        t.makes(21, "a=1;fail;out a;", "fail;out a;");
        t.makes(21, "a=1;if b<1{fail;}else{fail;}out a;", "if b<1{fail;}else{fail;}out a;");
        t.makes(21, "a=1;if b<1{fail;}out a;", "a=1;if b<1{fail;}out a;");
        t.makes(21, "while b>0{c=b;b=b-1;}", "while b>0{b=b-1;}");
        t.makes(21, "c=3;while c>0{out d;d=c;c=c-1;}", "c=3;while c>0{out d;d=c;c=c-1;}");
        t.makes(21, "c=3;while c>0{d=c;out d;d=2;c=c-1;}", "c=3;while c>0{d=c;out d;c=c-1;}");
        t = new Talk();
        t.makes(21, "if a<1{c=1;}else{d=1;}out c;", "if a<1{c=1;}out c;");
        t.makes(21, "c=1;if a<1{c=2;}else{c=3;}out c;", "if a<1{c=2;}else{c=3;}out c;");
        t.makes(21, "while a<1{b=b+1;}", "while a<1{b=b+1;}");
        t.makes(21, "while a<1{b=c;c=d;d=1;}", "while a<1{}");
        t.makes(21, "fail;a=1;out a;", "fail;a=1;out a;");
        t.makes(21, "a=a;out a;", "a=a;out a;");
    }

    private static void hastyDead() {
        Talk t = new Talk();
        t.makes(22, "c=3;while c>0{out d;d=c;c=c-1;}", "c=3;while c>0{out d;}");
        t.makes(22, "a=1;a=2;out a;", "a=1;a=2;out a;");
        t.makes(22, "a=b;b=a;", "");
        t.makes(22, "a=1;fail;out a;", "a=1;fail;out a;");
        t.makes(22, "a=a+1;", "");
        t.makes(22, "a=1;if 1<a{}", "a=1;if 1<a{}");
        t.makes(22, "if a<1{a=1;}else{out a;}", "if a<1{a=1;}else{out a;}");
        t.makes(22, "if a<1{out a;}else{a=1;}", "if a<1{out a;}");
        t.makes(22, "a=b;c=a;d=c;out b;e=d;", "out b;");
    }

    private static void hastyCopy() {
        Talk t = new Talk();
        t.makes(23, "c=a;a=1;out c;", "c=a;a=1;out a;");
        t.makes(23, "c=a;c=c+c;out c;", "c=a;c=a+a;out c;");
        t.makes(23, "c=a;c=1;out c;", "c=a;c=1;out c;");
        t.makes(23, "c=a;out c;c=c+1;out c;", "c=a;out a;c=a+1;out c;");
        t.makes(23, "c=a;out c;if c<1{c=2;}", "c=a;out a;if c<1{c=2;}");
        t.makes(23, "c=a;if b<1{out c;}c=c*2;out c;", "c=a;if b<1{out a;}c=a*2;out c;");
        t.makes(23, "c=a;if c<1{out c;}else{d=c*c;}out c;", "c=a;if a<1{out a;}else{d=a*a;}out a;");
        t.makes(23, "c=a;out c;if c<1{c=2;}out c;", "c=a;out a;if c<1{c=2;}out c;");
        t.makes(23, "c=a;if 1<2{if c<1{}else{c=2;}}out c;", "c=a;if 1<2{if c<1{}else{c=2;}}out c;");
        t = new Talk();
        t.makes(23, "c=a;while c>0{out c;}out c;", "c=a;while a>0{out a;}out a;");
        t.makes(23, "c=a;while c>0{c=c-1;}out c;", "c=a;while c>0{c=c-1;}out c;");
        t.makes(23, "c=a;d=c;out d;", "c=a;d=a;out a;");
        t.makes(23, "c=a;a=c;out c;", "c=a;a=a;out a;");
        t.makes(23, "c=c;out c;", "c=c;out c;");
        t.makes(23, "c=a+0;out c;", "c=a+0;out c;");
        t.makes(23, "if 1<2{c=a;}out c;", "if 1<2{c=a;}out c;");
        t.makes(23, "if 1<2{c=a;out c;}else{out c;}", "if 1<2{c=a;out a;}else{out c;}");
        t = new Talk();
        t.makes(23, "while 1<2{c=a;if 3<4{out c;}}out c;", "while 1<2{c=a;if 3<4{out a;}}out c;");
        t.makes(23, "c=a;c=c;out c;", "c=a;c=a;out a;");
        t.makes(23, "a=b;b=c;out a+b;", "a=b;b=c;out c+c;");
        t.makes(23, "c=a;if 1<2{d=c;out d;}out c+d;", "c=a;if 1<2{d=a;out a;}out a+d;");
        t.makes(23, "out c;c=a;fail;out c;", "out c;c=a;fail;out a;");
    }

    private static void unroll() {
        Talk t = new Talk();
        t.makes(24, "out 1;", "out 1;");
        t.makes(24, "while a>0{out a;}", "if a>0{out a;while a>0{out a;}}");
        t.makes(24, "while a>0{while b>0{out 1;}}", "if a>0{while b>0{out 1;}while a>0{while b>0{out 1;}}}");
        t.makes(24, "if a>0{while b>0{}}else{while c>0{}fail;}", "if a>0{if b>0{while b>0{}}}else{if c>0{while c>0{}}fail;}");
        t.makes(24, "while 1<2{if a<1{while 2<3{}}}while a=1{b=1;}",
            "if 1<2{if a<1{while 2<3{}}while 1<2{if a<1{while 2<3{}}}}if a=1{b=1;while a=1{b=1;}}");
        t.x.clear(5);
        for (int n = 1; n <= 8; n++) t.item(5, 24, n);
        t.program(0, "while a>0{a=a-1;}", 2);
        Talk.due("make", t.x.make(5, 0, 1), 18);
        Talk.due("judge", t.x.judge(0, 1, 0), 0);
        t.program(0, "while a>0{}", 1);
        Talk.due("make", t.x.make(5, 0, 1), 9);
        Talk.due("make", t.x.make(5, 1, 1), 17);
        Talk.due("make", t.x.make(5, 1, 1), 25);
        Talk.due("make", t.x.make(5, 1, 1), 33);
        Talk.due("make beyond 40", t.x.make(5, 1, 2), -1);
        t.pass(4, 24);
        for (int n = 34; n <= 40; n++) Talk.due("make", t.x.make(4, 1, 1), n);
        Talk.due("make the 41st", t.x.make(4, 1, 1), -1);
        Talk.due("size", t.x.size(1, 0), 40);
        Talk.due("size", t.x.size(1, 3), 1);
        Talk.due("run", t.x.run(1, 0, 0, 1), 1);
        Talk.due("run", t.x.run(1, 1, 0, 0), 2);
        Talk.due("registers", t.x.registers(1, 0), 1);
        t.pass(3, 23);
        Talk.due("a nest of 40 copied", t.x.make(3, 1, 2), 40);
        t.pass(3, 20);
        Talk.due("a nest of 40 folded", t.x.make(3, 1, 2), 40);
    }

    private static void ruleItems() {
        Talk t = new Talk();
        t.rule("x+0->x", 0);
        t.rule("x+y->y+x", 1);
        t.rule("x->x+0", 2);
        t.rule("x*(y+z)->x*y+x*z", 3);
        t.rule("1->2", 4);
        t.makes(0, "out a+0+0;out (b+0)*(0+0);", "out a;out b*0;");
        t.makes(1, "out a+b;", "out a+b;");
        t.makes(3, "out a*(b+c*(d+e));", "out a*b+(a*(c*d)+a*(c*e));");
        t.makes(4, "a=1;if 1<b{out 1-1;}", "a=2;if 2<b{out 2-2;}");
        t.pass(0, 2);
        t.program(0, "out a;", 1);
        Talk.due("50 times", t.x.make(0, 0, 1), 1);
        Talk.due("size", t.x.size(1, 1), 101);
        t.item(0, 2, 2);
        Talk.due("100 times", t.x.make(0, 0, 1), 1);
        Talk.due("size", t.x.size(1, 1), 201);
        t.item(0, 0, 3);
        Talk.due("and back by 50", t.x.make(0, 0, 1), 1);
        Talk.due("size", t.x.size(1, 1), 101);
        t.x.clear(0);
        t.item(0, 4, 1);
        t.item(0, 20, 2);
        t.program(0, "if 1<2{out 1+1;}else{out 5;}", 3);
        Talk.due("ITEMS one behind the other", t.x.make(0, 0, 1), 1);
        t.row(1, 110, 5);
    }

    private static void fails() {
        Talk t = new Talk();
        t.rule("x->x+0", 0);
        t.rule("x+0->x", 1);
        t.rule("x->x+x", 2);
        t.program(1, "fail;", 1);
        t.program(0, "out a;", 1);
        t.item(0, 0, 1);
        t.item(0, 0, 2);
        t.item(0, 0, 3);
        t.item(0, 1, 4);
        Talk.due("fails on the way", t.x.make(0, 0, 1), -1);
        t.row(1, 111);
        t.program(0, "out a" + Talk.times("+0", 99) + ";", 1);
        t.pass(0, 0);
        Talk.due("to 299", t.x.make(0, 0, 1), 1);
        Talk.due("size", t.x.size(1, 1), 299);
        t.program(0, "out a" + Talk.times("+0", 100) + ";", 1);
        Talk.due("to 301", t.x.make(0, 0, 1), -1);
        t.program(0, "out a" + Talk.times("+0", 99) + ";out 0;", 2);
        Talk.due("to 300", t.x.make(0, 0, 1), 2);
        t.pass(0, 2);
        t.program(0, "out a;", 1);
        Talk.due("doubled", t.x.make(0, 0, 1), -1);
        t.pass(0, 24);
        t.program(0, "while a>0{" + Talk.times("a=a-1;", 19) + "}", 20);
        Talk.due("unrolled to 40", t.x.make(0, 0, 1), 40);
        t.program(0, "while a>0{" + Talk.times("a=a-1;", 19) + "}fail;", 21);
        Talk.due("unrolled to 41", t.x.make(0, 0, 2), -1);
        t.program(0, "while a>0{out b" + Talk.times("+1", 73) + ";out 1;}", 3);
        Talk.due("EXPRESSIONS", t.x.size(0, 1), 150);
        Talk.due("unrolled to 300", t.x.make(0, 0, 1), 6);
        Talk.due("EXPRESSIONS", t.x.size(1, 1), 300);
        t.program(0, "while a>0{out b" + Talk.times("+1", 74) + ";}", 2);
        Talk.due("unrolled to 302", t.x.make(0, 0, 2), -1);
        t.row(2);
        t.item(0, 20, 2);
        t.program(0, "while 1>2{" + Talk.times("a=a-1;", 30) + "}", 31);
        Talk.due("fails ahead of FOLD", t.x.make(0, 0, 2), -1);
        // What makes the largest row on the way: 40 STATEMENTS and 300 EXPRESSIONS, unrolled.
        t.program(0, Talk.times("if 1<a{", 6) + "while a<1{" + Talk.times("if a<1{}", 32) + "out 2" + Talk.times("+3", 110) + ";}"
            + Talk.times("}", 6), 40);
        Talk.due("EXPRESSIONS", t.x.size(0, 1), 299);
        Talk.due("far too large", t.x.make(0, 0, 2), -1);
    }

    private static void wrongMakes() {
        Talk t = new Talk();
        t.program(0, "out 1;", 1);
        Talk.due("no such PASS", t.x.make(6, 0, 1), -1);
        Talk.due("no such PASS", t.x.make(-1, 0, 1), -1);
        Talk.due("no such SLOT", t.x.make(0, 6, 1), -1);
        Talk.due("no such SLOT", t.x.make(0, -1, 1), -1);
        Talk.due("no such SLOT", t.x.make(0, 0, 6), -1);
        Talk.due("no such SLOT", t.x.make(0, 0, -1), -1);
        t.row(1);
        Talk.due("a PASS without ITEMS", t.x.make(0, 0, 1), 1);
        t.row(1, 110, 1);
        Talk.due("into itself", t.x.make(0, 1, 1), 1);
        t.row(1, 110, 1);
    }

    private static void blamed(Talk t, String text, int pass, int inputs) {
        t.tape(text);
        t.x.program(0);
        Talk.due("blame of " + text, t.x.blame(0, 0), pass);
        Talk.due("INPUTS of blame of " + text, t.x.blame(0, 1), inputs);
        Talk.due("blame(0, 2)", t.x.blame(0, 2), -1);
        Talk.due("blame(0, -1)", t.x.blame(0, -1), -1);
    }

    private static void blame() {
        Talk t = new Talk();
        blamed(t, "out a;", -1, -1);
        t.rule("x*x->x", 0);
        t.rule("x->x+x", 1);
        t.rule("x+1->x+2", 2);
        t.rule("x+2->x+1", 3);
        t.pass(1, 20);
        t.pass(2, 23);
        t.pass(4, 22);
        t.pass(5, 0);
        blamed(t, "out 1+2;", -1, -1);
        blamed(t, "c=a;a=1;out c;", 2, 0);
        blamed(t, "c=b;b=1;if a=3{out c;}", 2, 48);
        blamed(t, "while b>c{out d;d=7;c=c+1;}", 4, 2);
        blamed(t, "out a*a;", 5, 32);
        blamed(t, "out b*b;", 5, 2);
        // FOLD of pass 1 comes ahead of pass 5, and leaves it nothing to be wrong with.
        blamed(t, "out 3*3;", -1, -1);
        blamed(t, "while 0<1{}", -1, -1);
        t.pass(3, 1);
        blamed(t, "out a*a;", 3, -1);
        blamed(t, "c=a;a=1;out c;", 2, 0);
        // Two wrong ones that mend each other: the first is to blame, against the PROGRAM ahead of it.
        t.pass(0, 2);
        t.pass(1, 3);
        blamed(t, "out b+1;", 0, 0);
        t.x.clear(0);
        t.pass(1, 24);
        t.pass(3, 20);
        t.x.clear(4);
        blamed(t, "while a>0{out a;a=a-1;}", -1, -1);
        blamed(t, "while a>0{out a;}", -1, -1);
        Talk.due("no such SLOT", t.x.blame(6, 0), -1);
        Talk.due("no such SLOT", t.x.blame(-1, 0), -1);
    }

    private static void cutTo(int item, String text, String want) {
        Talk t = new Talk();
        t.rule("x*x->x", 0);
        t.item(2, item, 1);
        t.tape(want);
        int n = t.x.program(1);
        t.tape(text);
        t.x.program(0);
        Talk.due("cut of " + text, t.x.cut(2, 0, 3), n);
        Talk.due("size of what is cut of " + text, t.x.size(3, 2), t.x.size(1, 2));
        for (int k = 0; k < t.x.size(1, 2); k++) Talk.due("at(3, " + k + ") of what is cut of " + text, t.x.at(3, k), t.x.at(1, k));
    }

    private static void cut() {
        cutTo(23, "c=a;a=1;out c;out a;", "c=a;a=1;out c;");
        cutTo(0, "out a*a;out b*b;", "out b*b;");
        cutTo(0, "out a*a;out 1;", "out a*a;");
        cutTo(0, "while 0<1{out a*a;fail;}", "while 0<1{out a*a;}");
        cutTo(0, "if 1<2{out a*a;}", "if 1<2{out a*a;}");
        cutTo(0, "if 1<2{out a*a;}else{out 1;}out 2;", "if 1<2{out a*a;}");
        cutTo(0, "b=a*a;d=3;if b=4{out d;}", "b=a*a;if b=4{out d;}");
        cutTo(22, "c=3;while c>0{out d;d=c;c=c-1;}", "c=3;while c>0{out d;d=c;}");
        cutTo(22, "while a>0{out a;a=a-1;}", "while a>0{out a;a=a-1;}");
        cutTo(0, Talk.times("out 1;", 11) + "out a*a;", "out a*a;");
    }

    private static void cutEdges() {
        Talk t = new Talk();
        t.rule("x*x->x", 0);
        t.rule("x->x+x", 1);
        t.pass(0, 0);
        t.program(0, Talk.times("out 1;", 12) + "out a*a;", 13);
        t.program(1, "fail;", 1);
        Talk.due("13 STATEMENTS", t.x.cut(0, 0, 1), -1);
        t.program(0, "", 0);
        Talk.due("no STATEMENT", t.x.cut(0, 0, 1), -1);
        t.program(0, "out a+a;", 1);
        Talk.due("RIGHT", t.x.cut(0, 0, 1), -1);
        t.program(0, "while 0<1{c=a*a;}", 2);
        Talk.due("UNPROVED", t.x.cut(0, 0, 1), -1);
        t.pass(1, 1);
        Talk.due("FAILS", t.x.cut(1, 0, 1), -1);
        Talk.due("no ITEMS", t.x.cut(2, 0, 1), -1);
        t.program(0, "out a*a;", 1);
        Talk.due("no such PASS", t.x.cut(6, 0, 1), -1);
        Talk.due("no such PASS", t.x.cut(-1, 0, 1), -1);
        Talk.due("no such SLOT", t.x.cut(0, 6, 1), -1);
        Talk.due("no such SLOT", t.x.cut(0, -1, 1), -1);
        Talk.due("no such SLOT", t.x.cut(0, 0, 6), -1);
        Talk.due("no such SLOT", t.x.cut(0, 0, -1), -1);
        t.row(1, 111);
        Talk.due("into itself", t.x.cut(0, 0, 0), 1);
        t.row(0, 110, 122, 20, 20);
    }
}
