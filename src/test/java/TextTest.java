/** Promises 1 to 8: a new object, the TAPE, what is read from it and how it is told. */
public final class TextTest {
    public static void main(String[] args) {
        newObject();
        feedAndEnd();
        programs();
        tokens();
        capitals();
        programFaults();
        limits();
        eightHundredTokens();
        faultsAtOnePlace();
        rules();
        ruleFaults();
        rows();
        sizes();
        Talk.close("TextTest");
    }

    private static void newObject() {
        SameAfter x = new SameAfter();
        Talk.due("NONE", SameAfter.NONE, -1);
        Talk.due("fault(0)", x.fault(0), 0);
        Talk.due("fault(1)", x.fault(1), -1);
        for (int s = 0; s < 6; s++) {
            for (int what = 0; what < 4; what++) Talk.due("size", x.size(s, what), 0);
            Talk.due("at", x.at(s, 0), -1);
            Talk.due("registers", x.registers(s, 0), 0);
            Talk.due("make", x.make(s, s, s), 0);
            Talk.due("cut", x.cut(s, s, s), -1);
            Talk.due("blame", x.blame(s, 0), -1);
        }
        Talk.due("places", x.places(0, 0), -1);
        Talk.due("ruleOf", x.ruleOf(0, 0), -2);
        Talk.due("item", x.item(0, 0), -1);
        Talk.due("program of an empty TAPE", x.program(0), 0);
        Talk.due("rule of an empty TAPE", x.rule(), -1);
        Talk.due("fault", x.fault(0), 1);
        Talk.due("its place", x.fault(1), 0);
    }

    private static void feedAndEnd() {
        Talk t = new Talk();
        for (int n = 1; n <= 40; n++) Talk.due("feed " + n, t.x.feed(0, 0, 0, 0, 0), 20 * n);
        Talk.due("feed beyond 800", t.x.feed(0, 0, 0, 0, 0), -1);
        Talk.due("end(801)", t.x.end(801), false);
        Talk.due("end(-1)", t.x.end(-1), false);
        Talk.due("end(800)", t.x.end(800), true);
        Talk.due("end(781)", t.x.end(781), true);
        Talk.due("feed that would be 801", t.x.feed(0, 0, 0, 0, 0), -1);
        Talk.due("end(782)", t.x.end(782), false);
        Talk.due("end(780)", t.x.end(780), true);
        Talk.due("feed to 800", t.x.feed(0, 0, 0, 0, 0), 800);
        Talk.due("end(0)", t.x.end(0), true);
        Talk.due("end(0)", t.x.end(0), true);
        Talk.due("end(1)", t.x.end(1), false);
        // The highest byte of each number is the first: "out " "1;  " and so on.
        Talk.due("feed", t.x.feed(0x6f757420, 0x313b6f75, 0x7420323b, 0x6f757420, 0x333b2020), 20);
        Talk.due("program", t.x.program(0), 3);
        t.row(0, 110, 1, 110, 2, 110, 3);
        Talk.due("feed (the TAPE was empty)", t.x.feed(-1, -1, -1, -1, -1), 20);
        Talk.due("program of bytes 255", t.x.program(0), -1);
        t.faultIs("bytes 255", 1, 0);
        t.row(0, 110, 1, 110, 2, 110, 3);
        Talk.due("feed (empty behind a FAULT)", t.x.feed(0x61000000, 0, 0, 0, 0), 20);
        Talk.due("rule", t.x.rule(), -1);
        Talk.due("feed (empty behind rule())", t.x.feed(0, 0, 0, 0, 0), 20);
    }

    private static void programs() {
        Talk t = new Talk();
        t.goodProgram("", 0);
        t.goodProgram(" \n ", 0);
        t.goodProgram("a=1;", 1);
        t.row(0, 100, 1);
        t.goodProgram("fail;f=0015;", 2);
        t.row(0, 111, 105, 15);
        t.goodProgram("if1<2{}", 1);
        t.row(0, 112, 130, 1, 2, 113, 114);
        t.goodProgram("if a=b{out c;}else{fail;d=e;}", 4);
        t.row(0, 112, 131, 20, 21, 110, 22, 113, 111, 103, 24, 114);
        t.goodProgram("while\na > ( 1 ) { while 0<1 { } }", 2);
        t.row(0, 115, 132, 20, 1, 115, 130, 0, 1, 114, 114);
        t.goodProgram("if 1=1{if 2=2{}}else{}", 2);
        t.row(0, 112, 131, 1, 1, 112, 131, 2, 2, 113, 114, 113, 114);
        t.goodProgram("out a-b-c;", 1);
        t.row(0, 110, 121, 121, 20, 21, 22);
        t.goodProgram("out a-(b-c);", 1);
        t.row(0, 110, 121, 20, 121, 21, 22);
        t.goodProgram("out a*b*c+1-d*e;", 1);
        t.row(0, 110, 121, 120, 122, 122, 20, 21, 22, 1, 122, 23, 24);
        t.goodProgram("out (a+b)*(c-d)*((e));", 1);
        t.row(0, 110, 122, 122, 120, 20, 21, 121, 22, 23, 24);
        t.goodProgram("out ((1+2)*3+4)*5;", 1);
        t.row(0, 110, 122, 120, 122, 120, 1, 2, 3, 4, 5);
        t.program(6, "out 9;", -1);
        t.faultIs("no such SLOT", 0, -1);
        t.program(-1, "what?", -1);
        t.faultIs("no such SLOT", 0, -1);
        t.badProgram("out ;", 1, 4);
        t.program(6, "out 9;", -1);
        t.faultIs("no such SLOT", 0, -1);
        Talk.due("feed (the TAPE was empty)", t.x.feed(0, 0, 0, 0, 0), 20);
        Talk.due("end(0)", t.x.end(0), true);
        t.program(5, "out 9;", 1);
        t.row(5, 110, 9);
    }

    private static void tokens() {
        Talk t = new Talk();
        t.badProgram("outa;", 1, 0);
        t.badProgram("o=1;", 1, 0);
        t.badProgram("aa=1;", 1, 0);
        t.badProgram("a=bc;", 1, 2);
        t.badProgram("a=00001;", 1, 2);
        t.badProgram("a=9999;", 2, 2);
        t.badProgram("a=10000;", 1, 2);
        t.badProgram("a=1 6;", 1, 4);
        t.badProgram("a=1b;", 1, 3);
        t.badProgram("a=1\t;", 1, 3);
        t.badProgram("a=1\r\n;", 1, 3);
        t.badProgram("a=1;#", 1, 4);
        t.badProgram("a=A;", 1, 2);
        t.badProgram("a=x;", 1, 2);
        t.badProgram("a=1->2;", 1, 4);
        t.badProgram("a=b==c;", 1, 3);
        t.badProgram("a=\u00e9;", 1, 2);
        t.goodProgram("a\n=\n1\n;\n", 1);
    }

    /** Small and capital letters that stand together are one TOKEN; its FAULT is told where it begins. */
    private static void capitals() {
        Talk t = new Talk();
        Talk.due("feed", t.x.feed(1631723552, 0, 0, 0, 0), 20);
        Talk.due("program(0) of aB and zeros", t.x.program(0), -1);
        t.faultIs("aB and zeros", 1, 0);
        t.badProgram("A=1;", 1, 0);
        t.badProgram("F", 1, 0);
        t.badProgram("Z=1;", 1, 0);
        t.badProgram("aA=1;", 1, 0);
        t.badProgram("Aa=1;", 1, 0);
        t.badProgram("aZ=1;", 1, 0);
        t.badProgram("a A=1;", 1, 2);
        t.badProgram("a@=1;", 1, 1);
        t.badProgram("a[=1;", 1, 1);
        t.badProgram("a`=1;", 1, 1);
        t.badProgram("a|=1;", 1, 1);
        t.badProgram("a\u00c9=1;", 1, 1);
        t.badProgram("a=bC;", 1, 2);
        t.badProgram("a=Cb;", 1, 2);
        t.badProgram("a=1B;", 1, 3);
        t.badProgram("a=1;outA 1;", 1, 4);
        t.badProgram("a=1;OUT 1;", 1, 4);
        t.badProgram("Out 1;", 1, 0);
        t.badProgram("out aBc;", 1, 4);
        t.badProgram("failX;", 1, 0);
        t.badProgram("fail X;", 1, 5);
        t.badProgram("fail;X", 1, 5);
        t.badProgram("ifA<1{}", 1, 0);
        t.badProgram("if aB<1{}", 1, 3);
        t.badProgram("if a<1{}elseE{}", 1, 8);
        t.badProgram("whilE 1<2{}", 1, 0);
        t.badProgram(Talk.times("fail;", 40) + "aB", 1, 200);
        t.badProgram("a=1" + Talk.times("+1", 149) + ";b=3;c=cD;", 1, 308);
        t.badRule("xY->x", 1, 0);
        t.badRule("X->x", 1, 0);
        t.badRule("x->xX", 1, 3);
        t.badRule("x+yZ->x", 1, 2);
        t.badRule("x+1A->x", 1, 3);
        t.badRule("x->yA", 1, 3);
        t.badRule("x" + Talk.times("+1", 19) + "->xX", 1, 41);
    }

    private static void programFaults() {
        Talk t = new Talk();
        t.badProgram("a", 1, 1);
        t.badProgram("a  ", 1, 3);
        t.badProgram("a=", 1, 2);
        t.badProgram("a=;", 1, 2);
        t.badProgram("a=1", 1, 3);
        t.badProgram("a=1+", 1, 4);
        t.badProgram("a=1+;", 1, 4);
        t.badProgram("a=+1;", 1, 2);
        t.badProgram("a=-1;", 1, 2);
        t.badProgram("a=();", 1, 3);
        t.badProgram("a=(1;", 1, 4);
        t.badProgram("a=1);", 1, 3);
        t.badProgram("a=(1}", 1, 4);
        t.badProgram("a=(1<2);", 1, 4);
        t.badProgram("a=1<2;", 1, 3);
        t.badProgram("1=a;", 1, 0);
        t.badProgram(";", 1, 0);
        t.badProgram("{}", 1, 0);
        t.badProgram("}", 1, 0);
        t.badProgram("a=1;}", 1, 4);
        t.badProgram("fail", 1, 4);
        t.badProgram("fail 1;", 1, 5);
        t.badProgram("out;", 1, 3);
        t.badProgram("else{}", 1, 0);
        t.badProgram("if 1<2 1;", 1, 7);
        t.badProgram("if 1<2;", 1, 6);
        t.badProgram("if 1{}", 1, 4);
        t.badProgram("if 1<2<3{}", 1, 6);
        t.badProgram("if (1<2){}", 1, 5);
        t.badProgram("if 1<(2{}", 1, 7);
        t.badProgram("if 1<2{", 1, 7);
        t.badProgram("if 1<2{}else", 1, 12);
        t.badProgram("if 1<2{}else fail;", 1, 13);
        t.badProgram("if 1<2{}else{", 1, 13);
        t.badProgram("if 1<2{}else{}else{}", 1, 14);
        t.badProgram("if 1<2{}a=1;else{}", 1, 12);
        t.badProgram("while 1<2{}else{}", 1, 11);
        t.badProgram("while 1<2{fail;", 1, 15);
        t.badProgram("a=16;", 2, 2);
        t.badProgram("a=16", 2, 2);
        t.badProgram("a=16;}", 2, 2);
        t.badProgram("a=1;}a=16;", 1, 4);
        Talk.due("fault(-1)", t.x.fault(-1), -1);
        Talk.due("fault(2)", t.x.fault(2), -1);
        t.goodProgram("a=15;", 1);
        t.badProgram("out 1;out", 1, 9);
        t.row(0, 100, 15);
    }

    private static void limits() {
        Talk t = new Talk();
        t.goodProgram(Talk.times("fail;", 40), 40);
        t.badProgram(Talk.times("fail;", 40) + " a", 3, 201);
        t.goodProgram(Talk.times("if 1<2{", 8) + Talk.times("}", 8) + Talk.times("fail;", 32), 40);
        t.badProgram("if 1<2{" + Talk.times("fail;", 39) + "out 1;}", 3, 202);
        t.badProgram("if 1<2{}else{" + Talk.times("fail;", 39) + "while", 3, 208);
        t.goodProgram("a=" + Talk.times("(", 8) + "1" + Talk.times(")", 8) + ";", 1);
        t.badProgram("a=" + Talk.times("(", 9) + "1" + Talk.times(")", 9) + ";", 3, 10);
        t.goodProgram("a=" + Talk.times("(1)+", 20) + "1;", 1);
        t.badProgram(Talk.times("if 1<2{", 8) + "a=(1);", 3, 58);
        t.badProgram(Talk.times("if 1<2{", 7) + "a=((1));", 3, 52);
        t.badProgram(Talk.times("if 1<2{", 8) + "}else{if 1<2{", 3, 68);
        t.badProgram(Talk.times("while 1<2{", 8) + "while 1<(", 3, 88);
        t.goodProgram(Talk.times("while 1<2{", 8) + Talk.times("}", 8), 8);
        t.goodProgram("a=1" + Talk.times("+1", 149) + ";b=3;", 2);
        Talk.due("size(0, 1)", t.x.size(0, 1), 300);
        t.badProgram("a=1" + Talk.times("+1", 149) + ";b=3;c=c;", 3, 308);
        t.badProgram("a=1" + Talk.times("+1", 149) + ";b=3+1;", 3, 305);
        t.badProgram("a=1" + Talk.times("+1", 149) + ";if a<1{}", 3, 307);
    }

    /** As many TOKENS as the TAPE has bytes. */
    private static void eightHundredTokens() {
        Talk t = new Talk();
        String part = Talk.times("(", 8) + "1" + Talk.times(")", 8) + "+";
        t.badProgram("a=" + Talk.times(part, 44) + "((1))+", 1, 800);
        t.goodProgram("a=" + Talk.times(part, 44) + "((1));", 1);
        Talk.due("size(0, 1)", t.x.size(0, 1), 89);
        Talk.due("run", t.x.run(0, 0, 0, 10), 45 & 15);
        t.badRule(Talk.times(" ", 800), 1, 800);
    }

    private static void faultsAtOnePlace() {
        Talk t = new Talk();
        String full = "a=1" + Talk.times("+1", 149) + ";b=3;";
        t.badProgram(full + "c=16;", 2, 308);
        t.badProgram(full + "c=(;", 1, 309);
        t.badProgram(full + "c=g;", 1, 308);
        t.badProgram(full + "c=;", 1, 308);
        t.badProgram(full + "c=c", 3, 308);
        t.badProgram(Talk.times("fail;", 40) + "g", 1, 200);
        t.badProgram(Talk.times("fail;", 40) + "else", 1, 200);
        t.badProgram(Talk.times("fail;", 40) + "}", 1, 200);
        t.badProgram(Talk.times("fail;", 40) + "if", 3, 200);
        t.badProgram("a=" + Talk.times("(", 8) + "{", 1, 10);
        t.badProgram("a=" + Talk.times("(", 8) + "1(", 1, 11);
        t.badProgram("a 16;", 1, 2);
    }

    private static void rules() {
        Talk t = new Talk();
        t.rule("x->x", 0);
        t.rule(" x\n+ 0 -> x ", 1);
        t.rule("1->2", 2);
        t.rule("z*(y-x)->((z))", 3);
        t.rule("x" + Talk.times("+1", 19) + "->x", 4);
        t.rule("x->x" + Talk.times("+x", 19), 5);
        t.rule(Talk.times("(", 8) + "x" + Talk.times(")", 8) + "->" + Talk.times("(", 8) + "x" + Talk.times(")", 8), 6);
        t.badRule("x", 1, 1);
        for (int r = 7; r < 12; r++) t.rule("x-" + r + "->x", r);
        t.rule("x->x", -1);
        t.faultIs("the 13th RULE", 0, -1);
        t.badProgram("out ;", 1, 4);
        t.rule("?", -1);
        t.faultIs("the 13th RULE", 0, -1);
        Talk.due("feed (the TAPE was empty)", t.x.feed(0, 0, 0, 0, 0), 20);
        Talk.due("ruleOf(11, 0)", t.x.ruleOf(11, 0), 0);
        Talk.due("ruleOf(12, 0)", t.x.ruleOf(12, 0), -2);
    }

    private static void ruleFaults() {
        Talk t = new Talk();
        t.badRule("", 1, 0);
        t.badRule("  ", 1, 2);
        t.badRule("->x", 1, 0);
        t.badRule("x->", 1, 3);
        t.badRule("x-", 1, 2);
        t.badRule("x- >x", 1, 3);
        t.badRule("x>x", 1, 1);
        t.badRule("x-->x", 1, 2);
        t.badRule("x->x->x", 1, 4);
        t.badRule("x->x;", 1, 4);
        t.badRule("x->x)", 1, 4);
        t.badRule("(x->x)", 1, 2);
        t.badRule("x->(x", 1, 5);
        t.badRule("x=x", 1, 1);
        t.badRule("a->a", 1, 0);
        t.badRule("w->w", 1, 0);
        t.badRule("xy->x", 1, 0);
        t.badRule("x->a", 1, 3);
        t.badRule("x->out", 1, 3);
        t.badRule("x->y", 2, 3);
        t.badRule("x+y->x+y*z", 2, 9);
        t.badRule("x->16", 2, 3);
        t.badRule("17->x", 2, 0);
        t.badRule("x->00001", 1, 3);
        t.badRule("x" + Talk.times("+1", 20) + "->x", 3, 40);
        t.badRule("x" + Talk.times("+1", 19) + "+", 1, 40);
        t.badRule("x->x" + Talk.times("+x", 19) + "+1", 3, 42);
        t.badRule("x" + Talk.times("+1", 19) + "->x+1", 3, 42);
        t.badRule("x" + Talk.times("+1", 18) + "*1->x*y", 3, 42);
        t.badRule(Talk.times("(", 9) + "x", 3, 8);
        t.badRule("x->" + Talk.times("(", 9), 3, 11);
        t.badRule("x->x" + Talk.times("+x", 18) + "+(x)+y", 3, 44);
        t.badRule("x+1" + Talk.times("+x", 18) + "->y", 2, 41);
        t.badRule("x+x" + Talk.times("+x", 18) + "->x+y", 3, 42);
        // At one place the least: the 41st is too large a NUMBER.
        t.badRule("x" + Talk.times("+1", 19) + "+16", 2, 40);
        t.rule("x->x", 0);
    }

    private static void rows() {
        Talk t = new Talk();
        t.program(2, "a=b;", 1);
        Talk.due("at(2, -1)", t.x.at(2, -1), -1);
        Talk.due("at(2, 2)", t.x.at(2, 2), -1);
        Talk.due("at(6, 0)", t.x.at(6, 0), -1);
        Talk.due("at(-1, 0)", t.x.at(-1, 0), -1);
        Talk.due("at(2, most)", t.x.at(2, Integer.MAX_VALUE), -1);
        Talk.due("at(2, least)", t.x.at(2, Integer.MIN_VALUE), -1);
        t.row(2, 100, 21);
    }

    private static void size(Talk t, String text, int statements, int expressions, int numbers, int live) {
        t.program(1, text, statements);
        Talk.due("size(1, 0) of " + text, t.x.size(1, 0), statements);
        Talk.due("size(1, 1) of " + text, t.x.size(1, 1), expressions);
        Talk.due("size(1, 2) of " + text, t.x.size(1, 2), numbers);
        Talk.due("size(1, 3) of " + text, t.x.size(1, 3), live);
    }

    private static void sizes() {
        Talk t = new Talk();
        size(t, "", 0, 0, 0, 0);
        size(t, "out a*(b+2);", 1, 5, 6, 3);
        size(t, "a=1;out a;", 2, 2, 4, 0);
        size(t, "a=a+f;", 1, 3, 4, 33);
        size(t, "if c<1{a=2;}out a;", 3, 4, 10, 5);
        size(t, "if c<1{a=2;}else{a=3;}out a;", 4, 5, 12, 4);
        size(t, "if c<1{a=2;}else{fail;}out a;", 4, 4, 11, 4);
        size(t, "while c<1{out d;d=e;}", 3, 4, 9, 28);
        size(t, "while c<1{d=e;out d;}", 3, 4, 9, 20);
        size(t, "while c<1{d=1;}out d;", 3, 4, 9, 12);
        size(t, "fail;out a;", 2, 1, 3, 0);
        size(t, "while b<1{fail;}out a;", 3, 3, 8, 3);
        size(t, "while b<1{while c<1{out d;c=a;}d=f;}", 5, 7, 16, 47);
        Talk.due("size(1, -1)", t.x.size(1, -1), -1);
        Talk.due("size(1, 4)", t.x.size(1, 4), -1);
        Talk.due("size(6, 0)", t.x.size(6, 0), -1);
        Talk.due("size(-1, 3)", t.x.size(-1, 3), -1);
    }
}
