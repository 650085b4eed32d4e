/**
 * Promises 1 to 8, and what part 1 of the Terms says of texts and rows, at their edges.
 * Each method is for one sentence of the document, which stands above it.
 */
public final class EdgeTextTest {
    public static void main(String[] args) {
        newObject();
        objectsApart();
        feedOrder();
        feedCounts();
        feedBeyond();
        endShortens();
        endRefused();
        programTakesTape();
        programCounts();
        programNoSlot();
        programFault();
        ruleNumbers();
        ruleTwelve();
        ruleFault();
        faultOfLatest();
        faultWithout();
        faultWhat();
        slots();
        grammar();
        letters();
        digits();
        blanks();
        firstByte();
        operandByte();
        ruleByte();
        everyByteBehind();
        firstByPlace();
        leastAtPlace();
        theEnd();
        aboveFifteen();
        fortyFirst();
        ninthOpen();
        openAgain();
        threeHundredFirst();
        setsDoNotCount();
        rowNumbers();
        rowElse();
        rowLeft();
        largestRow();
        mostTokens();
        atEdges();
        sizeCounts();
        sizeRefused();
        Talk.close("EdgeTextTest");
    }

    private static final int[] NO_SLOTS = {Integer.MIN_VALUE, -1, 6, 7, Integer.MAX_VALUE};
    private static final String FULL_STATEMENTS = Talk.times("fail;", 40);
    /** 300 NUMBERS, VARIABLES and operations. */
    private static final String FULL_THINGS = "a=1" + Talk.times("+1", 149) + ";b=3;";

    /** "Empty SLOTS, no RULES." */
    private static void newObject() {
        SameAfter x = new SameAfter();
        for (int s = 0; s < 6; s++) {
            for (int what = 0; what < 4; what++) Talk.due("size(" + s + ", " + what + ")", x.size(s, what), 0);
            Talk.due("at(" + s + ", 0)", x.at(s, 0), -1);
            Talk.due("run(" + s + ", 15, 15, 1)", x.run(s, 15, 15, 1), 0);
        }
        for (int r = 0; r < 12; r++) {
            Talk.due("ruleOf(" + r + ", 0)", x.ruleOf(r, 0), -2);
            Talk.due("places(" + r + ", 0)", x.places(r, 0), -1);
            Talk.due("item(0, " + r + ")", x.item(0, r), -1);
        }
        Talk.due("end(1) of an empty TAPE", x.end(1), false);
        Talk.due("fault(0)", x.fault(0), 0);
        Talk.due("fault(1)", x.fault(1), -1);
    }

    /** "Empty SLOTS, no RULES": of a new object, whatever was done with another one. */
    private static void objectsApart() {
        Talk one = new Talk();
        one.program(0, "out 1;", 1);
        one.rule("x->x", 0);
        one.item(0, 24, 1);
        one.tape("out 2;");
        Talk other = new Talk();
        Talk.due("size of the other", other.x.size(0, 0), 0);
        Talk.due("ruleOf of the other", other.x.ruleOf(0, 0), -2);
        Talk.due("end of the other", other.x.end(1), false);
        other.item(0, 20, 1);
        other.program(0, "fail;out 3;", 2);
        one.row(0, 110, 1);
        one.item(0, 24, 2);
        Talk.due("program of what was fed", one.x.program(0), 1);
        one.row(0, 110, 2);
    }

    private static int[] blankNumbers() {
        return new int[] {0x20202020, 0x20202020, 0x20202020, 0x20202020, 0x20202020};
    }

    /** "Twenty bytes come behind the TAPE, of each number the highest first". */
    private static void feedOrder() {
        for (int place = 0; place < 20; place++) {
            Talk t = new Talk();
            int[] five = blankNumbers();
            int shift = 24 - place % 4 * 8;
            five[place / 4] = five[place / 4] & ~(255 << shift) | 255 << shift;
            Talk.due("feed", t.x.feed(five[0], five[1], five[2], five[3], five[4]), 20);
            Talk.due("program", t.x.program(0), -1);
            t.faultIs("byte 255 at " + place, 1, place);
        }
        Talk t = new Talk();
        t.x.feed(0x6f757420, 0x613b6f75, 0x7420623b, 0x6f757420, 0x633b6f75);
        t.x.feed(0x7420643b, 0x6f757420, 0x653b6f75, 0x7420663b, 0x20202020);
        Talk.due("program of two feeds", t.x.program(0), 6);
        t.row(0, 110, 20, 110, 21, 110, 22, 110, 23, 110, 24, 110, 25);
    }

    /** "Twenty bytes come behind the TAPE ..: how many it has." */
    private static void feedCounts() {
        Talk t = new Talk();
        Talk.due("feed", t.x.feed(0, 0, 0, 0, 0), 20);
        Talk.due("feed", t.x.feed(-1, -1, -1, -1, -1), 40);
        Talk.due("end(7)", t.x.end(7), true);
        Talk.due("feed", t.x.feed(Integer.MIN_VALUE, Integer.MAX_VALUE, 1, 0, -1), 27);
        Talk.due("end(27)", t.x.end(27), true);
        Talk.due("end(28)", t.x.end(28), false);
    }

    /** "NONE, and nothing comes, if there would be more than 800." */
    private static void feedBeyond() {
        for (int begin = 0; begin <= 20; begin++) {
            Talk t = new Talk();
            for (int n = 1; n <= 40; n++) Talk.due("feed " + n, t.x.feed(0x20202020, 0x20202020, 0x20202020, 0x20202020, 0x20202020), 20 * n);
            Talk.due("end(" + (780 + begin) + ")", t.x.end(780 + begin), true);
            Talk.due("feed behind " + (780 + begin), t.x.feed(-1, -1, -1, -1, -1), begin == 0 ? 800 : -1);
            int length = begin == 0 ? 800 : 780 + begin;
            Talk.due("end(" + (length + 1) + ")", t.x.end(length + 1), false);
            Talk.due("end(" + length + ")", t.x.end(length), true);
            // Blanks alone are a PROGRAM; one of the refused bytes would be a FAULT.
            Talk.due("program", t.x.program(0), begin == 0 ? -1 : 0);
            t.faultIs("behind " + (780 + begin), begin == 0 ? 1 : 0, begin == 0 ? 780 : -1);
        }
    }

    /** "The TAPE has its first n bytes alone: true". */
    private static void endShortens() {
        for (int n = 0; n <= 20; n++) {
            Talk t = new Talk();
            // "fail;fail;fail;fail;"
            t.x.feed(0x6661696c, 0x3b666169, 0x6c3b6661, 0x696c3b66, 0x61696c3b);
            Talk.due("end(" + n + ")", t.x.end(n), true);
            Talk.due("program of " + n + " bytes", t.x.program(0), n % 5 == 0 ? n / 5 : -1);
            // "f" and "fail" can stand there, and the end behind them can't; "fa" and "fai" can't.
            boolean endIsIt = n % 5 == 1 || n % 5 == 4;
            t.faultIs(n + " bytes", n % 5 == 0 ? 0 : 1, n % 5 == 0 ? -1 : endIsIt ? n : n / 5 * 5);
        }
        Talk t = new Talk();
        Talk.due("end(0) of an empty TAPE", t.x.end(0), true);
        t.tape("out 1;fail;");
        Talk.due("end(11) of 11", t.x.end(11), true);
        Talk.due("end(6) of 11", t.x.end(6), true);
        Talk.due("end(7) of 6", t.x.end(7), false);
        Talk.due("program", t.x.program(0), 1);
    }

    /** "false, changing nothing, if it has not so many, or n is below 0." */
    private static void endRefused() {
        int[] wrong = {Integer.MIN_VALUE, -21, -20, -1, 21, 800, 801, Integer.MAX_VALUE};
        Talk t = new Talk();
        t.x.feed(0x6f757420, 0x313b2020, 0x20202020, 0x20202020, 0x20202020);
        for (int n : wrong) Talk.due("end(" + n + ") of 20", t.x.end(n), false);
        Talk.due("end(20) of 20", t.x.end(20), true);
        Talk.due("program", t.x.program(0), 1);
        t.row(0, 110, 1);
        Talk.due("end(1) of an empty TAPE", t.x.end(1), false);
        Talk.due("end(-1) of an empty TAPE", t.x.end(-1), false);
        Talk.due("feed", t.x.feed(0, 0, 0, 0, 0), 20);
    }

    private static void tapeIsEmpty(Talk t, String behind) {
        Talk.due("end(1) behind " + behind, t.x.end(1), false);
        Talk.due("feed behind " + behind, t.x.feed(0x20202020, 0x20202020, 0x20202020, 0x20202020, 0x20202020), 20);
        Talk.due("end(0)", t.x.end(0), true);
    }

    /** "The TAPE, empty then, is the PROGRAM of a SLOT" (and promise 5: "The TAPE, empty then, is one more RULE"). */
    private static void programTakesTape() {
        Talk t = new Talk();
        t.program(0, "out 1;", 1);
        tapeIsEmpty(t, "program()");
        t.program(0, "out 1", -1);
        tapeIsEmpty(t, "program() with a FAULT");
        t.program(6, "out 1;", -1);
        tapeIsEmpty(t, "program() of no SLOT");
        t.rule("x->x", 0);
        tapeIsEmpty(t, "rule()");
        t.rule("x", -1);
        tapeIsEmpty(t, "rule() with a FAULT");
        for (int r = 1; r < 12; r++) t.rule("x->x", r);
        t.rule("x->x", -1);
        tapeIsEmpty(t, "the 13th rule()");
        // An empty TAPE is a PROGRAM too, and takes the place of another one.
        t.program(3, "out 1;", 1);
        Talk.due("program of an empty TAPE", t.x.program(3), 0);
        t.row(3);
    }

    /** "how many STATEMENTS." */
    private static void programCounts() {
        Talk t = new Talk();
        t.program(0, "", 0);
        t.program(0, "fail;", 1);
        t.program(0, FULL_STATEMENTS, 40);
        t.program(0, Talk.times("if 1<2{", 8) + "a=1;" + Talk.times("}else{out 1;}", 8), 17);
        t.program(0, "while 1<2{while 1<2{}fail;}", 3);
    }

    /** "NONE: no such SLOT (fault() tells 0)". */
    private static void programNoSlot() {
        for (int s : NO_SLOTS) {
            Talk t = new Talk();
            for (int k = 0; k < 6; k++) t.program(k, "out " + k + ";", 1);
            t.badProgram("a", 1, 1);
            t.program(s, "fail;", -1);
            t.faultIs("no such SLOT", 0, -1);
            t.badProgram("a", 1, 1);
            t.program(s, "a", -1);
            t.faultIs("no such SLOT, and a FAULT", 0, -1);
            for (int k = 0; k < 6; k++) t.row(k, 110, k);
        }
    }

    /** "NONE: .. or a FAULT (it stays as it was)." */
    private static void programFault() {
        String[] wrong = {"out 2;out", "out 2;a=16;", FULL_STATEMENTS + "fail;", FULL_THINGS + "c=1;", Talk.times("if 1<2{", 9)};
        for (String text : wrong) {
            Talk t = new Talk();
            for (int k = 0; k < 6; k++) t.program(k, "out " + k + ";", 1);
            for (int k = 0; k < 6; k += 5) t.program(k, text, -1);
            for (int k = 0; k < 6; k++) t.row(k, 110, k);
        }
    }

    /** "The TAPE, empty then, is one more RULE: its number." ("RULES 0 .. 11 as they come") */
    private static void ruleNumbers() {
        Talk t = new Talk();
        for (int r = 0; r < 12; r++) {
            t.rule("x->x+" + r, r);
            t.faultIs("rule " + r, 0, -1);
        }
        for (int r = 0; r < 12; r++) Talk.due("ruleOf(" + r + ", 0)", t.x.ruleOf(r, 0), r == 0 ? 1 : 0);
    }

    /** "NONE: there are 12 (fault() tells 0)". */
    private static void ruleTwelve() {
        Talk t = new Talk();
        for (int r = 0; r < 12; r++) t.rule("x->" + (r == 11 ? "x" : "x+1"), r);
        String[] more = {"x->x+1", "", "x", "x->16", Talk.times("(", 9)};
        for (String text : more) {
            t.badProgram("a", 1, 1);
            t.rule(text, -1);
            t.faultIs("the 13th: " + text, 0, -1);
        }
        Talk.due("ruleOf(11, 0)", t.x.ruleOf(11, 0), 1);
        Talk.due("ruleOf(12, 0)", t.x.ruleOf(12, 0), -2);
        Talk.due("item(0, 11)", t.x.item(0, 11), 1);
        Talk.due("item(0, 12)", t.x.item(0, 12), -1);
    }

    /** "NONE: .. or a FAULT." It is no RULE, and the next one has its number. */
    private static void ruleFault() {
        Talk t = new Talk();
        String[] wrong = {"", "x", "x->", "x->y", "x->16", Talk.times("(", 9), "x" + Talk.times("+1", 20), "x*y*z->x+1)", "y+z->y*(y-z"};
        for (int n = 0; n < wrong.length; n++) {
            t.rule(wrong[n], -1);
            Talk.due("ruleOf(" + n + ", 0)", t.x.ruleOf(n, 0), -2);
            Talk.due("places(" + n + ", 0)", t.x.places(n, 0), -1);
            Talk.due("item(0, " + n + ")", t.x.item(0, n), -1);
            t.rule("x+" + n + "->x", n);
        }
        for (int n = 0; n < wrong.length; n++) Talk.due("ruleOf(" + n + ", 0)", t.x.ruleOf(n, 0), n == 0 ? 1 : 0);
        for (int n = 1; n < wrong.length; n++) Talk.due("ruleOf(" + n + ", 3)", t.x.ruleOf(n, 3), 16);
        t.badRule("x+y->x)", 1, 6);
        t.badRule("x->y", 2, 3);
        // Of what was read ahead of the FAULT nothing is in the RULE that has the number then.
        for (int n = 7; n < 9; n++) {
            t.program(0, "out a+" + n + ";", 1);
            Talk.due("apply(" + n + ", 0, 0, 1)", t.x.apply(n, 0, 0, 1), true);
            t.row(1, 110, 20);
        }
    }

    /** "Of the latest program() or rule()". */
    private static void faultOfLatest() {
        Talk t = new Talk();
        t.badProgram("a=16;", 2, 2);
        t.badRule("x->x)", 1, 4);
        t.badProgram(" =", 1, 1);
        t.rule("x->x", 0);
        t.faultIs("a good rule", 0, -1);
        t.badRule("x->y", 2, 3);
        t.goodProgram("out 1;", 1);
        t.badProgram("out", 1, 3);
        // No other call has a FAULT, be it good or refused.
        t.x.feed(0, 0, 0, 0, 0);
        t.x.end(-1);
        t.x.at(6, 0);
        t.x.size(0, 9);
        t.x.run(0, 16, 0, 0);
        t.x.judge(0, 6, 0);
        t.x.ruleOf(1, 0);
        t.x.places(1, 0);
        t.x.apply(0, 0, 0, 1);
        t.x.item(0, 25);
        t.x.clear(0);
        t.x.make(0, 0, 2);
        t.x.blame(0, 0);
        t.x.cut(0, 0, 3);
        t.x.registers(0, 0);
        t.x.clash(0, 0, 0);
        t.faultIs("(the latest program())", 1, 3);
    }

    /** "what 0 the FAULT (0 without one), 1 its place (NONE)." */
    private static void faultWithout() {
        Talk t = new Talk();
        t.faultIs("nothing", 0, -1);
        t.badProgram("?", 1, 0);
        t.goodProgram("", 0);
        t.badProgram(Talk.times(" ", 799) + "?", 1, 799);
        t.rule("x->x", 0);
        t.faultIs("a rule", 0, -1);
    }

    /** "NONE for another what." */
    private static void faultWhat() {
        Talk t = new Talk();
        int[] wrong = {Integer.MIN_VALUE, -1, 2, 3, Integer.MAX_VALUE};
        for (int what : wrong) Talk.due("fault(" + what + ")", t.x.fault(what), -1);
        t.badProgram("?", 1, 0);
        for (int what : wrong) Talk.due("fault(" + what + ") behind a FAULT", t.x.fault(what), -1);
    }

    /** "PROGRAMS lie in SLOTS 0 .. 5 (empty at first)". */
    private static void slots() {
        Talk t = new Talk();
        for (int s = 0; s < 6; s++) {
            t.program(s, "out " + s + ";", 1);
            for (int k = 0; k < 6; k++) Talk.due("size(" + k + ", 0) behind program(" + s + ")", t.x.size(k, 0), k <= s ? 1 : 0);
        }
        for (int s = 0; s < 6; s++) t.row(s, 110, s);
    }

    /** "PROGRAM = {S}. .. if B { {S} } [else { {S} }] | while B { {S} }": none is enough, and one else at most. */
    private static void grammar() {
        Talk t = new Talk();
        t.goodProgram("if 1<2{}", 1);
        t.goodProgram("if 1<2{}else{}", 1);
        t.goodProgram("while 1<2{}", 1);
        t.badProgram("if 1<2{}else{}else{}", 1, 14);
        t.badProgram("while 1<2{}else{}", 1, 11);
        t.badProgram("else{}", 1, 0);
        t.badProgram("if 1<2{else{}}", 1, 7);
        t.badProgram("if{}", 1, 2);
        t.badProgram("if 1{}", 1, 4);
        t.badProgram("while (1){}", 1, 9);
        t.badProgram("if 1<2<3{}", 1, 6);
        t.badProgram("while 1=2=3{}", 1, 9);
        t.badProgram("if 1<2;{}", 1, 6);
        t.badProgram("if (1<2){}", 1, 5);
        t.badProgram("if 1<{}", 1, 5);
        t.badProgram("if <2{}", 1, 3);
        t.badProgram("if 1<2", 1, 6);
        t.badProgram("if 1<2{}}", 1, 8);
        t.badProgram("if 1<2}", 1, 6);
        t.badProgram("out 1;;", 1, 6);
        t.badProgram("fail;;", 1, 5);
        t.badProgram("a=1,b=2;", 1, 3);
        t.badProgram("a=b=1;", 1, 3);
        t.badProgram("out 1*;", 1, 6);
        t.badProgram("out 1**2;", 1, 6);
        t.badProgram("out (1)(2);", 1, 7);
        t.badProgram("out 2a;", 1, 5);
        t.badProgram("out a(1);", 1, 5);
    }

    /** "letters as many as stand together are KEYWORDS (out, fail, if, else, while, letters alone) or none"; "(V: a letter a .. f alone.)" */
    private static void letters() {
        Talk t = new Talk();
        for (char c = 'a'; c <= 'z'; c++) {
            if (c <= 'f') {
                t.goodProgram(c + "=" + c + ";", 1);
                t.row(0, 100 + c - 'a', 20 + c - 'a');
            } else {
                t.badProgram(c + "=1;", 1, 0);
            }
        }
        t = new Talk();
        String[] none = {"ou", "outt", "gut", "fai", "fails", "bail", "i", "iff", "of", "els", "elsee", "alse", "whil", "whiles", "chile", "aa",
            "ab", "ifa", "outa", "OUT", "oUt", "A", "Z", "aA", "Aa", "aZ", "Za"};
        for (String word : none) t.badProgram("a=1;" + word + " 1;", 1, 4);
        for (String word : none) t.badProgram("out " + word + ";", 1, 4);
        t = new Talk();
        String[] words = {"out", "fail", "if", "else", "while"};
        for (String word : words) t.badProgram("out " + word + ";", 1, 4);
        for (String word : words) t.badRule("x+" + word + "->x", 1, 2);
        // A sign, a digit or a blank ends them.
        t.goodProgram("out(1);if(1)<2{}while(a)<2{}", 3);
        t.goodProgram("out1;if1<2{}else{}while1<2{}", 3);
        t.badProgram("ou t 1;", 1, 0);
    }

    /** "digits as many as stand together NUMBERS of 1 to 4 digits or none". */
    private static void digits() {
        Talk t = new Talk();
        String[] good = {"7", "07", "007", "0007", "0", "0000", "15", "015", "0015"};
        int[] value = {7, 7, 7, 7, 0, 0, 15, 15, 15};
        for (int n = 0; n < good.length; n++) {
            t.goodProgram("out " + good[n] + ";", 1);
            t.row(0, 110, value[n]);
        }
        String[] none = {"00000", "00007", "00015", "00016", "10000", "99999", "000000007", "4294967296", "18446744073709551616"};
        for (String n : none) {
            t.badProgram("out " + n + ";", 1, 4);
            t.badRule("x+" + n + "->x", 1, 2);
        }
        t.badProgram("out " + Talk.times("0", 796), 1, 4);
        t.badProgram("out 0 7;", 1, 6);
        t.badProgram("out 000 7;", 1, 8);
        t.badProgram("1", 1, 0);
        t.badProgram("99999", 1, 0);
    }

    /** "Blanks (32, 10) between." */
    private static void blanks() {
        Talk t = new Talk();
        for (int c = 0; c < 256; c++) {
            if (c % 64 == 0) t = new Talk();
            String text = "out 1" + (char) c + ";";
            if (c == 32 || c == 10 || c >= '0' && c <= '5') {
                t.goodProgram(text, 1);
            } else if (c >= '6' && c <= '9') {
                t.badProgram(text, 2, 4);
            } else {
                boolean stands = c == '+' || c == '-' || c == '*' || c == ';';
                t.badProgram(text, 1, stands ? 6 : 5);
            }
        }
        t = new Talk();
        t.goodProgram(" \n if\n\n1 <\n2 {  } \n else{ } out\n1 ;\n ", 2);
        t.goodProgram("out\na\n;", 1);
        t.goodProgram(Talk.times("\n", 800), 0);
        t.rule("\n x\n->\n x \n", 0);
    }

    /** "1 what can't stand there": every byte, ahead of all. */
    private static void firstByte() {
        Talk t = new Talk();
        for (int c = 0; c < 256; c++) {
            if (c % 64 == 0) t = new Talk();
            String text = "" + (char) c;
            if (c == 32 || c == 10) {
                t.goodProgram(text, 0);
            } else {
                t.badProgram(text, 1, c >= 'a' && c <= 'f' ? 1 : 0);
            }
        }
    }

    /** "U = NUMBER | V | ( E )": every byte where it can stand or not. */
    private static void operandByte() {
        Talk t = new Talk();
        for (int c = 0; c < 256; c++) {
            if (c % 64 == 0) t = new Talk();
            String text = "out " + (char) c + ";";
            if (c >= 'a' && c <= 'f' || c >= '0' && c <= '9') {
                t.goodProgram(text, 1);
                t.row(0, 110, c >= 'a' ? 20 + c - 'a' : c - '0');
            } else {
                t.badProgram(text, 1, c == '(' || c == 32 || c == 10 ? 5 : 4);
            }
        }
    }

    /** "E as above, but with x, y, z in place of VARIABLES (each alone)": every byte. */
    private static void ruleByte() {
        for (int c = 0; c < 256; c++) {
            Talk t = new Talk();
            String text = (char) c + "->1";
            if (c >= 'x' && c <= 'z' || c >= '0' && c <= '9') {
                t.rule(text, 0);
                t.faultIs(text, 0, -1);
            } else {
                t.badRule(text, 1, c == '(' || c == 32 || c == 10 ? 1 : 0);
            }
        }
        Talk t = new Talk();
        t.badRule("xx->1", 1, 0);
        t.badRule("xy->1", 1, 0);
        t.badRule("x->xx", 1, 3);
        t.badRule("zz", 1, 0);
        t.rule("x+y->1", 0);
    }

    private static boolean isIn(int c, String signs) {
        return signs.indexOf(c) >= 0;
    }

    private static boolean isLetter(int c) {
        return c >= 'a' && c <= 'z' || c >= 'A' && c <= 'Z';
    }

    /** A text with each byte in it: those that stand there make it good, those that are passed have the FAULT at the next TOKEN. */
    private static void everyByte(String ahead, String behind, String stands, String passed, int tokenAhead) {
        Talk t = new Talk();
        for (int c = 0; c < 256; c++) {
            if (c % 64 == 0) t = new Talk();
            String text = ahead + (char) c + behind;
            int place = ahead.length();
            t.tape(text);
            int n = t.x.program(0);
            if (isIn(c, stands)) {
                Talk.due("program of " + text, n >= 0, true);
                t.faultIs(text, 0, -1);
            } else {
                boolean goesOn = tokenAhead < place && isLetter(c);
                Talk.due("program of " + text, n, -1);
                t.faultIs(text, 1, isIn(c, passed) ? place + 1 : goesOn ? tokenAhead : place);
            }
        }
    }

    /** "1 what can't stand there": every byte behind each kind of TOKEN. */
    private static void everyByteBehind() {
        everyByte("a", "1;", "=", " \n", 0);
        everyByte("fail", "", ";", " \n", 0);
        everyByte("out a", "", ";", " \n+-*", 4);
        everyByte("out (a", ";", ")", " \n+-*", 5);
        everyByte("if a", "", "", " \n+-*<=>", 3);
        everyByte("if a<b", "}", "{", " \n+-*", 5);
        everyByte("if a<b{}else", "}", "{", " \n", 8);
        everyByte("if a<b{}", "", " \n", "abcdef", 8);
        everyByte("if a<b{", "", "}", " \nabcdef", 7);
        everyByte("while a<b{}", "", " \n", "abcdef", 11);
        everyByte("a=1;", "", " \n", "abcdef", 4);
    }

    /** "FAULTS, the first by its place". */
    private static void firstByPlace() {
        Talk t = new Talk();
        t.badProgram("a=16;?", 2, 2);
        t.badProgram("?a=16;", 1, 0);
        t.badProgram("a=16;b=17;", 2, 2);
        t.badProgram("a=" + Talk.times("(", 9) + "16;", 3, 10);
        t.badProgram("a=16+" + Talk.times("(", 9), 2, 2);
        t.badProgram(FULL_STATEMENTS + "a=16;", 3, 200);
        t.badProgram(Talk.times("fail;", 39) + "a=16;fail;", 2, 197);
        t.badProgram(Talk.times("fail;", 39) + "a=;fail;", 1, 197);
        t.badProgram(FULL_THINGS + "c=1+16;", 3, 308);
        t.badProgram(FULL_THINGS + "c=;", 1, 308);
        t.badRule("x->y+16", 2, 3);
        t.badRule("x->16+y", 2, 3);
        t.badRule("x->x+y)", 2, 5);
        t.badRule("x->x)+y", 1, 4);
    }

    /** "at one place the least". */
    private static void leastAtPlace() {
        Talk t = new Talk();
        t.badProgram("a 16", 1, 2);
        t.badProgram(FULL_STATEMENTS + "16", 1, 200);
        t.badProgram(FULL_STATEMENTS + "x", 1, 200);
        t.badProgram(FULL_STATEMENTS + "{", 1, 200);
        t.badProgram(FULL_STATEMENTS + "(", 1, 200);
        t.badProgram(FULL_THINGS + "c=16;", 2, 308);
        t.badProgram(FULL_THINGS + "c=99999;", 1, 308);
        t.badProgram(FULL_THINGS + "c=g;", 1, 308);
        t.badProgram(FULL_THINGS + "c=+1;", 1, 308);
        t.badProgram("a=" + Talk.times("(", 8) + "{", 1, 10);
        t.badProgram("a=" + Talk.times("(", 8) + "1(", 1, 11);
        t.badProgram(Talk.times("if 1<2{", 8) + "{", 1, 56);
        t.badProgram(Talk.times("if 1<2{", 8) + "(", 1, 56);
        String full = "x" + Talk.times("+1", 19) + "+";
        t.badRule(full + "16", 2, 40);
        t.badRule(full + "a", 1, 40);
        t.badRule("x" + Talk.times("+1", 18) + "+2->x+y", 3, 42);
        t.badRule("x" + Talk.times("+1", 18) + "*(2)->x*y", 3, 44);
        // The 40th is no letter of the left, and the 41st would come behind it.
        t.badRule("x" + Talk.times("+1", 18) + "->x+y+x", 2, 41);
    }

    /** "(the end: the text's length)". */
    private static void theEnd() {
        Talk t = new Talk();
        String[] open = {"a", "a=", "a=1", "a=1+", "a=(", "a=(1", "out", "out 1", "fail", "if", "if 1", "if 1<", "if 1<2", "if 1<2{",
            "if 1<2{}else", "if 1<2{}else{", "while", "while 1<2{", "while 1<2{fail;"};
        for (String text : open) {
            t.badProgram(text, 1, text.length());
            t.badProgram(text + " ", 1, text.length() + 1);
            t.badProgram(text + "\n \n", 1, text.length() + 3);
        }
        t = new Talk();
        String[] rules = {"", "x", "x+", "(", "(x", "x->", "x->x+", "x->(x", "x-"};
        for (String text : rules) {
            t.badRule(text, 1, text.length());
            t.badRule(text + " \n", 1, text.length() + 2);
        }
        t.badProgram(Talk.times(" ", 799) + "a", 1, 800);
        t.badRule(Talk.times(" ", 799) + "x", 1, 800);
    }

    /** "2 (at the NUMBER) one above 15." */
    private static void aboveFifteen() {
        Talk t = new Talk();
        for (int n = 0; n < 20; n++) {
            if (n < 16) t.goodProgram("out " + n + ";", 1); else t.badProgram("out " + n + ";", 2, 4);
        }
        int[] large = {31, 32, 99, 100, 115, 255, 256, 999, 1000, 1600, 9999};
        for (int n : large) {
            t.badProgram("out 1+" + n + ";", 2, 6);
            t.badRule(n + "->1", 2, 0);
        }
        t.badProgram("out 0016;", 2, 4);
        t.badProgram("out 0 ;if 016<1{}", 2, 10);
        t.badProgram("while 1<(16){}", 2, 9);
        t.badRule("x->x*16", 2, 5);
    }

    /** "3 (at its first TOKEN) the 41st STATEMENT". */
    private static void fortyFirst() {
        Talk t = new Talk();
        t.goodProgram(FULL_STATEMENTS, 40);
        String[] more = {"a=1;", "out 1;", "fail;", "if 1<2{}", "while 1<2{}", "f", "out", "if", "while", "fail"};
        for (String s : more) {
            t = new Talk();
            t.badProgram(FULL_STATEMENTS + s, 3, 200);
            t.badProgram(FULL_STATEMENTS + " \n" + s, 3, 202);
            t.badProgram("if 1<2{" + Talk.times("fail;", 39) + s + "}", 3, 202);
            t.badProgram("if 1<2{}else{" + Talk.times("fail;", 39) + s + "}", 3, 208);
            t.badProgram("while 1<2{" + Talk.times("fail;", 38) + "}fail;" + s, 3, 206);
        }
        t = new Talk();
        t.goodProgram("if 1<2{" + Talk.times("fail;", 39) + "}", 40);
        t.goodProgram("while 1<2{}" + Talk.times("if 1<2{}else{}", 39), 40);
        t.goodProgram(FULL_STATEMENTS + "  \n", 40);
        t.goodProgram("if 1<2{" + Talk.times("fail;", 39) + "}else{}", 40);
    }

    private static String nest(int braces, int parentheses) {
        return Talk.times("if 1<2{", braces) + "a=" + Talk.times("(", parentheses) + "1" + Talk.times(")", parentheses) + ";"
            + Talk.times("}", braces);
    }

    /** "3 .. (at it) the 9th ( or { that is open". */
    private static void ninthOpen() {
        Talk t = new Talk();
        for (int braces = 0; braces <= 8; braces++) {
            t.goodProgram(nest(braces, 8 - braces), braces + 1);
            t.badProgram(nest(braces, 9 - braces), 3, 7 * braces + 2 + 8 - braces);
        }
        t.badProgram(Talk.times("if 1<2{", 9), 3, 62);
        t.badProgram(Talk.times("if 1<2{", 8) + "if 1<2 \n{", 3, 64);
        t.badProgram(Talk.times("while 1<2{", 9), 3, 89);
        t.badProgram(Talk.times("if 1<2{}else{", 9), 3, 8 * 13 + 6);
        t.badProgram(Talk.times("if 1<2{}else{", 7) + "if 1<2{}else{if 1<2{", 3, 8 * 13 + 6);
        t.goodProgram(Talk.times("if 1<2{}else{", 8) + Talk.times("}", 8), 8);
        t.goodProgram("if " + Talk.times("(", 8) + "1" + Talk.times(")", 8) + "<" + Talk.times("(", 8) + "2" + Talk.times(")", 8) + "{}", 1);
        t.badProgram("if " + Talk.times("(", 9), 3, 11);
        t.badProgram("if 1<" + Talk.times("(", 9), 3, 13);
        t.badProgram("while " + Talk.times("(", 9), 3, 14);
        t.badProgram("out " + Talk.times("(", 9), 3, 12);
        t.badProgram(Talk.times("if 1<2{", 8) + "}else{while (", 3, 8 * 7 + 12);
    }

    /** "that is open": what is closed counts no more. */
    private static void openAgain() {
        Talk t = new Talk();
        t.goodProgram("a=" + Talk.times(Talk.times("(", 8) + "1" + Talk.times(")", 8) + "+", 9) + "1;", 1);
        t.goodProgram(Talk.times("if 1<2{}", 20), 20);
        t.goodProgram(Talk.times("if 1<2{}else{}", 20), 20);
        t.goodProgram(Talk.times(Talk.times("while 1<2{", 8) + Talk.times("}", 8), 4), 32);
        t.goodProgram(Talk.times("if 1<2{", 8) + "}if 1<2{" + Talk.times("}", 8), 9);
        t.goodProgram(Talk.times("if 1<2{", 7) + "a=(1)+(1);" + Talk.times("}", 7), 8);
        t.badProgram(Talk.times("if 1<2{", 8) + "}if 1<2{if 1<2{", 3, 70);
        t.badProgram("a=" + Talk.times("(", 8) + "1)+((", 3, 14);
    }

    /** "3 .. (at it) the 301st NUMBER, VARIABLE or operation in all, where it is one of the text's TOKENS (an operation at its sign ..)". */
    private static void threeHundredFirst() {
        Talk t = new Talk();
        t.goodProgram(FULL_THINGS, 2);
        Talk.due("EXPRESSIONS", t.x.size(0, 1), 300);
        String[] behind = {"c=1;", "c=a;", "c=c;", "out 1;", "out f;", "if 1<2{}", "if a<2{}", "while 1<2{}", "out (1);"};
        int[] place = {2, 2, 2, 4, 4, 3, 3, 6, 5};
        for (int n = 0; n < behind.length; n++) t.badProgram(FULL_THINGS + behind[n], 3, FULL_THINGS.length() + place[n]);
        t.goodProgram(FULL_THINGS + "fail;", 3);
        // 299 of them, and then the 300th ahead of the 301st.
        String less = "a=1" + Talk.times("*1", 149) + ";";
        t.goodProgram(less, 1);
        Talk.due("EXPRESSIONS", t.x.size(0, 1), 299);
        String[] two = {"out 1+2;", "out 1-2;", "out a * 2;", "if 1<2{}", "while 1= a{}", "out 1;out 2;", "out (1)+2;"};
        int[] second = {5, 5, 6, 5, 9, 10, 7};
        for (int n = 0; n < two.length; n++) t.badProgram(less + two[n], 3, less.length() + second[n]);
        t.badProgram("a=1" + Talk.times("-1", 150) + ";", 3, 302);
        t.badProgram("if 1" + Talk.times("-1", 149) + "<1+1{}", 3, 304);
        t.goodProgram("if 1" + Talk.times("-1", 149) + "<1{}", 1);
    }

    /** "a VARIABLE that is set does not count". */
    private static void setsDoNotCount() {
        Talk t = new Talk();
        String sets = Talk.times("a=1;", 39);
        t.goodProgram(sets + "a=1" + Talk.times("+1", 130) + ";", 40);
        Talk.due("EXPRESSIONS", t.x.size(0, 1), 300);
        String text = sets + "a=1" + Talk.times("+1", 130);
        t.badProgram(text + "+1;", 3, text.length());
        // The set VARIABLE may stand where 300 are there; what it is set to may not.
        t.badProgram(FULL_THINGS + "c", 1, FULL_THINGS.length() + 1);
        t.badProgram(FULL_THINGS + "c=d;", 3, FULL_THINGS.length() + 2);
    }

    /** "THE ROW of a PROGRAM are numbers": the least and the largest of each kind. */
    private static void rowNumbers() {
        Talk t = new Talk();
        t.goodProgram("a=0;f=15;out a;out f;fail;", 5);
        t.row(0, 100, 0, 105, 15, 110, 20, 110, 25, 111);
        t.goodProgram("if 0<15{}while a=f{}if 1>1{}", 3);
        t.row(0, 112, 130, 0, 15, 113, 114, 115, 131, 20, 25, 114, 112, 132, 1, 1, 113, 114);
        t.goodProgram("a=1+2;b=1-2;c=1*2;", 3);
        t.row(0, 100, 120, 1, 2, 101, 121, 1, 2, 102, 122, 1, 2);
    }

    /** "of if 112, B, its STATEMENTS, 113 (without an else, too), those of else, 114". */
    private static void rowElse() {
        Talk t = new Talk();
        t.goodProgram("if 1<2{}", 1);
        t.row(0, 112, 130, 1, 2, 113, 114);
        t.goodProgram("if 1<2{}else{}", 1);
        t.row(0, 112, 130, 1, 2, 113, 114);
        t.goodProgram("if 1<2{fail;}", 2);
        t.row(0, 112, 130, 1, 2, 111, 113, 114);
        t.goodProgram("if 1<2{}else{fail;}", 2);
        t.row(0, 112, 130, 1, 2, 113, 111, 114);
        t.goodProgram("if 1<2{if 3<4{}}else{if 5<6{}else{fail;}}fail;", 5);
        t.row(0, 112, 130, 1, 2, 112, 130, 3, 4, 113, 114, 113, 112, 130, 5, 6, 113, 111, 114, 114, 111);
        t.goodProgram("while 1<2{if 3<4{}}", 2);
        t.row(0, 115, 130, 1, 2, 112, 130, 3, 4, 113, 114, 114);
    }

    /** "(a - b - c is (a - b) - c)". */
    private static void rowLeft() {
        Talk t = new Talk();
        t.goodProgram("out a-b-c;out (a-b)-c;out a-(b-c);", 3);
        t.row(0, 110, 121, 121, 20, 21, 22, 110, 121, 121, 20, 21, 22, 110, 121, 20, 121, 21, 22);
        t.goodProgram("out a*(b*c);out a*(b+c)*d;", 2);
        t.row(0, 110, 122, 20, 122, 21, 22, 110, 122, 122, 20, 120, 21, 22, 23);
        t.goodProgram("out a*b*c;out a+b-c+d;", 2);
        t.row(0, 110, 122, 122, 20, 21, 22, 110, 120, 121, 120, 20, 21, 22, 23);
        t.goodProgram("out a-b*c-d;out a*b-c*d;", 2);
        t.row(0, 110, 121, 121, 20, 122, 21, 22, 23, 110, 121, 122, 20, 21, 122, 22, 23);
    }

    /** 40 STATEMENTS, 300 EXPRESSIONS: the longest ROW that there can be. */
    private static void largestRow() {
        Talk t = new Talk();
        t.goodProgram(Talk.times("if 1<1{}", 39) + "if 1" + Talk.times("+1", 110) + "<1{}", 40);
        Talk.due("STATEMENTS", t.x.size(0, 0), 40);
        Talk.due("EXPRESSIONS", t.x.size(0, 1), 300);
        Talk.due("numbers", t.x.size(0, 2), 460);
        Talk.due("at(0, 457)", t.x.at(0, 457), 1);
        Talk.due("at(0, 458)", t.x.at(0, 458), 113);
        Talk.due("at(0, 459)", t.x.at(0, 459), 114);
        Talk.due("at(0, 460)", t.x.at(0, 460), -1);
        Talk.due("make", t.x.make(0, 0, 5), 40);
        Talk.due("numbers", t.x.size(5, 2), 460);
        Talk.due("at(5, 459)", t.x.at(5, 459), 114);
    }

    /** 800 bytes, and each of them a TOKEN. */
    private static void mostTokens() {
        Talk t = new Talk();
        String part = Talk.times("(", 8) + "1" + Talk.times(")", 8) + "+";
        t.goodProgram("a=" + Talk.times(part, 44) + "((1));", 1);
        Talk.due("EXPRESSIONS", t.x.size(0, 1), 89);
        t.badProgram("a=" + Talk.times(part, 44) + "((1))+", 1, 800);
        t.badProgram("a=" + Talk.times(part, 44) + "((1))a", 1, 799);
    }

    /** "Number k (from 0) of THE ROW of a SLOT's PROGRAM; NONE if there is none such." */
    private static void atEdges() {
        Talk t = new Talk();
        t.program(0, "a=7;", 1);
        t.program(5, "fail;", 1);
        Talk.due("at(0, 0)", t.x.at(0, 0), 100);
        Talk.due("at(0, 1)", t.x.at(0, 1), 7);
        Talk.due("at(5, 0)", t.x.at(5, 0), 111);
        int[] wrong = {Integer.MIN_VALUE, -1, 2, 3, 460, 1000, Integer.MAX_VALUE};
        for (int k : wrong) Talk.due("at(0, " + k + ")", t.x.at(0, k), -1);
        for (int s : NO_SLOTS) Talk.due("at(" + s + ", 0)", t.x.at(s, 0), -1);
        // A shorter PROGRAM leaves nothing of the longer one.
        t.program(0, "fail;", 1);
        Talk.due("at(0, 1) of a shorter one", t.x.at(0, 1), -1);
    }

    /** "what 0 STATEMENTS, 1 EXPRESSIONS, 2 numbers of THE ROW, 3 VARIABLES LIVE at its beginning as a set." */
    private static void sizeCounts() {
        Talk t = new Talk();
        int[][] due = {{0, 0, 0, 0}, {1, 0, 1, 0}, {1, 11, 12, 63}, {2, 8, 10, 31}, {1, 2, 5, 33}};
        String[] text = {"", "fail;", "out a+b+c+d+e+f;", "f=a+b+c+d;out e;", "while f>a{}"};
        for (int n = 0; n < text.length; n++) {
            t.program(0, text[n], due[n][0]);
            for (int what = 0; what < 4; what++) Talk.due("size(0, " + what + ") of " + text[n], t.x.size(0, what), due[n][what]);
        }
        // Whatever was asked ahead, and be the PROGRAM empty.
        t.program(0, "out a+b+c+d+e+f;out a+b+c;", 2);
        t.program(1, "a=1;b=1;", 2);
        for (int s = 0; s < 3; s++) Talk.due("size(" + s + ", 3) behind another", t.x.size(s, 3), s == 0 ? 63 : 0);
        Talk.due("size(0, 3) behind another", t.x.size(0, 3), 63);
        Talk.due("size(2, 3) behind another", t.x.size(2, 3), 0);
    }

    /** "NONE if there is none such, or another what." */
    private static void sizeRefused() {
        Talk t = new Talk();
        t.program(0, "out a;", 1);
        int[] wrong = {Integer.MIN_VALUE, -1, 4, 5, Integer.MAX_VALUE};
        for (int what : wrong) Talk.due("size(0, " + what + ")", t.x.size(0, what), -1);
        for (int s : NO_SLOTS) {
            for (int what = 0; what < 4; what++) Talk.due("size(" + s + ", " + what + ")", t.x.size(s, what), -1);
        }
    }
}
