/** A SameAfter that is fed with texts, and a count of the answers that are not the ones due. */
final class Talk {
    private static int wrong = 0;
    private static int asked = 0;

    SameAfter x = new SameAfter();

    static void due(String call, int got, int want) {
        asked++;
        if (got != want) {
            wrong++;
            System.out.println(call + " answered " + got + ", due is " + want);
        }
    }

    static void due(String call, boolean got, boolean want) {
        due(call, got ? 1 : 0, want ? 1 : 0);
    }

    static void close(String name) {
        System.out.println(name + ": " + asked + " answers, " + wrong + " not as due");
        if (wrong != 0) {
            System.exit(1);
        }
    }

    void tape(String text) {
        for (int i = 0; i < text.length(); i += 20) {
            int[] five = new int[5];
            for (int k = 0; k < 20; k++) {
                five[k / 4] = five[k / 4] << 8 | (i + k < text.length() ? text.charAt(i + k) : ' ');
            }
            x.feed(five[0], five[1], five[2], five[3], five[4]);
        }
        due("end(" + text.length() + ")", x.end(text.length()), true);
    }

    void program(int slot, String text, int want) {
        tape(text);
        due("program(" + slot + ") of " + text, x.program(slot), want);
    }

    void rule(String text, int want) {
        tape(text);
        due("rule() of " + text, x.rule(), want);
    }

    void item(int pass, int v, int want) {
        due("item(" + pass + ", " + v + ")", x.item(pass, v), want);
    }

    /** A PASS that has one ITEM alone. */
    void pass(int pass, int v) {
        due("clear(" + pass + ")", x.clear(pass), true);
        item(pass, v, 1);
    }

    void faultIs(String text, int what, int place) {
        due("fault(0) of " + text, x.fault(0), what);
        due("fault(1) of " + text, x.fault(1), place);
    }

    void badProgram(String text, int what, int place) {
        program(0, text, -1);
        faultIs(text, what, place);
    }

    void goodProgram(String text, int statements) {
        program(0, text, statements);
        faultIs(text, 0, -1);
    }

    void badRule(String text, int what, int place) {
        rule(text, -1);
        faultIs(text, what, place);
    }

    void row(int slot, int... want) {
        for (int k = 0; k < want.length; k++) {
            due("at(" + slot + ", " + k + ")", x.at(slot, k), want[k]);
        }
        due("size(" + slot + ", 2)", x.size(slot, 2), want.length);
        due("at(" + slot + ", behind)", x.at(slot, want.length), -1);
    }

    /** A PASS of one ITEM, on a text: the row of what it makes must be the row of another text. */
    void makes(int v, String text, String want) {
        pass(5, v);
        tape(want);
        int n = x.program(4);
        due("(the text that is wanted stands) " + want, x.fault(0), 0);
        tape(text);
        x.program(3);
        due("(the text that is given stands) " + text, x.fault(0), 0);
        due("make of " + text + " by " + v, x.make(5, 3, 5), n);
        due("size of what " + v + " makes of " + text, x.size(5, 2), x.size(4, 2));
        for (int k = 0; k < x.size(4, 2); k++) {
            due("at(5, " + k + ") of what " + v + " makes of " + text, x.at(5, k), x.at(4, k));
        }
    }

    static String times(String part, int n) {
        return part.repeat(Math.max(n, 0));
    }
}
