/** A small compiler that may be wrong, and a judge beside it; ../shared/DOC.md says what each call promises. */
public final class SameAfter {
    public static final int NONE = -1;

    private static final int SLOTS = 6;
    private static final int PASSES = 6;
    private static final int VARIABLES = 6;
    private static final int LETTERS = 3;
    private static final int WORDS = 16;
    private static final int MOST_RULES = 12;
    private static final int MOST_ITEMS = 8;
    private static final int MOST_STATEMENTS = 40;
    private static final int MOST_EXPRESSIONS = 300;
    private static final int MOST_IN_RULE = 40;
    private static final int MOST_OPEN = 8;
    private static final int MOST_STEPS = 100;
    private static final int MOST_TO_CUT = 12;

    // 40 STATEMENTS have at most four numbers each besides their EXPRESSIONS, of which there are at most 300.
    private static final int ROW_ROOM = 480;
    // UNROLL may double a row before its size is judged.
    private static final int WORK_ROOM = 1000;

    private static final int READ = 20;
    private static final int SET = 100;
    private static final int OUT = 110;
    private static final int FAIL = 111;
    private static final int IF = 112;
    private static final int ELSE = 113;
    private static final int CLOSE = 114;
    private static final int WHILE = 115;
    private static final int PLUS = 120;
    private static final int MINUS = 121;
    private static final int TIMES = 122;
    private static final int LESS = 130;
    private static final int EQUAL = 131;
    private static final int MORE = 132;

    private static final int FOLD = 20;
    private static final int DEAD = 21;
    private static final int HASTY_DEAD = 22;
    private static final int HASTY_COPY = 23;
    private static final int UNROLL = 24;

    private final Row[] slots;
    private int ruleCount;
    private final Row work;
    private final Reader reader;
    private final Machine machine;
    private final Proof proof;
    private final Passes passes;
    private final Registers dealing;

    public SameAfter() {
        slots = new Row[SLOTS];
        for (int s = 0; s < SLOTS; s++) {
            slots[s] = new Row(ROW_ROOM);
        }
        ruleCount = 0;
        work = new Row(WORK_ROOM);
        reader = new Reader();
        machine = new Machine();
        proof = new Proof();
        passes = new Passes();
        dealing = new Registers();
    }

    public int feed(int a, int b, int c, int d, int e) {
        Tape tape = reader.tape;
        if (tape.length + 20 > Tape.ROOM) {
            return NONE;
        }
        tape.put(a);
        tape.put(b);
        tape.put(c);
        tape.put(d);
        tape.put(e);
        return tape.length;
    }

    public boolean end(int n) {
        return reader.tape.shorten(n);
    }

    public int program(int slot) {
        Row target = slotAt(slot);
        if (target == null) {
            reader.drop();
            return NONE;
        }
        reader.beginProgram(work);
        if (!reader.readAll()) {
            return NONE;
        }
        target.copy(work);
        return target.statements();
    }

    public int rule() {
        Rule target = passes.ruleAt(ruleCount);
        if (target == null) {
            reader.drop();
            return NONE;
        }
        reader.beginRule(target);
        if (!reader.readAll()) {
            return NONE;
        }
        ruleCount++;
        return ruleCount - 1;
    }

    public int fault(int what) {
        if (what == 0) {
            return reader.fault;
        }
        return what == 1 ? reader.faultPlace : NONE;
    }

    public int at(int slot, int k) {
        Row row = slotAt(slot);
        return row == null ? NONE : row.cell(k);
    }

    public int size(int slot, int what) {
        Row row = slotAt(slot);
        if (row == null) {
            return NONE;
        }
        switch (what) {
            case 0:
                return row.statements();
            case 1:
                return row.expressions();
            case 2:
                return row.length;
            case 3:
                machine.flow.trace(row);
                return machine.flow.aheadOf(0);
            default:
                return NONE;
        }
    }

    public int run(int slot, int a, int b, int what) {
        Row row = slotAt(slot);
        if (row == null || !isWord(a) || !isWord(b)) {
            return NONE;
        }
        machine.flow.trace(row);
        machine.go(a, b);
        return machine.tell(what);
    }

    public int judge(int p, int q, int what) {
        Row one = slotAt(p);
        Row other = slotAt(q);
        if (one == null || other == null || what < 0 || what > 3) {
            return NONE;
        }
        Judge judgement = passes.judgement;
        judgement.compare(one, other, false);
        switch (what) {
            case 0:
                return judgement.verdict();
            case 1:
                return judgement.first;
            case 2:
                return judgement.firstPlace;
            default:
                return judgement.parted;
        }
    }

    public int ruleOf(int r, int what) {
        Rule rule = ruleAt(r);
        if (rule == null) {
            return NONE - 1;
        }
        if (what == 2) {
            return proof.compareForms(rule);
        }
        proof.tryAll(rule);
        switch (what) {
            case 0:
                return proof.wrongs == 0 ? 1 : 0;
            case 1:
                return proof.first;
            case 3:
                return proof.wrongs;
            default:
                return NONE - 1;
        }
    }

    public int places(int r, int slot) {
        Rule rule = ruleAt(r);
        Row row = slotAt(slot);
        return rule == null || row == null ? NONE : rule.countIn(row);
    }

    public boolean apply(int r, int slot, int k, int to) {
        Rule rule = ruleAt(r);
        Row row = slotAt(slot);
        Row target = slotAt(to);
        if (rule == null || row == null || target == null) {
            return false;
        }
        int place = rule.placeIn(row, k);
        if (place == NONE || !rule.rewrite(row, place, work)) {
            return false;
        }
        target.copy(work);
        return true;
    }

    public int item(int pass, int v) {
        boolean isRule = v >= 0 && v < ruleCount;
        boolean isAct = v >= FOLD && v <= UNROLL;
        if (!isRule && !isAct) {
            return NONE;
        }
        return passes.addItem(pass, v);
    }

    public boolean clear(int pass) {
        return passes.dropItems(pass);
    }

    public int make(int pass, int slot, int to) {
        Row row = slotAt(slot);
        Row target = slotAt(to);
        if (row == null || target == null || !passes.makeOf(pass, row)) {
            return NONE;
        }
        target.copy(passes.made);
        return target.statements();
    }

    public int blame(int slot, int what) {
        Row row = slotAt(slot);
        if (row == null || what < 0 || what > 1) {
            return NONE;
        }
        passes.findBad(row);
        return what == 0 ? passes.bad : passes.badInputs;
    }

    public int cut(int pass, int slot, int to) {
        Row row = slotAt(slot);
        Row target = slotAt(to);
        if (row == null || target == null || !passes.cutDown(pass, row)) {
            return NONE;
        }
        target.copy(passes.kept);
        return target.statements();
    }

    public int registers(int slot, int what) {
        Row row = slotAt(slot);
        if (row == null) {
            return NONE;
        }
        dealing.study(row);
        if (what == 0) {
            return dealing.fewest();
        }
        if (what >= 10 && what < 10 + VARIABLES) {
            return dealing.registerOf(what - 10);
        }
        return what >= 20 && what <= 20 + VARIABLES ? dealing.spills(what - 20) : NONE;
    }

    public int clash(int slot, int v, int w) {
        Row row = slotAt(slot);
        if (row == null || !isVariable(v) || !isVariable(w) || v == w) {
            return NONE;
        }
        dealing.study(row);
        return dealing.clashing(v, w) ? 1 : 0;
    }

    private Row slotAt(int slot) {
        return slot >= 0 && slot < slots.length ? slots[slot] : null;
    }

    private Rule ruleAt(int r) {
        return r < ruleCount ? passes.ruleAt(r) : null;
    }

    private static boolean isWord(int n) {
        return n >= 0 && n < WORDS;
    }

    private static boolean isVariable(int v) {
        return v >= 0 && v < VARIABLES;
    }

    /** THE ROW of a PROGRAM, or of one side of a RULE: its numbers tell by themselves what each one is. */
    private static final class Row {
        final int[] cells;
        int length;

        Row(int room) {
            cells = new int[Math.max(room, 1)];
            length = 0;
        }

        static boolean isStatement(int c) {
            return c >= SET && c < SET + VARIABLES || c == OUT || c == FAIL || c == IF || c == WHILE;
        }

        static boolean isSet(int c) {
            return c >= SET && c < SET + VARIABLES;
        }

        static boolean isBranch(int c) {
            return c == IF || c == WHILE;
        }

        static boolean isNumber(int c) {
            return c >= 0 && c < WORDS;
        }

        static boolean isRead(int c) {
            return c >= READ && c < READ + VARIABLES;
        }

        static boolean isOperation(int c) {
            return c >= PLUS && c <= TIMES;
        }

        static boolean isExpression(int c) {
            return c >= 0 && c < WORDS || c >= READ && c < READ + VARIABLES || c >= PLUS && c <= TIMES;
        }

        static int result(int operation, int left, int right) {
            int value = operation == PLUS ? left + right : operation == MINUS ? left - right : left * right;
            return value & (WORDS - 1);
        }

        static boolean holds(int test, int left, int right) {
            return test == LESS ? left < right : test == EQUAL ? left == right : left > right;
        }

        int cell(int k) {
            return k >= 0 && k < length ? cells[k] : NONE;
        }

        void change(int k, int value) {
            if (k >= 0 && k < length) {
                cells[k] = value;
            }
        }

        void add(int value) {
            if (length < cells.length) {
                cells[length] = value;
                length++;
            }
        }

        void insert(int k, int value) {
            if (k >= 0 && k <= length && length < cells.length) {
                System.arraycopy(cells, k, cells, k + 1, length - k);
                cells[k] = value;
                length++;
            }
        }

        void remove(int from, int to) {
            if (from >= 0 && from < to && to <= length) {
                System.arraycopy(cells, to, cells, from, length - to);
                length -= to - from;
            }
        }

        void addPart(Row other, int from, int to) {
            int n = to - from;
            if (from >= 0 && n > 0 && to <= other.length && n <= cells.length - length) {
                System.arraycopy(other.cells, from, cells, length, n);
                length += n;
            }
        }

        void copy(Row other) {
            if (other != this) {
                length = 0;
                addPart(other, 0, other.length);
            }
        }

        int statements() {
            int n = 0;
            for (int k = 0; k < length; k++) {
                if (isStatement(cells[k])) {
                    n++;
                }
            }
            return n;
        }

        int expressions() {
            int n = 0;
            for (int k = 0; k < length; k++) {
                if (isExpression(cells[k])) {
                    n++;
                }
            }
            return n;
        }

        boolean isTooLarge() {
            return statements() > MOST_STATEMENTS || expressions() > MOST_EXPRESSIONS;
        }

        boolean isLike(Row other) {
            if (length != other.length) {
                return false;
            }
            for (int k = 0; k < length; k++) {
                if (cells[k] != other.cells[k]) {
                    return false;
                }
            }
            return true;
        }

        boolean repeats(int from, int again, int n) {
            if (from < 0 || again < 0 || n > length - from || n > length - again) {
                return false;
            }
            for (int i = 0; i < n; i++) {
                if (cells[from + i] != cells[again + i]) {
                    return false;
                }
            }
            return true;
        }

        boolean has(int value, int from, int to) {
            for (int k = Math.max(from, 0); k < to && k < length; k++) {
                if (cells[k] == value) {
                    return true;
                }
            }
            return false;
        }

        void replace(int value, int by, int from, int to) {
            for (int k = Math.max(from, 0); k < to && k < length; k++) {
                if (cells[k] == value) {
                    cells[k] = by;
                }
            }
        }

        int expressionEnd(int k) {
            int end = Math.max(k, 0);
            for (int missing = 1; missing > 0 && end < length; end++) {
                missing += isOperation(cells[end]) ? 1 : -1;
            }
            return end;
        }

        /** Where the if or while at k is closed. */
        int closeOf(int k) {
            int open = 0;
            for (int p = Math.max(k, 0); p < length; p++) {
                if (isBranch(cells[p])) {
                    open++;
                } else if (cells[p] == CLOSE) {
                    open--;
                    if (open == 0) {
                        return p;
                    }
                }
            }
            return length;
        }

        int elseOf(int k) {
            int open = 0;
            for (int p = Math.max(k, 0); p < length; p++) {
                if (isBranch(cells[p])) {
                    open++;
                } else if (cells[p] == CLOSE) {
                    open--;
                } else if (cells[p] == ELSE && open == 1) {
                    return p;
                }
            }
            return length;
        }

        int statementEnd(int k) {
            int c = cell(k);
            if (isBranch(c)) {
                return closeOf(k) + 1;
            }
            return c == FAIL ? k + 1 : expressionEnd(k + 1);
        }

        /**
         * Reckons the EXPRESSIONS in a part of the row, from its end to its beginning, so that no depth of
         * theirs needs a call of its own; the stack has the last one's value lowest.
         */
        void reckon(int from, int to, int[] words, int[] stack) {
            int n = 0;
            for (int p = Math.min(to, length) - 1; p >= from && p >= 0; p--) {
                int c = cells[p];
                if (isOperation(c)) {
                    if (n >= 2 && n <= stack.length) {
                        stack[n - 2] = result(c, stack[n - 1], stack[n - 2]);
                        n--;
                    }
                } else if (n < stack.length) {
                    int v = c - READ;
                    stack[n] = v < 0 ? c : v < words.length ? words[v] : 0;
                    n++;
                }
            }
        }
    }

    /** The bytes that were fed, and the TOKEN of them that is looked at. */
    private static final class Tape {
        static final int ROOM = 800;

        // A sign's kind is its own number; these lie below all signs.
        static final int NO_TOKEN = 0;
        static final int OVER = 1;
        static final int NUMBER = 2;
        static final int LETTER = 3;
        static final int WORD_OUT = 4;
        static final int WORD_FAIL = 5;
        static final int WORD_IF = 6;
        static final int WORD_ELSE = 7;
        static final int WORD_WHILE = 8;
        static final int ARROW = 9;

        final int[] bytes;
        int length;
        int kind;
        int value;
        int place;
        int next;

        Tape() {
            bytes = new int[ROOM];
            length = 0;
        }

        void put(int number) {
            for (int shift = 24; shift >= 0 && length < bytes.length; shift -= 8) {
                bytes[length] = number >>> shift & 255;
                length++;
            }
        }

        boolean shorten(int n) {
            if (n < 0 || n > length) {
                return false;
            }
            length = n;
            return true;
        }

        void rewind() {
            next = 0;
            place = 0;
            kind = NO_TOKEN;
            value = 0;
        }

        int byteAt(int p) {
            return p >= 0 && p < length ? bytes[p] : NONE;
        }

        void advance(boolean inRule) {
            place = next;
            for (int p = next; p < length && (byteAt(p) == 32 || byteAt(p) == 10); p++) {
                place = p + 1;
            }
            int c = byteAt(place);
            if (isLetter(c)) {
                takeLetters();
            } else if (isDigit(c)) {
                takeDigits();
            } else {
                takeSign(c, inRule);
            }
        }

        private static boolean isLetter(int c) {
            return isSmallLetter(c) || c >= 'A' && c <= 'Z';
        }

        private static boolean isSmallLetter(int c) {
            return c >= 'a' && c <= 'z';
        }

        private static boolean isDigit(int c) {
            return c >= '0' && c <= '9';
        }

        private void takeLetters() {
            next = place;
            for (int p = place; p < length && isLetter(byteAt(p)); p++) {
                next = p + 1;
            }
            value = byteAt(place) - 'a';
            if (next - place == 1) {
                // A capital alone can stand nowhere, neither as a VARIABLE nor as a RULE's letter.
                kind = isSmallLetter(byteAt(place)) ? LETTER : NO_TOKEN;
            } else if (isText("out")) {
                kind = WORD_OUT;
            } else if (isText("fail")) {
                kind = WORD_FAIL;
            } else if (isText("if")) {
                kind = WORD_IF;
            } else if (isText("else")) {
                kind = WORD_ELSE;
            } else {
                kind = isText("while") ? WORD_WHILE : NO_TOKEN;
            }
        }

        private boolean isText(String text) {
            if (text.length() != next - place) {
                return false;
            }
            for (int i = 0; i < text.length(); i++) {
                if (byteAt(place + i) != text.charAt(i)) {
                    return false;
                }
            }
            return true;
        }

        private void takeDigits() {
            next = place;
            value = 0;
            for (int p = place; p < length && isDigit(byteAt(p)); p++) {
                // A NUMBER has at most four digits; of more the value is not asked.
                value = p - place < 4 ? value * 10 + byteAt(p) - '0' : value;
                next = p + 1;
            }
            kind = next - place <= 4 ? NUMBER : NO_TOKEN;
        }

        private void takeSign(int c, boolean inRule) {
            next = place + 1;
            if (c == NONE) {
                kind = OVER;
                next = place;
            } else if (inRule && c == '-' && byteAt(place + 1) == '>') {
                kind = ARROW;
                next = place + 2;
            } else {
                kind = isSign(c) ? c : NO_TOKEN;
            }
        }

        private static boolean isSign(int c) {
            boolean ofExpression = c == '+' || c == '-' || c == '*' || c == '(' || c == ')';
            boolean ofTest = c == '<' || c == '=' || c == '>';
            return ofExpression || ofTest || c == ';' || c == '{' || c == '}';
        }
    }

    /** Reads the TAPE by one TOKEN after the other, so that the first FAULT by its place is the first one found. */
    private static final class Reader {
        private static final int AT_STATEMENT = 0;
        private static final int BEHIND_THEN = 1;
        private static final int AT_ELSE_BRACE = 2;
        private static final int AT_SET_SIGN = 3;
        private static final int AT_SEMICOLON = 4;
        private static final int AT_OPERAND = 5;
        private static final int BEHIND_OPERAND = 6;

        private static final int FOR_VALUE = 0;
        private static final int FOR_TEST_LEFT = 1;
        private static final int FOR_TEST_RIGHT = 2;
        private static final int FOR_RULE_LEFT = 3;
        private static final int FOR_RULE_RIGHT = 4;

        private static final int PARENTHESIS = 0;

        final Tape tape;
        int fault;
        int faultPlace;
        private Row row;
        private Rule rule;
        private int state;
        private int purpose;
        private int statements;
        private int things;
        private int mostThings;
        private int sumStart;
        private int productStart;
        private int testPlace;
        private int opened;
        private final int[] openKinds;
        private final int[] openSums;
        private final int[] openProducts;

        Reader() {
            tape = new Tape();
            row = new Row(1);
            openKinds = new int[MOST_OPEN];
            openSums = new int[MOST_OPEN];
            openProducts = new int[MOST_OPEN];
            fault = 0;
            faultPlace = NONE;
        }

        /** The TAPE is empty, and no FAULT is told, where there is no place for what it says. */
        void drop() {
            fault = 0;
            faultPlace = NONE;
            tape.shorten(0);
        }

        void beginProgram(Row into) {
            begin(into, null, MOST_EXPRESSIONS);
            state = AT_STATEMENT;
        }

        void beginRule(Rule into) {
            into.forget();
            begin(into.left, into, MOST_IN_RULE);
            beginExpression(FOR_RULE_LEFT);
        }

        private void begin(Row into, Rule of, int most) {
            fault = 0;
            faultPlace = NONE;
            row = into;
            row.length = 0;
            rule = of;
            statements = 0;
            things = 0;
            mostThings = most;
            opened = 0;
            tape.rewind();
        }

        /** Tells whether the TAPE, empty then, had no FAULT. */
        boolean readAll() {
            for (int n = 0; n <= Tape.ROOM && fault == 0 && tape.kind != Tape.OVER; n++) {
                tape.advance(rule != null);
                switch (state) {
                    case BEHIND_THEN:
                        takeBehindThen();
                        break;
                    case AT_ELSE_BRACE:
                        takeElseBrace();
                        break;
                    case AT_SET_SIGN:
                        takeSetSign();
                        break;
                    case AT_SEMICOLON:
                        takeSemicolon();
                        break;
                    case AT_OPERAND:
                        takeOperand();
                        break;
                    case BEHIND_OPERAND:
                        takeBehindOperand();
                        break;
                    default:
                        takeStatement();
                }
            }
            tape.shorten(0);
            return fault == 0;
        }

        private void refuse(int what) {
            fault = what;
            faultPlace = tape.place;
        }

        private void takeBehindThen() {
            if (tape.kind == Tape.WORD_ELSE) {
                state = AT_ELSE_BRACE;
            } else {
                row.add(CLOSE);
                state = AT_STATEMENT;
                takeStatement();
            }
        }

        private void takeElseBrace() {
            if (tape.kind == '{') {
                openBlock(ELSE);
            } else {
                refuse(1);
            }
        }

        private void takeSetSign() {
            if (tape.kind == '=') {
                beginExpression(FOR_VALUE);
            } else {
                refuse(1);
            }
        }

        private void takeSemicolon() {
            if (tape.kind == ';') {
                state = AT_STATEMENT;
            } else {
                refuse(1);
            }
        }

        private void takeStatement() {
            int kind = tape.kind;
            if (kind == Tape.OVER && opened == 0) {
                return;
            }
            if (kind == '}' && opened > 0) {
                closeBlock();
                return;
            }
            boolean sets = kind == Tape.LETTER && tape.value < VARIABLES;
            boolean acts = kind == Tape.WORD_OUT || kind == Tape.WORD_FAIL;
            boolean branches = kind == Tape.WORD_IF || kind == Tape.WORD_WHILE;
            if (!sets && !acts && !branches) {
                refuse(1);
            } else if (statements >= MOST_STATEMENTS) {
                refuse(3);
            } else {
                statements++;
                beginStatement(kind);
            }
        }

        private void beginStatement(int kind) {
            if (kind == Tape.WORD_OUT) {
                row.add(OUT);
                beginExpression(FOR_VALUE);
            } else if (kind == Tape.WORD_FAIL) {
                row.add(FAIL);
                state = AT_SEMICOLON;
            } else if (kind == Tape.LETTER) {
                row.add(SET + tape.value);
                state = AT_SET_SIGN;
            } else {
                row.add(kind == Tape.WORD_IF ? IF : WHILE);
                testPlace = row.length;
                row.add(LESS);
                beginExpression(FOR_TEST_LEFT);
            }
        }

        private void beginExpression(int why) {
            purpose = why;
            sumStart = row.length;
            productStart = row.length;
            state = AT_OPERAND;
        }

        private void takeOperand() {
            if (tape.kind == '(') {
                if (open(PARENTHESIS)) {
                    sumStart = row.length;
                    productStart = row.length;
                }
            } else if (tape.kind == Tape.NUMBER) {
                takeNumber();
            } else if (tape.kind == Tape.LETTER) {
                takeLetter();
            } else {
                refuse(1);
            }
        }

        private void takeNumber() {
            if (tape.value >= WORDS) {
                refuse(2);
            } else if (countThing()) {
                row.add(tape.value);
                state = BEHIND_OPERAND;
            }
        }

        private void takeLetter() {
            int v = rule == null ? tape.value : tape.value - ('x' - 'a');
            if (v < 0 || v >= (rule == null ? VARIABLES : LETTERS)) {
                refuse(1);
            } else if (purpose == FOR_RULE_RIGHT && rule != null && !rule.hasLetter(v)) {
                refuse(2);
            } else if (countThing()) {
                row.add(READ + v);
                state = BEHIND_OPERAND;
            }
        }

        private boolean countThing() {
            if (things >= mostThings) {
                refuse(3);
                return false;
            }
            things++;
            return true;
        }

        private void takeBehindOperand() {
            int kind = tape.kind;
            boolean inParenthesis = opened > 0 && opened <= MOST_OPEN && openKinds[opened - 1] == PARENTHESIS;
            if (kind == '+' || kind == '-' || kind == '*') {
                takeOperation(kind);
            } else if (!inParenthesis) {
                endExpression(kind);
            } else if (kind == ')') {
                opened--;
                sumStart = openSums[opened];
                productStart = openProducts[opened];
            } else {
                refuse(1);
            }
        }

        private void takeOperation(int kind) {
            if (!countThing()) {
                return;
            }
            // The sign comes when its left side is written, and goes ahead of that.
            if (kind == '*') {
                row.insert(productStart, TIMES);
            } else {
                row.insert(sumStart, kind == '+' ? PLUS : MINUS);
                productStart = row.length;
            }
            state = AT_OPERAND;
        }

        private void endExpression(int kind) {
            boolean tests = kind == '<' || kind == '=' || kind == '>';
            if (purpose == FOR_VALUE && kind == ';') {
                state = AT_STATEMENT;
            } else if (purpose == FOR_TEST_LEFT && tests) {
                row.change(testPlace, kind == '<' ? LESS : kind == '=' ? EQUAL : MORE);
                beginExpression(FOR_TEST_RIGHT);
            } else if (purpose == FOR_TEST_RIGHT && kind == '{') {
                openBlock(row.cell(testPlace - 1));
            } else if (purpose == FOR_RULE_LEFT && kind == Tape.ARROW && rule != null) {
                rule.noteLetters();
                row = rule.right;
                beginExpression(FOR_RULE_RIGHT);
            } else if (purpose != FOR_RULE_RIGHT || kind != Tape.OVER) {
                refuse(1);
            }
        }

        private void openBlock(int kind) {
            if (open(kind)) {
                state = AT_STATEMENT;
            }
        }

        private boolean open(int kind) {
            if (opened < 0 || opened >= MOST_OPEN) {
                refuse(3);
                return false;
            }
            openKinds[opened] = kind;
            openSums[opened] = sumStart;
            openProducts[opened] = productStart;
            opened++;
            return true;
        }

        private void closeBlock() {
            if (opened <= 0 || opened > MOST_OPEN) {
                return;
            }
            opened--;
            if (openKinds[opened] == IF) {
                row.add(ELSE);
                state = BEHIND_THEN;
            } else {
                row.add(CLOSE);
                state = AT_STATEMENT;
            }
        }
    }

    /** Where each STATEMENT of a PROGRAM goes on, and what is LIVE ahead of it. */
    private static final class Flow {
        static final int OVER = -1;
        // Each round but the last adds one of six VARIABLES at one of 40 STATEMENTS at least.
        private static final int MOST_ROUNDS = MOST_STATEMENTS * VARIABLES + 1;

        Row row;
        int count;
        final int[] place;
        final int[] kinds;
        final int[] from;
        final int[] to;
        final int[] yes;
        final int[] no;
        private final int[] reads;
        private final int[] sets;
        private final int[] ahead;
        private final int[] behindAll;
        private final int[] open;
        private final int[] owner;

        Flow() {
            row = new Row(1);
            place = new int[MOST_STATEMENTS];
            kinds = new int[MOST_STATEMENTS];
            from = new int[MOST_STATEMENTS];
            to = new int[MOST_STATEMENTS];
            yes = new int[MOST_STATEMENTS];
            no = new int[MOST_STATEMENTS];
            reads = new int[MOST_STATEMENTS];
            sets = new int[MOST_STATEMENTS];
            ahead = new int[MOST_STATEMENTS];
            behindAll = new int[MOST_STATEMENTS];
            open = new int[MOST_STATEMENTS];
            owner = new int[ROW_ROOM];
            count = 0;
        }

        void trace(Row of) {
            row = of;
            number();
            link();
            settle();
        }

        int setBy(int i) {
            return isHere(i) ? sets[i] : 0;
        }

        int aheadOf(int i) {
            return isHere(i) ? ahead[i] : 0;
        }

        int behind(int i) {
            return isHere(i) ? aheadOf(yes[i]) | aheadOf(no[i]) : 0;
        }

        boolean isHere(int i) {
            return i >= 0 && i < count && i < MOST_STATEMENTS;
        }

        private void number() {
            int depth = 0;
            count = 0;
            for (int p = 0; p < row.length && p < owner.length; p++) {
                int c = row.cell(p);
                owner[p] = OVER;
                if (Row.isStatement(c) && count < MOST_STATEMENTS) {
                    owner[p] = count;
                    if (Row.isBranch(c) && depth < open.length) {
                        open[depth] = count;
                        depth++;
                    }
                    begin(p, c);
                } else if (c == ELSE && depth > 0) {
                    owner[p] = open[depth - 1];
                } else if (c == CLOSE && depth > 0) {
                    depth--;
                    owner[p] = open[depth];
                } else if (Row.isExpression(c) && isHere(count - 1)) {
                    to[count - 1] = p + 1;
                    reads[count - 1] |= Row.isRead(c) ? 1 << c - READ : 0;
                }
            }
        }

        private void begin(int p, int c) {
            if (count >= MOST_STATEMENTS) {
                return;
            }
            place[count] = p;
            kinds[count] = c;
            sets[count] = Row.isSet(c) ? 1 << c - SET : 0;
            from[count] = Row.isBranch(c) ? p + 2 : p + 1;
            to[count] = from[count];
            reads[count] = 0;
            yes[count] = OVER;
            no[count] = OVER;
            count++;
        }

        private void link() {
            int next = OVER;
            for (int p = Math.min(row.length, owner.length) - 1; p >= 0; p--) {
                int i = owner[p];
                if (isHere(i)) {
                    next = linkAt(row.cell(p), i, next);
                }
            }
        }

        private int linkAt(int c, int i, int next) {
            if (!isHere(i)) {
                return next;
            }
            if (c == CLOSE) {
                behindAll[i] = next;
                return kinds[i] == WHILE ? i : next;
            }
            if (c == ELSE) {
                no[i] = next;
                return behindAll[i];
            }
            if (c != FAIL) {
                yes[i] = next;
            }
            if (c == WHILE) {
                no[i] = behindAll[i];
            }
            return i;
        }

        private void settle() {
            for (int i = 0; i < count && i < MOST_STATEMENTS; i++) {
                ahead[i] = 0;
            }
            boolean changed = true;
            for (int round = 0; round < MOST_ROUNDS && changed; round++) {
                changed = false;
                for (int i = Math.min(count, MOST_STATEMENTS) - 1; i >= 0; i--) {
                    int live = reads[i] | (aheadOf(yes[i]) | aheadOf(no[i])) & ~sets[i];
                    changed = changed || live != ahead[i];
                    ahead[i] = live;
                }
            }
        }
    }

    /** RUNS a PROGRAM. */
    private static final class Machine {
        private static final int FAILED = -2;

        final Flow flow;
        final int[] outputs;
        int outputCount;
        int steps;
        int ending;
        private final int[] words;
        private final int[] stack;

        Machine() {
            flow = new Flow();
            outputs = new int[MOST_STEPS];
            words = new int[VARIABLES];
            stack = new int[MOST_EXPRESSIONS];
        }

        void go(int a, int b) {
            for (int v = 0; v < words.length; v++) {
                words[v] = v == 0 ? a : v == 1 ? b : 0;
            }
            outputCount = 0;
            int i = flow.count > 0 ? 0 : Flow.OVER;
            for (steps = 0; steps < MOST_STEPS && i >= 0; steps++) {
                i = doStatement(i);
            }
            ending = i == FAILED ? 1 : i >= 0 ? 2 : 0;
        }

        boolean isTired() {
            return ending == 2;
        }

        int tell(int what) {
            if (what == 0) {
                return ending;
            }
            if (what == 1) {
                return steps;
            }
            if (what == 2) {
                return outputCount;
            }
            if (what >= 10 && what < 10 + VARIABLES) {
                return words[what - 10];
            }
            return what >= 100 ? output(what - 100) : NONE;
        }

        int output(int k) {
            return k >= 0 && k < outputCount && k < outputs.length ? outputs[k] : NONE;
        }

        private int doStatement(int i) {
            if (!flow.isHere(i)) {
                return Flow.OVER;
            }
            int kind = flow.kinds[i];
            if (kind == FAIL) {
                return FAILED;
            }
            flow.row.reckon(flow.from[i], flow.to[i], words, stack);
            if (Row.isBranch(kind)) {
                boolean so = Row.holds(flow.row.cell(flow.place[i] + 1), stack[1], stack[0]);
                return so ? flow.yes[i] : flow.no[i];
            }
            if (kind == OUT && outputCount < outputs.length) {
                outputs[outputCount] = stack[0];
                outputCount++;
            } else if (Row.isSet(kind)) {
                words[kind - SET] = stack[0];
            }
            return flow.yes[i];
        }
    }

    /** Tries two PROGRAMS on all INPUTS. */
    private static final class Judge {
        int first;
        int firstPlace;
        int parted;
        private boolean tired;
        private final Machine one;
        private final Machine other;

        Judge() {
            one = new Machine();
            other = new Machine();
            first = NONE;
            firstPlace = NONE;
        }

        int verdict() {
            return parted > 0 ? 1 : tired ? 2 : 0;
        }

        /** Whether they PART; what is asked of all INPUTS is right alone if it doesn't end at the first ones. */
        boolean compare(Row p, Row q, boolean endAtFirst) {
            first = NONE;
            firstPlace = NONE;
            parted = 0;
            tired = false;
            one.flow.trace(p);
            other.flow.trace(q);
            // An input that neither reads ahead of setting it changes nothing: one WORD stands for all 16.
            int live = one.flow.aheadOf(0) | other.flow.aheadOf(0);
            int stepA = (live & 1) != 0 ? 1 : WORDS;
            int stepB = (live & 2) != 0 ? 1 : WORDS;
            for (int a = 0; a < WORDS; a += stepA) {
                for (int b = 0; b < WORDS; b += stepB) {
                    one.go(a, b);
                    other.go(a, b);
                    note(WORDS * a + b, stepA * stepB);
                    if (endAtFirst && parted > 0) {
                        return true;
                    }
                }
            }
            return parted > 0;
        }

        private void note(int inputs, int weight) {
            int place = placeThatDiffers();
            boolean oneTired = one.isTired() || other.isTired();
            boolean unlike = one.outputCount != other.outputCount || one.ending != other.ending;
            tired = tired || oneTired;
            if (place == NONE && (oneTired || !unlike)) {
                return;
            }
            if (parted == 0) {
                first = inputs;
                firstPlace = place;
            }
            parted += weight;
        }

        private int placeThatDiffers() {
            int both = Math.min(one.outputCount, other.outputCount);
            for (int k = 0; k < both; k++) {
                if (one.output(k) != other.output(k)) {
                    return k;
                }
            }
            return NONE;
        }
    }

    /** A RULE: where it MATCHES, and what it makes there. */
    private static final class Rule {
        final Row left;
        final Row right;
        private int letters;
        private final int[] starts;
        private final int[] ends;

        Rule() {
            left = new Row(MOST_IN_RULE);
            right = new Row(MOST_IN_RULE);
            starts = new int[LETTERS];
            ends = new int[LETTERS];
            letters = 0;
        }

        void forget() {
            left.length = 0;
            right.length = 0;
            letters = 0;
        }

        void noteLetters() {
            letters = 0;
            for (int k = 0; k < left.length; k++) {
                int letter = letterOf(left.cell(k));
                letters |= letter == NONE ? 0 : 1 << letter;
            }
        }

        boolean hasLetter(int letter) {
            return letter >= 0 && letter < LETTERS && (letters >> letter & 1) != 0;
        }

        static int letterOf(int c) {
            return c >= READ && c < READ + LETTERS ? c - READ : NONE;
        }

        int countIn(Row row) {
            int n = 0;
            for (int k = 0; k < row.length; k++) {
                if (matches(row, k)) {
                    n++;
                }
            }
            return n;
        }

        int placeIn(Row row, int nth) {
            int n = 0;
            for (int k = 0; k < row.length && nth >= 0; k++) {
                if (matches(row, k)) {
                    if (n == nth) {
                        return k;
                    }
                    n++;
                }
            }
            return NONE;
        }

        private boolean matches(Row row, int k) {
            if (!Row.isExpression(row.cell(k))) {
                return false;
            }
            for (int l = 0; l < LETTERS; l++) {
                starts[l] = NONE;
                ends[l] = NONE;
            }
            int p = k;
            for (int i = 0; i < left.length; i++) {
                int letter = letterOf(left.cell(i));
                if (letter != NONE) {
                    int end = row.expressionEnd(p);
                    if (!bind(row, letter, p, end)) {
                        return false;
                    }
                    p = end;
                } else if (left.cell(i) == row.cell(p)) {
                    p++;
                } else {
                    return false;
                }
            }
            return true;
        }

        private boolean bind(Row row, int letter, int from, int to) {
            if (letter < 0 || letter >= LETTERS) {
                return false;
            }
            if (starts[letter] != NONE) {
                int n = to - from;
                return ends[letter] - starts[letter] == n && row.repeats(starts[letter], from, n);
            }
            starts[letter] = from;
            ends[letter] = to;
            return true;
        }

        /** False if what would come has too many EXPRESSIONS; of these each is one number of THE ROW. */
        boolean rewrite(Row row, int k, Row into) {
            if (!matches(row, k)) {
                return false;
            }
            int end = row.expressionEnd(k);
            if (row.expressions() - (end - k) + lengthOfRight() > MOST_EXPRESSIONS) {
                return false;
            }
            into.length = 0;
            into.addPart(row, 0, k);
            for (int i = 0; i < right.length; i++) {
                int letter = letterOf(right.cell(i));
                if (letter == NONE) {
                    into.add(right.cell(i));
                } else {
                    into.addPart(row, starts[letter], ends[letter]);
                }
            }
            into.addPart(row, end, row.length);
            return true;
        }

        private int lengthOfRight() {
            int n = 0;
            for (int i = 0; i < right.length; i++) {
                int letter = letterOf(right.cell(i));
                n += letter == NONE ? 1 : ends[letter] - starts[letter];
            }
            return n;
        }
    }

    /** Tells whether a RULE is RIGHT, by all WORDS or by its FORMS. */
    private static final class Proof {
        private static final int MOST_TIMES = 7;
        // A product's place in a FORM has three bits for how often each letter comes in it.
        private static final int PRODUCTS = 512;
        // A side of 39 numbers never has more than 20 of its parts waiting for their operation.
        private static final int WAITING = 20;

        int first;
        int wrongs;
        private final int[] words;
        private final int[] stack;
        private final int[][] forms;
        private final int[] leftForm;
        private final int[] product;

        Proof() {
            words = new int[LETTERS];
            stack = new int[MOST_IN_RULE];
            forms = new int[WAITING][PRODUCTS];
            leftForm = new int[PRODUCTS];
            product = new int[PRODUCTS];
            first = NONE;
        }

        void tryAll(Rule rule) {
            first = NONE;
            wrongs = 0;
            int mostX = rule.hasLetter(0) ? WORDS : 1;
            int mostY = rule.hasLetter(1) ? WORDS : 1;
            int mostZ = rule.hasLetter(2) ? WORDS : 1;
            for (int x = 0; x < mostX; x++) {
                for (int y = 0; y < mostY; y++) {
                    for (int z = 0; z < mostZ; z++) {
                        tryOne(rule, x, y, z);
                    }
                }
            }
        }

        private void tryOne(Rule rule, int x, int y, int z) {
            words[0] = x;
            words[1] = y;
            words[2] = z;
            if (valueOf(rule.left) == valueOf(rule.right)) {
                return;
            }
            if (wrongs == 0) {
                first = (x * WORDS + y) * WORDS + z;
            }
            wrongs++;
        }

        private int valueOf(Row side) {
            side.reckon(0, side.length, words, stack);
            return stack[0];
        }

        int compareForms(Rule rule) {
            if (!hasForm(rule.left) || !hasForm(rule.right)) {
                return NONE;
            }
            multiplyOut(rule.left);
            System.arraycopy(forms[0], 0, leftForm, 0, PRODUCTS);
            multiplyOut(rule.right);
            for (int m = 0; m < PRODUCTS; m++) {
                if (forms[0][m] != leftForm[m]) {
                    return 0;
                }
            }
            return 1;
        }

        private boolean hasForm(Row side) {
            for (int letter = 0; letter < LETTERS; letter++) {
                if (mostTimes(side, letter) > MOST_TIMES) {
                    return false;
                }
            }
            return true;
        }

        /** How often a letter comes in a product at most: products of factor 0 count, so the factors don't matter. */
        private int mostTimes(Row side, int letter) {
            int n = 0;
            for (int p = side.length - 1; p >= 0; p--) {
                int c = side.cell(p);
                if (!Row.isOperation(c) && n < stack.length) {
                    stack[n] = c == READ + letter ? 1 : 0;
                    n++;
                } else if (n >= 2 && n <= stack.length) {
                    int l = stack[n - 1];
                    int r = stack[n - 2];
                    stack[n - 2] = c == TIMES ? l + r : Math.max(l, r);
                    n--;
                }
            }
            return n > 0 ? stack[0] : 0;
        }

        private void multiplyOut(Row side) {
            int n = 0;
            for (int p = side.length - 1; p >= 0; p--) {
                int c = side.cell(p);
                if (!Row.isOperation(c) && n < WAITING) {
                    beginForm(forms[n], c);
                    n++;
                } else if (n >= 2 && n <= WAITING) {
                    if (c == TIMES) {
                        multiply(forms[n - 1], forms[n - 2]);
                    } else {
                        addUp(forms[n - 1], forms[n - 2], c);
                    }
                    n--;
                }
            }
        }

        private void beginForm(int[] form, int c) {
            for (int m = 0; m < form.length; m++) {
                form[m] = 0;
            }
            int letter = Rule.letterOf(c);
            int m = letter == NONE ? 0 : 1 << 3 * letter;
            if (m < form.length) {
                form[m] = letter == NONE ? c & (WORDS - 1) : 1;
            }
        }

        private void addUp(int[] left, int[] into, int operation) {
            for (int m = 0; m < left.length && m < into.length; m++) {
                into[m] = Row.result(operation, left[m], into[m]);
            }
        }

        private void multiply(int[] left, int[] into) {
            for (int m = 0; m < PRODUCTS; m++) {
                product[m] = 0;
            }
            for (int i = 0; i < left.length; i++) {
                if (left[i] != 0) {
                    addMultiple(i, left[i], into);
                }
            }
            System.arraycopy(product, 0, into, 0, Math.min(PRODUCTS, into.length));
        }

        private void addMultiple(int by, int factor, int[] form) {
            // hasForm() saw to it that no letter's three bits overflow in the sum of two places.
            for (int m = 0; m < form.length && by + m < PRODUCTS; m++) {
                product[by + m] = product[by + m] + factor * form[m] & (WORDS - 1);
            }
        }
    }

    /** The built ITEMS of a PASS. */
    private static final class Acts {
        final Row spare;
        private final Flow flow;

        Acts() {
            spare = new Row(WORK_ROOM);
            flow = new Flow();
        }

        void fold(Row row) {
            foldOperations(row);
            for (int k = row.length - 1; k >= 0; k--) {
                boolean known = Row.isNumber(row.cell(k + 2)) && Row.isNumber(row.cell(k + 3));
                if (Row.isBranch(row.cell(k)) && known) {
                    foldBranch(row, k, Row.holds(row.cell(k + 1), row.cell(k + 2), row.cell(k + 3)));
                }
            }
        }

        /** From the row's end to its beginning, so that an operation's sides are folded ahead of it. */
        private void foldOperations(Row row) {
            for (int k = row.length - 1; k >= 0; k--) {
                int c = row.cell(k);
                int left = row.cell(k + 1);
                int right = row.cell(k + 2);
                if (Row.isOperation(c) && Row.isNumber(left) && Row.isNumber(right)) {
                    row.change(k, Row.result(c, left, right));
                    row.remove(k + 1, k + 3);
                }
            }
        }

        private void foldBranch(Row row, int k, boolean so) {
            int close = row.closeOf(k);
            if (row.cell(k) == WHILE) {
                if (!so) {
                    row.remove(k, close + 1);
                }
                return;
            }
            int middle = row.elseOf(k);
            if (so) {
                row.remove(middle, close + 1);
                row.remove(k, k + 4);
            } else {
                row.remove(close, close + 1);
                row.remove(k, middle + 1);
            }
        }

        void dead(Row row) {
            boolean changed = true;
            for (int round = 0; round <= MOST_STATEMENTS && changed; round++) {
                changed = false;
                flow.trace(row);
                for (int i = flow.count - 1; i >= 0; i--) {
                    int set = flow.setBy(i);
                    if (set != 0 && (set & flow.behind(i)) == 0 && flow.isHere(i)) {
                        row.remove(flow.place[i], flow.to[i]);
                        changed = true;
                    }
                }
            }
        }

        void hastyDead(Row row) {
            // What is taken out is read by nothing behind it: one way from the last to the first is enough.
            for (int k = row.length - 1; k >= 0; k--) {
                int c = row.cell(k);
                int end = row.expressionEnd(k + 1);
                if (Row.isSet(c) && !row.has(c - SET + READ, end, row.length)) {
                    row.remove(k, end);
                }
            }
        }

        void hastyCopy(Row row) {
            for (int k = 0; k < row.length; k++) {
                int v = row.cell(k) - SET;
                int w = row.cell(k + 1) - READ;
                if (Row.isSet(row.cell(k)) && Row.isRead(row.cell(k + 1)) && v != w) {
                    copyBehind(row, k + 2, v, w);
                }
            }
        }

        private void copyBehind(Row row, int behind, int v, int w) {
            int k = behind;
            for (int n = 0; n < MOST_STATEMENTS && Row.isStatement(row.cell(k)); n++) {
                int end = row.statementEnd(k);
                boolean sets = row.has(SET + v, k, end);
                if (sets && Row.isBranch(row.cell(k))) {
                    return;
                }
                row.replace(READ + v, READ + w, k, end);
                if (sets) {
                    return;
                }
                k = end;
            }
        }

        void unroll(Row row) {
            spare.length = 0;
            for (int k = 0; k < row.length; k++) {
                if (row.cell(k) == WHILE) {
                    int close = row.closeOf(k);
                    spare.add(IF);
                    spare.addPart(row, k + 1, close);
                    spare.addPart(row, k, close + 1);
                    spare.add(ELSE);
                    spare.add(CLOSE);
                    k = Math.max(k, close);
                } else {
                    spare.add(row.cell(k));
                }
            }
            row.copy(spare);
        }
    }

    /** PASSES, what they make of PROGRAMS, and what is wrong with that. */
    private static final class Passes {
        private static final int MOST_APPLIED = 50;

        final Judge judgement;
        final Row made;
        final Row kept;
        int bad;
        int badInputs;
        private final Rule[] rules;
        private final int[][] items;
        private final int[] counts;
        private final Acts acts;
        private final Row trial;

        Passes() {
            rules = new Rule[MOST_RULES];
            for (int r = 0; r < MOST_RULES; r++) {
                rules[r] = new Rule();
            }
            items = new int[PASSES][MOST_ITEMS];
            counts = new int[PASSES];
            acts = new Acts();
            made = new Row(WORK_ROOM);
            kept = new Row(ROW_ROOM);
            trial = new Row(ROW_ROOM);
            judgement = new Judge();
            bad = NONE;
            badInputs = NONE;
        }

        Rule ruleAt(int r) {
            return r >= 0 && r < rules.length ? rules[r] : null;
        }

        private static boolean isPass(int pass) {
            return pass >= 0 && pass < PASSES;
        }

        int addItem(int pass, int v) {
            if (!isPass(pass) || counts[pass] >= MOST_ITEMS) {
                return NONE;
            }
            items[pass][counts[pass]] = v;
            counts[pass]++;
            return counts[pass];
        }

        boolean dropItems(int pass) {
            if (!isPass(pass)) {
                return false;
            }
            counts[pass] = 0;
            return true;
        }

        /** False if the PASS FAILS or there is none such. */
        boolean makeOf(int pass, Row row) {
            if (!isPass(pass)) {
                return false;
            }
            made.copy(row);
            for (int i = 0; i < counts[pass] && i < MOST_ITEMS; i++) {
                boolean good = true;
                switch (items[pass][i]) {
                    case FOLD:
                        acts.fold(made);
                        break;
                    case DEAD:
                        acts.dead(made);
                        break;
                    case HASTY_DEAD:
                        acts.hastyDead(made);
                        break;
                    case HASTY_COPY:
                        acts.hastyCopy(made);
                        break;
                    case UNROLL:
                        acts.unroll(made);
                        break;
                    default:
                        good = applyRule(ruleAt(items[pass][i]));
                }
                if (!good || made.isTooLarge()) {
                    return false;
                }
            }
            return true;
        }

        private boolean applyRule(Rule rule) {
            if (rule == null) {
                return false;
            }
            for (int n = 0; n < MOST_APPLIED; n++) {
                int place = rule.placeIn(made, 0);
                if (place == NONE) {
                    return true;
                }
                if (!rule.rewrite(made, place, acts.spare)) {
                    return false;
                }
                made.copy(acts.spare);
            }
            return true;
        }

        void findBad(Row row) {
            bad = NONE;
            badInputs = NONE;
            kept.copy(row);
            for (int pass = 0; pass < PASSES && bad == NONE; pass++) {
                if (!makeOf(pass, kept)) {
                    bad = pass;
                } else if (madeWrong(kept)) {
                    bad = pass;
                    badInputs = judgement.first;
                } else {
                    kept.copy(made);
                }
            }
        }

        private boolean madeWrong(Row before) {
            return !before.isLike(made) && judgement.compare(before, made, true);
        }

        /** False if what the PASS makes of the PROGRAM is not WRONG, or that can't be asked. */
        boolean cutDown(int pass, Row row) {
            int n = row.statements();
            if (n < 1 || n > MOST_TO_CUT || !makeOf(pass, row) || !madeWrong(row)) {
                return false;
            }
            kept.copy(row);
            boolean changed = true;
            for (int round = 0; round < MOST_TO_CUT && changed; round++) {
                changed = false;
                for (int k = 0; k < kept.length && !changed; k++) {
                    if (Row.isStatement(kept.cell(k))) {
                        trial.copy(kept);
                        trial.remove(k, kept.statementEnd(k));
                        changed = makeOf(pass, trial) && madeWrong(trial);
                    }
                }
                if (changed) {
                    kept.copy(trial);
                }
            }
            return true;
        }
    }

    /** Which VARIABLES of a PROGRAM CLASH, and the REGISTERS that they get. */
    private static final class Registers {
        private final Flow flow;
        private final int[] clashes;
        private final int[] comings;
        private final int[] given;
        private int present;

        Registers() {
            flow = new Flow();
            clashes = new int[VARIABLES];
            comings = new int[VARIABLES];
            given = new int[VARIABLES];
        }

        void study(Row row) {
            flow.trace(row);
            present = 0;
            for (int v = 0; v < VARIABLES; v++) {
                clashes[v] = 0;
                comings[v] = 0;
            }
            for (int k = 0; k < row.length; k++) {
                count(row.cell(k));
            }
            for (int i = 0; i < flow.count; i++) {
                noteClashes(flow.aheadOf(i), flow.aheadOf(i));
                noteClashes(flow.setBy(i), flow.behind(i));
            }
        }

        private void count(int c) {
            int v = Row.isSet(c) ? c - SET : Row.isRead(c) ? c - READ : NONE;
            if (isVariable(v)) {
                comings[v]++;
                present |= 1 << v;
            }
        }

        /** Each of one set with each other of the other set. */
        private void noteClashes(int some, int others) {
            for (int v = 0; v < VARIABLES; v++) {
                int itself = 1 << v;
                if ((some & itself) != 0) {
                    clashes[v] |= others & ~itself;
                }
                if ((others & itself) != 0) {
                    clashes[v] |= some & ~itself;
                }
            }
        }

        boolean clashing(int v, int w) {
            return isVariable(v) && isVariable(w) && (clashes[v] >> w & 1) != 0;
        }

        int fewest() {
            for (int k = 0; k < VARIABLES; k++) {
                if (deal(0, present, k)) {
                    return k;
                }
            }
            deal(0, present, VARIABLES);
            return VARIABLES;
        }

        int registerOf(int v) {
            fewest();
            return isVariable(v) ? given[v] : NONE;
        }

        int spills(int k) {
            int best = present;
            int least = comingsOf(present);
            for (int set = 0; set < 1 << VARIABLES; set++) {
                int cost = comingsOf(set);
                if (cost < least && deal(0, present & ~set, k)) {
                    best = set;
                    least = cost;
                }
            }
            return best;
        }

        private int comingsOf(int set) {
            int n = 0;
            for (int v = 0; v < VARIABLES; v++) {
                n += (set >> v & 1) != 0 ? comings[v] : 0;
            }
            return n;
        }

        /** Deals k REGISTERS to VARIABLE v and those behind it: the first dealing by a, b, ... that can be. */
        private boolean deal(int v, int set, int k) {
            if (!isVariable(v)) {
                return true;
            }
            given[v] = NONE;
            if ((set >> v & 1) == 0) {
                return deal(v + 1, set, k);
            }
            for (int register = 0; register < k; register++) {
                if (isFree(v, register)) {
                    given[v] = register;
                    if (deal(v + 1, set, k)) {
                        return true;
                    }
                }
            }
            given[v] = NONE;
            return false;
        }

        private boolean isFree(int v, int register) {
            for (int w = 0; w < v && w < VARIABLES; w++) {
                if (given[w] == register && clashing(v, w)) {
                    return false;
                }
            }
            return true;
        }
    }
}
