import java.util.Arrays;

/** Texts of guarded commands, of two players and chance; the document's promises are numbered 1 to 15. */
public final class GameText {
    public static final int NONE = -1;

    // The document's bounds.
    private static final int MAX_TAPE = 16384;
    private static final int FED_AT_ONCE = 20;
    private static final int MAX_NAME = 40;
    private static final int MAX_DIGITS = 9;
    private static final int MAX_LEVELS = 40;
    private static final int MAX_VARS = 12;
    private static final int MAX_RANGE = 10000;
    private static final int MAX_DEFINED = 60;
    private static final int MAX_COMMANDS = 60;
    private static final int MAX_BRANCHES = 8;
    private static final int MAX_STATES = 512;
    private static final int MAX_ALL_BRANCHES = 4096;
    private static final int TOO_LARGE = 1000000000;

    // The faults; 0 is none.
    private static final int FAULT_WORD = 1;
    private static final int FAULT_NAME = 2;
    private static final int FAULT_KIND = 3;
    private static final int FAULT_TWICE = 4;
    private static final int FAULT_MANY = 5;
    private static final int FAULT_LARGE = 6;
    private static final int FAULT_ZERO = 7;
    private static final int FAULT_WHOLE = 8;
    private static final int FAULT_RANGE = 9;
    private static final int FAULT_TARGET = 10;
    private static final int FAULT_CHANCE = 11;
    private static final int FAULT_OVER = 12;
    private static final int FAULT_MIXED = 13;

    // What a state is; a command's player bears the same number as the kind of state that it makes.
    private static final int STATE_END = 0;
    private static final int PLAYER_MAX = 1;
    private static final int PLAYER_MIN = 2;
    private static final int STATE_TARGET = 3;

    // Kinds of words; a sign of one character is its own kind, so these begin above all characters.
    private static final int WORD_TO = 256;
    private static final int WORD_ARROW = 257;
    private static final int WORD_UNEQUAL = 258;
    private static final int WORD_AT_MOST = 259;
    private static final int WORD_AT_LEAST = 260;
    private static final int WORD_NAME = 261;
    private static final int WORD_NUMBER = 262;
    private static final int WORD_NONE = 263;
    private static final int WORD_FINIS = 264;
    // The words that are no names: in the order of KEYS, each with a blank behind it.
    private static final int KEY_CONST = 300;
    private static final int KEY_VAR = 301;
    private static final int KEY_BOOL = 302;
    private static final int KEY_FORMULA = 303;
    private static final int KEY_MAX = 304;
    private static final int KEY_MIN = 305;
    private static final int KEY_INIT = 306;
    private static final int KEY_STAY = 307;
    private static final int KEY_TARGET = 308;
    private static final int KEY_TRUE = 309;
    private static final int KEY_FALSE = 310;
    private static final int KEY_LEAST = 311;
    private static final int KEY_MOST = 312;
    private static final String KEYS =
        "const var bool formula max min init stay target true false least most ";
    private static final String SIGNS = "<>=+-*/%&|!?:;,()'";

    // Kinds of values.
    private static final int KIND_OTHER = 0;
    private static final int KIND_NUMBER = 1;
    private static final int KIND_TRUTH = 2;

    // What a node of the code does; a rule's nodes stand behind those that they are made of.
    private static final int VALUE = 0;
    private static final int NAME = 1;
    private static final int VAR = 2;
    private static final int FORMULA = 3;
    private static final int ADD = 4;
    private static final int SUBTRACT = 5;
    private static final int MULTIPLY = 6;
    private static final int DIVIDE = 7;
    private static final int REST = 8;
    private static final int NEGATE = 9;
    private static final int EQUAL = 10;
    private static final int UNEQUAL = 11;
    private static final int LESS = 12;
    private static final int AT_MOST = 13;
    private static final int MORE = 14;
    private static final int AT_LEAST = 15;
    private static final int NOT = 16;
    private static final int AND = 17;
    private static final int OR = 18;
    private static final int CHOOSE = 19;
    private static final int LEAST = 20;
    private static final int MOST = 21;
    private static final int KEEP = 22;
    private static final int SKIP_IF_FALSE = 23;
    private static final int SKIP_IF_TRUE = 24;
    private static final int GO = 25;
    private static final int RULE_END = 26;
    private static final int CONST_ITEM = 27;
    private static final int FORMULA_ITEM = 28;
    private static final int VAR_ITEM = 29;
    private static final int TARGET_ITEM = 30;
    private static final int COMMAND_ITEM = 31;
    private static final int BRANCH = 32;
    private static final int SET = 33;
    private static final int FINISH = 34;
    // These two wait on the parser's stack only.
    private static final int OPEN = 35;
    private static final int QUESTION = 36;

    // How strongly what waits on the parser's stack holds what stands behind it.
    private static final int HOLDS_NOTHING = 0;
    private static final int HOLDS_CHOICE = 1;
    private static final int HOLDS_OR = 2;
    private static final int HOLDS_AND = 3;
    private static final int HOLDS_NOT = 4;
    private static final int HOLDS_COMPARED = 5;
    private static final int HOLDS_SUM = 6;
    private static final int HOLDS_PRODUCT = 7;
    private static final int HOLDS_SIGN = 8;

    // What a rule is for.
    private static final int ROLE_DEFINED = 0;
    private static final int ROLE_LOW = 1;
    private static final int ROLE_HIGH = 2;
    private static final int ROLE_INIT = 3;
    private static final int ROLE_TARGET = 4;
    private static final int ROLE_GUARD = 5;
    private static final int ROLE_CHANCE = 6;
    private static final int ROLE_SET = 7;

    // What the parser wants next.
    private static final int WANT_ITEM = 0;
    private static final int WANT_NAME = 1;
    private static final int WANT_EQUALS = 2;
    private static final int WANT_COLON = 3;
    private static final int WANT_TYPE = 4;
    private static final int WANT_BOOL_END = 5;
    private static final int WANT_ACTION = 6;
    private static final int WANT_STAY_END = 7;
    private static final int WANT_SET_OPEN = 8;
    private static final int WANT_SET_NAME = 9;
    private static final int WANT_PRIME = 10;
    private static final int WANT_SET_EQUALS = 11;
    private static final int WANT_SET_END = 12;
    private static final int WANT_LIST = 13;
    private static final int WANT_OPERAND = 14;
    private static final int WANT_OPERATOR = 15;

    private final Words words;
    private final Parser parser;
    private final Checker checker;
    private final Graph graph;
    private final Explorer explorer;
    private Text text;
    private Text spare;
    private boolean hasText;
    private boolean explored;
    private int place;

    public GameText() {
        words = new Words();
        text = new Text();
        spare = new Text();
        parser = new Parser(words, spare.code);
        Machine machine = new Machine(spare);
        checker = new Checker(words, machine, spare);
        graph = new Graph();
        explorer = new Explorer(machine, graph, text);
        hasText = false;
        explored = false;
        place = NONE;
    }

    public int feed(int a, int b, int c, int d, int e) {
        if (words.length + FED_AT_ONCE > MAX_TAPE) {
            return NONE;
        }
        words.makeRoom();
        words.put(a);
        words.put(b);
        words.put(c);
        words.put(d);
        words.put(e);
        return words.length;
    }

    public int end(int n) throws IllegalArgumentException {
        if (n < 0 || n > FED_AT_ONCE) {
            throw new IllegalArgumentException("n is not 0 .. 20");
        }
        if (words.length < FED_AT_ONCE) {
            throw new IllegalArgumentException("there are not twenty characters");
        }
        words.length = words.length - FED_AT_ONCE + n;
        return words.length;
    }

    public int compile() {
        int fault = 0;
        if (parser.reads(spare.code)) {
            fault = checker.checks(spare);
            place = checker.place;
        } else {
            fault = FAULT_WORD;
            place = words.start;
        }
        words.length = 0;
        if (fault == 0) {
            takeSpare();
        }
        return fault;
    }

    private void takeSpare() {
        Text before = text;
        text = spare;
        spare = before;
        hasText = true;
        explored = false;
        graph.clear();
    }

    public int place() {
        return place;
    }

    public int items(int what) {
        if (!hasText) {
            return NONE;
        }
        switch (what) {
            case 0:
                return text.vars;
            case 1:
                return text.defined;
            case 2:
                return text.commands;
            default:
                return NONE;
        }
    }

    public int explore() throws IllegalStateException {
        if (!hasText) {
            throw new IllegalStateException("there is no text");
        }
        // The same text has the same states, so they are sought once.
        if (!explored) {
            explorer.seek(text);
            explored = true;
        }
        place = explorer.place;
        return explorer.fault;
    }

    public int state() {
        return explorer.state;
    }

    public int states() {
        return graph.states;
    }

    public int variable(int k, int v) throws IndexOutOfBoundsException {
        if (!graph.hasState(k) || v < 0 || v >= graph.vars) {
            throw new IndexOutOfBoundsException("there is no such state or var");
        }
        return graph.held[k * MAX_VARS + v];
    }

    public int kind(int k) {
        return graph.hasState(k) ? graph.kinds[k] : NONE;
    }

    public int commands(int k) {
        return graph.hasState(k) ? graph.commandFrom[k + 1] - graph.commandFrom[k] : NONE;
    }

    public int command(int k, int i) {
        int at = graph.commandAt(k, i);
        return at < 0 ? NONE : graph.commandOf[at];
    }

    public int branches(int k, int i) {
        int at = graph.commandAt(k, i);
        return at < 0 ? NONE : graph.branchFrom[at + 1] - graph.branchFrom[at];
    }

    public int branch(int k, int i, int j, int what) {
        int at = graph.branchAt(k, i, j);
        if (at < 0) {
            return NONE;
        }
        switch (what) {
            case 0:
                return graph.to[at];
            case 1:
                return graph.above[at];
            case 2:
                return graph.below[at];
            default:
                return NONE;
        }
    }

    /** The greatest common divisor; 1 when there is none, so that it can always divide. */
    private static long divisor(long a, long b) {
        long x = a < 0 ? -a : a;
        long y = b < 0 ? -b : b;
        // Each turn at least halves the product of the two, and a long has 63 bits.
        for (int i = 0; i < 256 && y != 0; i++) {
            long rest = x % y;
            x = y;
            y = rest;
        }
        return x > 0 ? x : 1;
    }

    /** The tape, and the word of it that was read last. */
    private static final class Words {
        private int[] tape;
        private int length;
        private int at;
        private int kind;
        private int start;
        private int size;
        private int value;

        private Words() {
            tape = new int[256];
            length = 0;
            at = 0;
            kind = WORD_FINIS;
            start = 0;
            size = 0;
            value = 0;
        }

        private void makeRoom() {
            if (length + FED_AT_ONCE > tape.length) {
                tape = Arrays.copyOf(tape, 2 * tape.length);
            }
        }

        private void put(int four) {
            for (int shift = 24; shift >= 0; shift -= 8) {
                if (length < tape.length) {
                    tape[length] = (four >>> shift) & 255;
                    length++;
                }
            }
        }

        private void next() {
            skipBlanks();
            start = at;
            if (at >= length) {
                kind = WORD_FINIS;
            } else if (isLetter(tape[at])) {
                readName();
            } else if (isDigit(tape[at])) {
                readNumber();
            } else {
                readSign(tape[at]);
            }
        }

        private void skipBlanks() {
            boolean inNote = false;
            for (; at < length; at++) {
                int c = tape[at];
                if (inNote) {
                    inNote = c != 10;
                } else if (c == '#') {
                    inNote = true;
                } else if (c != 9 && c != 10 && c != 13 && c != 32) {
                    return;
                }
            }
        }

        private static boolean isLetter(int c) {
            return (c >= 'A' && c <= 'Z') || (c >= 'a' && c <= 'z');
        }

        private static boolean isDigit(int c) {
            return c >= '0' && c <= '9';
        }

        private void readName() {
            for (; at < length; at++) {
                int c = tape[at];
                if (!isLetter(c) && !isDigit(c) && c != '_') {
                    break;
                }
            }
            size = at - start;
            kind = size > MAX_NAME ? WORD_NONE : keyOrName();
        }

        private int keyOrName() {
            int key = KEY_CONST;
            int from = 0;
            for (int i = 0; i < KEYS.length(); i++) {
                if (KEYS.charAt(i) == ' ') {
                    if (i - from == size && isKeyAt(from)) {
                        return key;
                    }
                    key++;
                    from = i + 1;
                }
            }
            return WORD_NAME;
        }

        private boolean isKeyAt(int from) {
            for (int i = 0; i < size; i++) {
                if (KEYS.charAt(from + i) != tape[start + i]) {
                    return false;
                }
            }
            return true;
        }

        private void readNumber() {
            value = 0;
            for (; at < length && isDigit(tape[at]); at++) {
                // More than nine digits may wrap around here, but make no word.
                value = value * 10 + tape[at] - '0';
            }
            size = at - start;
            kind = size > MAX_DIGITS ? WORD_NONE : WORD_NUMBER;
        }

        private void readSign(int c) {
            int behind = at + 1 < length ? tape[at + 1] : 0;
            size = 2;
            if (c == '.' && behind == '.') {
                kind = WORD_TO;
            } else if (c == '-' && behind == '>') {
                kind = WORD_ARROW;
            } else if (c == '!' && behind == '=') {
                kind = WORD_UNEQUAL;
            } else if (c == '<' && behind == '=') {
                kind = WORD_AT_MOST;
            } else if (c == '>' && behind == '=') {
                kind = WORD_AT_LEAST;
            } else {
                size = 1;
                kind = SIGNS.indexOf((char) c) >= 0 ? c : WORD_NONE;
            }
            at += size;
        }
    }

    /**
     * The nodes of a text. What first, second and third hold depends on what the node does:
     * operations: the nodes that they are made of; names: where the name begins on the tape, its length;
     * jumps: the node that decides, nothing, where to go on; a rule's end: its last node, role, first node;
     * commands: player, guard, first branch; branches: chance, first set, next branch;
     * sets: var, rule, next set.
     */
    private static final class Code {
        private int[] op;
        private int[] place;
        private int[] first;
        private int[] second;
        private int[] third;
        private int[] kind;
        private int[] above;
        private int[] below;
        private int size;

        private Code() {
            op = new int[64];
            place = new int[64];
            first = new int[64];
            second = new int[64];
            third = new int[64];
            kind = new int[64];
            above = new int[64];
            below = new int[64];
            size = 0;
        }

        private int emit(int does, int where, int a, int b, int c) {
            if (size >= op.length) {
                int room = 2 * op.length;
                op = Arrays.copyOf(op, room);
                place = Arrays.copyOf(place, room);
                first = Arrays.copyOf(first, room);
                second = Arrays.copyOf(second, room);
                third = Arrays.copyOf(third, room);
                kind = Arrays.copyOf(kind, room);
                above = Arrays.copyOf(above, room);
                below = Arrays.copyOf(below, room);
            }
            int node = size;
            op[node] = does;
            place[node] = where;
            first[node] = a;
            second[node] = b;
            third[node] = c;
            kind[node] = KIND_OTHER;
            above[node] = 0;
            below[node] = 1;
            size++;
            return node;
        }

        private void copyValue(int from, int to) {
            kind[to] = kind[from];
            above[to] = above[from];
            below[to] = below[from];
        }
    }

    /** What a text without a fault consists of. */
    private static final class Text {
        private final Code code;
        private final int[] low;
        private final int[] high;
        private final int[] init;
        private final int[] kind;
        private final int[] formulaEnd;
        private final int[] commandNode;
        private int vars;
        private int defined;
        private int formulas;
        private int commands;
        private int target;

        private Text() {
            code = new Code();
            low = new int[MAX_VARS];
            high = new int[MAX_VARS];
            init = new int[MAX_VARS];
            kind = new int[MAX_VARS];
            formulaEnd = new int[MAX_DEFINED];
            commandNode = new int[MAX_COMMANDS];
            vars = 0;
            defined = 0;
            formulas = 0;
            commands = 0;
            target = NONE;
        }

        private void clear() {
            vars = 0;
            defined = 0;
            formulas = 0;
            commands = 0;
            target = NONE;
        }
    }

    /**
     * Turns the tape into nodes, a word at a time, or stops at the first word that can't stand.
     * Operations wait on a stack of its own, so that no depth of a rule deepens the calls.
     */
    private static final class Parser {
        // 40 levels and five grouped operations around each stay below this.
        private static final int STACK = 256;

        private final Words words;
        private final int[] waits;
        private final int[] waitPlace;
        private final int[] waitLeft;
        private final int[] waitMiddle;
        private final int[] waitJump;
        private int height;
        private Code code;
        private int want;
        private int role;
        private int rulePlace;
        private int ruleStart;
        private int levels;
        private int last;
        private int head;
        private int branch;
        private int openPlace;

        private Parser(Words read, Code made) {
            words = read;
            waits = new int[STACK];
            waitPlace = new int[STACK];
            waitLeft = new int[STACK];
            waitMiddle = new int[STACK];
            waitJump = new int[STACK];
            height = 0;
            code = made;
            want = WANT_ITEM;
            role = ROLE_DEFINED;
            rulePlace = NONE;
            ruleStart = 0;
            levels = 0;
            last = 0;
            head = 0;
            branch = 0;
            openPlace = 0;
        }

        private boolean reads(Code made) {
            code = made;
            code.size = 0;
            words.at = 0;
            want = WANT_ITEM;
            for (int i = 0; i <= MAX_TAPE; i++) {
                words.next();
                if (words.kind == WORD_FINIS) {
                    return want == WANT_ITEM;
                }
                boolean stands = false;
                if (want == WANT_OPERATOR) {
                    stands = takesOperator();
                } else if (want == WANT_OPERAND) {
                    stands = takesOperand();
                } else if (want == WANT_ITEM) {
                    stands = takesItem();
                } else {
                    stands = want <= WANT_BOOL_END ? takesInDefinition() : takesInBranch();
                }
                if (!stands) {
                    return false;
                }
            }
            return false;
        }

        private boolean takesItem() {
            switch (words.kind) {
                case KEY_CONST:
                    return begins(CONST_ITEM, 0);
                case KEY_FORMULA:
                    return begins(FORMULA_ITEM, 0);
                case KEY_VAR:
                    return begins(VAR_ITEM, 0);
                case KEY_TARGET:
                    begins(TARGET_ITEM, 0);
                    return opensRule(ROLE_TARGET);
                case KEY_MAX:
                    begins(COMMAND_ITEM, PLAYER_MAX);
                    return opensRule(ROLE_GUARD);
                case KEY_MIN:
                    begins(COMMAND_ITEM, PLAYER_MIN);
                    return opensRule(ROLE_GUARD);
                default:
                    return false;
            }
        }

        private boolean begins(int item, int player) {
            head = code.emit(item, words.start, player, NONE, NONE);
            return wants(WANT_NAME);
        }

        private boolean wants(int next) {
            want = next;
            return true;
        }

        private boolean opensRule(int why) {
            role = why;
            rulePlace = NONE;
            ruleStart = code.size;
            height = 0;
            // A set's rule stands in the set's '('.
            levels = why == ROLE_SET ? 1 : 0;
            want = WANT_OPERAND;
            return true;
        }

        private boolean takesInDefinition() {
            int kind = words.kind;
            switch (want) {
                case WANT_NAME:
                    code.first[head] = words.start;
                    code.second[head] = words.size;
                    return kind == WORD_NAME && wants(code.op[head] == VAR_ITEM ? WANT_COLON : WANT_EQUALS);
                case WANT_EQUALS:
                    return kind == '=' && opensRule(ROLE_DEFINED);
                case WANT_COLON:
                    return kind == ':' && wants(WANT_TYPE);
                case WANT_TYPE:
                    if (kind == KEY_BOOL) {
                        code.third[head] = KIND_TRUTH;
                        return wants(WANT_BOOL_END);
                    }
                    code.third[head] = KIND_NUMBER;
                    opensRule(ROLE_LOW);
                    return takesOperand();
                case WANT_BOOL_END:
                    return kind == KEY_INIT ? opensRule(ROLE_INIT) : kind == ';' && finishes();
                default:
                    return false;
            }
        }

        private boolean finishes() {
            code.emit(FINISH, words.start, NONE, NONE, NONE);
            return wants(WANT_ITEM);
        }

        private boolean takesInBranch() {
            int kind = words.kind;
            switch (want) {
                case WANT_ACTION:
                    return kind == KEY_STAY ? wants(WANT_STAY_END) : kind == '(' && opensSet();
                case WANT_STAY_END:
                    return takesBranchEnd();
                case WANT_SET_OPEN:
                    return kind == '(' && opensSet();
                case WANT_SET_NAME:
                    code.emit(SET, openPlace, words.start, words.size, NONE);
                    return kind == WORD_NAME && wants(WANT_PRIME);
                case WANT_PRIME:
                    return kind == '\'' && wants(WANT_SET_EQUALS);
                case WANT_SET_EQUALS:
                    return kind == '=' && opensRule(ROLE_SET);
                case WANT_SET_END:
                    return kind == '&' ? wants(WANT_SET_OPEN) : takesBranchEnd();
                case WANT_LIST:
                    return kind == '(' && deepens() && wants(WANT_OPERAND);
                default:
                    return false;
            }
        }

        private boolean opensSet() {
            openPlace = words.start;
            return wants(WANT_SET_NAME);
        }

        private boolean takesBranchEnd() {
            if (words.kind == '+') {
                return opensBranch();
            }
            return words.kind == ';' && finishes();
        }

        private boolean opensBranch() {
            branch = code.emit(BRANCH, NONE, NONE, NONE, NONE);
            return opensRule(ROLE_CHANCE);
        }

        private boolean deepens() {
            if (levels >= MAX_LEVELS) {
                return false;
            }
            levels++;
            return true;
        }

        private boolean takesOperand() {
            if (rulePlace < 0) {
                rulePlace = words.start;
            }
            switch (words.kind) {
                case WORD_NUMBER:
                    return takesValue(KIND_NUMBER, words.value);
                case KEY_TRUE:
                    return takesValue(KIND_TRUTH, 1);
                case KEY_FALSE:
                    return takesValue(KIND_TRUTH, 0);
                case WORD_NAME:
                    last = code.emit(NAME, words.start, words.start, words.size, NONE);
                    return wants(WANT_OPERATOR);
                case '(':
                    return deepens() && pushes(OPEN, NONE);
                case '-':
                    return deepens() && pushes(NEGATE, NONE);
                case '!':
                    return holding() <= HOLDS_NOT && deepens() && pushes(NOT, NONE);
                case KEY_LEAST:
                    return pushes(LEAST, NONE) && wants(WANT_LIST);
                case KEY_MOST:
                    return pushes(MOST, NONE) && wants(WANT_LIST);
                default:
                    return false;
            }
        }

        private boolean takesValue(int kind, int value) {
            last = code.emit(VALUE, words.start, NONE, NONE, NONE);
            code.kind[last] = kind;
            code.above[last] = value;
            return wants(WANT_OPERATOR);
        }

        private boolean pushes(int does, int jump) {
            if (height >= STACK) {
                return false;
            }
            waits[height] = does;
            waitPlace[height] = words.start;
            waitLeft[height] = last;
            waitMiddle[height] = NONE;
            waitJump[height] = jump;
            height++;
            return wants(WANT_OPERAND);
        }

        private int holding() {
            switch (height > 0 ? waits[height - 1] : NONE) {
                case CHOOSE:
                    return HOLDS_CHOICE;
                case OR:
                    return HOLDS_OR;
                case AND:
                    return HOLDS_AND;
                case NOT:
                    return HOLDS_NOT;
                case EQUAL:
                case UNEQUAL:
                case LESS:
                case AT_MOST:
                case MORE:
                case AT_LEAST:
                    return HOLDS_COMPARED;
                case ADD:
                case SUBTRACT:
                    return HOLDS_SUM;
                case MULTIPLY:
                case DIVIDE:
                case REST:
                    return HOLDS_PRODUCT;
                case NEGATE:
                    return HOLDS_SIGN;
                default:
                    return HOLDS_NOTHING;
            }
        }

        private boolean takesOperator() {
            switch (words.kind) {
                case '*':
                    return takesBinary(MULTIPLY, HOLDS_PRODUCT);
                case '/':
                    return takesBinary(DIVIDE, HOLDS_PRODUCT);
                case '%':
                    return takesBinary(REST, HOLDS_PRODUCT);
                case '+':
                    return takesBinary(ADD, HOLDS_SUM);
                case '-':
                    return takesBinary(SUBTRACT, HOLDS_SUM);
                case '=':
                    return takesCompare(EQUAL);
                case WORD_UNEQUAL:
                    return takesCompare(UNEQUAL);
                case '<':
                    return takesCompare(LESS);
                case WORD_AT_MOST:
                    return takesCompare(AT_MOST);
                case '>':
                    return takesCompare(MORE);
                case WORD_AT_LEAST:
                    return takesCompare(AT_LEAST);
                case '&':
                    return takesLogic(AND, HOLDS_AND, SKIP_IF_FALSE);
                case '|':
                    return takesLogic(OR, HOLDS_OR, SKIP_IF_TRUE);
                case '?':
                    return takesQuestion();
                default:
                    return takesRuleEnd();
            }
        }

        private boolean takesBinary(int does, int holds) {
            build(holds);
            return pushes(does, NONE);
        }

        private boolean takesCompare(int does) {
            build(HOLDS_SUM);
            // Comparisons are not grouped: one can't stand behind another.
            return holding() != HOLDS_COMPARED && pushes(does, NONE);
        }

        private boolean takesLogic(int does, int holds, int skip) {
            build(holds);
            return pushes(does, code.emit(skip, words.start, last, NONE, NONE));
        }

        private boolean takesQuestion() {
            build(HOLDS_OR);
            // What is in front of a branch's ':' is an "or", no rule.
            if (height == 0 && role == ROLE_CHANCE) {
                return false;
            }
            return deepens() && pushes(QUESTION, code.emit(SKIP_IF_FALSE, words.start, last, NONE, NONE));
        }

        /** Makes nodes of what waits, as long as it holds its right side so strongly. */
        private void build(int holds) {
            for (int i = 0; i < STACK && height > 0 && holding() >= holds; i++) {
                height--;
                int does = waits[height];
                int where = waitPlace[height];
                if (does == NOT || does == NEGATE) {
                    last = code.emit(does, where, last, NONE, NONE);
                    levels--;
                } else if (does == CHOOSE) {
                    last = code.emit(does, where, waitLeft[height], waitMiddle[height], last);
                    levels--;
                } else {
                    last = code.emit(does, where, waitLeft[height], last, NONE);
                }
                if (waitJump[height] >= 0) {
                    code.third[waitJump[height]] = last;
                }
            }
        }

        private boolean takesRuleEnd() {
            build(HOLDS_CHOICE);
            if (height == 0) {
                return closesRule(words.kind);
            }
            int top = waits[height - 1];
            if (words.kind == ')' && top == OPEN) {
                height--;
                levels--;
                return true;
            }
            if (words.kind == ':' && top == QUESTION) {
                return takesOtherwise(height - 1);
            }
            if (top != LEAST && top != MOST) {
                return false;
            }
            if (words.kind == ',') {
                foldsList(height - 1);
                return wants(WANT_OPERAND);
            }
            return words.kind == ')' && closesList(height - 1);
        }

        private boolean takesOtherwise(int top) {
            int go = code.emit(GO, words.start, NONE, NONE, NONE);
            code.third[waitJump[top]] = code.size;
            waits[top] = CHOOSE;
            waitMiddle[top] = last;
            waitJump[top] = go;
            return wants(WANT_OPERAND);
        }

        private void foldsList(int top) {
            if (waitMiddle[top] >= 0) {
                last = code.emit(waits[top], waitPlace[top], waitMiddle[top], last, NONE);
            }
            waitMiddle[top] = last;
        }

        private boolean closesList(int top) {
            foldsList(top);
            // The kinds are told of when all of the list has been looked at.
            last = code.emit(KEEP, waitPlace[top], last, NONE, NONE);
            height--;
            levels--;
            return true;
        }

        private boolean closesRule(int kind) {
            code.emit(RULE_END, rulePlace, last, role, ruleStart);
            switch (role) {
                case ROLE_LOW:
                    return kind == WORD_TO && opensRule(ROLE_HIGH);
                case ROLE_HIGH:
                    return kind == KEY_INIT ? opensRule(ROLE_INIT) : kind == ';' && finishes();
                case ROLE_GUARD:
                    return kind == WORD_ARROW && opensBranch();
                case ROLE_CHANCE:
                    code.place[branch] = rulePlace;
                    return kind == ':' && wants(WANT_ACTION);
                case ROLE_SET:
                    return kind == ')' && wants(WANT_SET_END);
                default:
                    return kind == ';' && finishes();
            }
        }
    }

    /** The names that are known, each by where it stands on the tape. */
    private static final class Names {
        private static final int MAX_NAMES = MAX_VARS + MAX_DEFINED;

        private final Words words;
        private final int[] start;
        private final int[] size;
        private final int[] sort;
        private final int[] index;
        private int count;

        private Names(Words read) {
            words = read;
            start = new int[MAX_NAMES];
            size = new int[MAX_NAMES];
            sort = new int[MAX_NAMES];
            index = new int[MAX_NAMES];
            count = 0;
        }

        private void add(int from, int length, int what, int which) {
            if (count < MAX_NAMES) {
                start[count] = from;
                size[count] = length;
                sort[count] = what;
                index[count] = which;
                count++;
            }
        }

        private int find(int from, int length) {
            for (int i = 0; i < count; i++) {
                if (size[i] == length && isSame(start[i], from, length)) {
                    return i;
                }
            }
            return NONE;
        }

        private boolean isSame(int one, int other, int length) {
            for (int i = 0; i < length; i++) {
                if (words.tape[one + i] != words.tape[other + i]) {
                    return false;
                }
            }
            return true;
        }
    }

    /** Looks at the nodes in their order for the faults 2 to 10, and fills the text. */
    private static final class Checker {
        private final Names names;
        private final Machine machine;
        private Text text;
        private Code code;
        private int place;
        private int head;
        private int rule;
        private int low;
        private int high;
        private int init;
        private int branch;
        private int branches;
        private int set;

        private Checker(Words read, Machine works, Text filled) {
            names = new Names(read);
            machine = works;
            text = filled;
            code = filled.code;
            place = NONE;
            head = 0;
            rule = 0;
            low = 0;
            high = 0;
            init = NONE;
            branch = NONE;
            branches = 0;
            set = NONE;
        }

        private int checks(Text filled) {
            text = filled;
            code = filled.code;
            text.clear();
            names.count = 0;
            machine.load(text);
            place = NONE;
            for (int node = 0; node < code.size; node++) {
                int does = code.op[node];
                int fault = 0;
                if (does < RULE_END) {
                    fault = looksAtValue(node);
                } else {
                    fault = does == FINISH ? finishes() : looksAtPart(node);
                }
                if (fault != 0) {
                    return fault;
                }
            }
            return text.target < 0 ? fails(FAULT_TARGET, names.words.length) : 0;
        }

        private int fails(int fault, int where) {
            place = where;
            return fault;
        }

        private int looksAtValue(int node) {
            switch (code.op[node]) {
                case NAME:
                    return looksAtName(node);
                case ADD:
                case SUBTRACT:
                case MULTIPLY:
                case DIVIDE:
                case REST:
                    return makes(node, KIND_NUMBER, areBoth(node, KIND_NUMBER));
                case NEGATE:
                case KEEP:
                    return makes(node, KIND_NUMBER, kindOfFirst(node) == KIND_NUMBER);
                case EQUAL:
                case UNEQUAL:
                    return makes(node, KIND_TRUTH, areBoth(node, kindOfFirst(node)));
                case LESS:
                case AT_MOST:
                case MORE:
                case AT_LEAST:
                    return makes(node, KIND_TRUTH, areBoth(node, KIND_NUMBER));
                case NOT:
                    return makes(node, KIND_TRUTH, kindOfFirst(node) == KIND_TRUTH);
                case AND:
                case OR:
                    return makes(node, KIND_TRUTH, areBoth(node, KIND_TRUTH));
                case CHOOSE:
                    return looksAtChoice(node);
                case LEAST:
                case MOST:
                    return makes(node, areBoth(node, KIND_NUMBER) ? KIND_NUMBER : KIND_OTHER, true);
                default:
                    return 0;
            }
        }

        private int makes(int node, int kind, boolean fits) {
            code.kind[node] = kind;
            return fits ? 0 : fails(FAULT_KIND, code.place[node]);
        }

        private int kindOfFirst(int node) {
            return code.kind[code.first[node]];
        }

        private boolean areBoth(int node, int kind) {
            return code.kind[code.first[node]] == kind && code.kind[code.second[node]] == kind;
        }

        private int looksAtChoice(int node) {
            int kind = code.kind[code.second[node]];
            boolean fits = kindOfFirst(node) == KIND_TRUTH && code.kind[code.third[node]] == kind;
            return makes(node, kind, fits);
        }

        private int looksAtName(int node) {
            int known = names.find(code.first[node], code.second[node]);
            int item = code.op[head];
            boolean constsOnly = item == CONST_ITEM || item == VAR_ITEM;
            if (known < 0 || (constsOnly && names.sort[known] != CONST_ITEM)) {
                return fails(FAULT_NAME, code.place[node]);
            }
            int index = names.index[known];
            if (names.sort[known] == CONST_ITEM) {
                code.copyValue(index, node);
                code.op[node] = VALUE;
            } else if (names.sort[known] == FORMULA_ITEM) {
                code.op[node] = FORMULA;
                code.first[node] = index;
                code.kind[node] = kindOfFirst(text.formulaEnd[index]);
            } else {
                code.op[node] = VAR;
                code.first[node] = index;
                code.kind[node] = text.kind[index];
            }
            return 0;
        }

        private int looksAtPart(int node) {
            switch (code.op[node]) {
                case RULE_END:
                    return looksAtRule(node);
                case CONST_ITEM:
                case FORMULA_ITEM:
                    return begins(node, text.defined >= MAX_DEFINED);
                case VAR_ITEM:
                    init = NONE;
                    return begins(node, text.vars >= MAX_VARS);
                case TARGET_ITEM:
                    head = node;
                    return text.target >= 0 ? fails(FAULT_TWICE, code.place[node]) : 0;
                case COMMAND_ITEM:
                    head = node;
                    branch = NONE;
                    branches = 0;
                    return text.commands >= MAX_COMMANDS ? fails(FAULT_MANY, code.place[node]) : 0;
                case BRANCH:
                    return looksAtBranch(node);
                default:
                    return looksAtSet(node);
            }
        }

        private int begins(int node, boolean isTooMany) {
            head = node;
            if (isTooMany) {
                return fails(FAULT_MANY, code.place[node]);
            }
            int from = code.first[node];
            return names.find(from, code.second[node]) >= 0 ? fails(FAULT_NAME, from) : 0;
        }

        private int looksAtBranch(int node) {
            if (branches >= MAX_BRANCHES) {
                return fails(FAULT_MANY, code.place[node]);
            }
            code.third[branches == 0 ? head : branch] = node;
            branch = node;
            branches++;
            set = NONE;
            return 0;
        }

        private int looksAtSet(int node) {
            int from = code.first[node];
            int known = names.find(from, code.second[node]);
            if (known < 0 || names.sort[known] != VAR_ITEM) {
                return fails(FAULT_NAME, from);
            }
            int var = names.index[known];
            int other = code.second[branch];
            for (int i = 0; i < MAX_VARS && other >= 0; i++) {
                if (code.first[other] == var) {
                    return fails(FAULT_TWICE, from);
                }
                other = code.third[other];
            }
            if (set < 0) {
                code.second[branch] = node;
            } else {
                code.third[set] = node;
            }
            code.first[node] = var;
            set = node;
            return 0;
        }

        private int looksAtRule(int node) {
            int role = code.second[node];
            int wanted = wantedKind(role);
            if (wanted != KIND_OTHER && kindOfFirst(node) != wanted) {
                return fails(FAULT_KIND, code.place[node]);
            }
            switch (role) {
                case ROLE_LOW:
                    low = node;
                    return 0;
                case ROLE_HIGH:
                    high = node;
                    return 0;
                case ROLE_INIT:
                    init = node;
                    return 0;
                case ROLE_GUARD:
                    code.second[head] = node;
                    return 0;
                case ROLE_CHANCE:
                    code.first[branch] = node;
                    return 0;
                case ROLE_SET:
                    code.second[set] = node;
                    return 0;
                default:
                    rule = node;
                    return 0;
            }
        }

        private int wantedKind(int role) {
            switch (role) {
                case ROLE_LOW:
                case ROLE_HIGH:
                case ROLE_CHANCE:
                    return KIND_NUMBER;
                case ROLE_TARGET:
                case ROLE_GUARD:
                    return KIND_TRUTH;
                case ROLE_INIT:
                    return code.third[head];
                case ROLE_SET:
                    return text.kind[code.first[set]];
                default:
                    return KIND_OTHER;
            }
        }

        private int finishes() {
            switch (code.op[head]) {
                case CONST_ITEM:
                    return finishesConst();
                case FORMULA_ITEM:
                    names.add(code.first[head], code.second[head], FORMULA_ITEM, text.formulas);
                    text.formulaEnd[text.formulas] = rule;
                    text.formulas++;
                    text.defined++;
                    return 0;
                case VAR_ITEM:
                    return code.third[head] == KIND_TRUTH ? finishesBool() : finishesRange();
                case TARGET_ITEM:
                    text.target = rule;
                    return 0;
                default:
                    text.commandNode[text.commands] = head;
                    text.commands++;
                    return 0;
            }
        }

        private int worksOut(int end) {
            int fault = machine.run(end);
            return fault == 0 ? 0 : fails(fault, machine.place);
        }

        private int worksOutWhole(int end) {
            int fault = machine.run(end);
            if (fault != 0) {
                return fails(fault, machine.place);
            }
            return code.below[code.first[end]] == 1 ? 0 : fails(FAULT_WHOLE, code.place[end]);
        }

        private int finishesConst() {
            int fault = worksOut(rule);
            if (fault == 0) {
                names.add(code.first[head], code.second[head], CONST_ITEM, code.first[rule]);
                text.defined++;
            }
            return fault;
        }

        private int finishesBool() {
            int fault = init < 0 ? 0 : worksOut(init);
            if (fault == 0) {
                addVar(0, 1, init < 0 ? 0 : code.above[code.first[init]]);
            }
            return fault;
        }

        private int finishesRange() {
            int fault = worksOutWhole(low);
            if (fault == 0) {
                fault = worksOutWhole(high);
            }
            if (fault != 0) {
                return fault;
            }
            int least = code.above[code.first[low]];
            int most = code.above[code.first[high]];
            // Both are below 10^9 in size, so their difference is an int.
            if (least > most || most - least >= MAX_RANGE) {
                return fails(FAULT_RANGE, code.place[high]);
            }
            int begin = least;
            if (init >= 0) {
                fault = worksOutWhole(init);
                if (fault != 0) {
                    return fault;
                }
                begin = code.above[code.first[init]];
                if (begin < least || begin > most) {
                    return fails(FAULT_RANGE, code.place[init]);
                }
            }
            addVar(least, most, begin);
            return 0;
        }

        private void addVar(int least, int most, int begin) {
            int var = text.vars;
            text.low[var] = least;
            text.high[var] = most;
            text.init[var] = begin;
            text.kind[var] = code.third[head];
            text.vars++;
            names.add(code.first[head], code.second[head], VAR_ITEM, var);
        }
    }

    /** Works out rules: each node keeps its value, so that rules need no stack of values. */
    private static final class Machine {
        private final int[] values;
        private final int[] metIn;
        private final int[] calls;
        private Text text;
        private Code code;
        private int round;
        private int place;
        private long above;
        private long below;

        private Machine(Text loaded) {
            values = new int[MAX_VARS];
            metIn = new int[MAX_DEFINED];
            calls = new int[MAX_DEFINED];
            text = loaded;
            code = loaded.code;
            round = 1;
            place = NONE;
            above = 0;
            below = 1;
        }

        private void load(Text loaded) {
            text = loaded;
            code = loaded.code;
            round = 1;
            Arrays.fill(metIn, 0);
        }

        private boolean isTrue(int end) {
            return code.above[code.first[end]] == 1;
        }

        /** The fault (with its place), or 0: then the rule's last node has the value. */
        private int run(int end) {
            int depth = 0;
            int at = code.third[end];
            // Jumps lead forward and a formula is worked out once, so a node is met twice at most.
            int bound = 2 * code.size + 2;
            for (int steps = 0; steps < bound; steps++) {
                int does = code.op[at];
                if (does == RULE_END) {
                    if (depth == 0) {
                        return 0;
                    }
                    depth--;
                    at = calls[depth];
                    metIn[code.first[at]] = round;
                } else if (does == FORMULA && metIn[code.first[at]] != round && depth < MAX_DEFINED) {
                    calls[depth] = at;
                    depth++;
                    at = code.third[text.formulaEnd[code.first[at]]];
                } else if (does >= SKIP_IF_FALSE) {
                    at = isJumping(at, does) ? code.third[at] : at + 1;
                } else if (does >= ADD && does <= REST) {
                    int fault = reckon(at, does);
                    if (fault == 0) {
                        fault = settle(at);
                    }
                    if (fault != 0) {
                        place = code.place[at];
                        return fault;
                    }
                    at++;
                } else {
                    work(at, does);
                    at++;
                }
            }
            return 0;
        }

        private boolean isJumping(int at, int does) {
            return does == GO || (code.above[code.first[at]] == 1) == (does == SKIP_IF_TRUE);
        }

        private int reckon(int at, int does) {
            long a = code.above[code.first[at]];
            long b = code.below[code.first[at]];
            long c = code.above[code.second[at]];
            long d = code.below[code.second[at]];
            // All four are below 10^9 in size, so no long runs over.
            switch (does) {
                case ADD:
                    above = a * d + c * b;
                    below = b * d;
                    return 0;
                case SUBTRACT:
                    above = a * d - c * b;
                    below = b * d;
                    return 0;
                case MULTIPLY:
                    above = a * c;
                    below = b * d;
                    return 0;
                case DIVIDE:
                    above = c < 0 ? -a * d : a * d;
                    below = c < 0 ? -b * c : b * c;
                    return c == 0 ? FAULT_ZERO : 0;
                default:
                    if (b != 1 || d != 1) {
                        return FAULT_WHOLE;
                    }
                    if (c <= 0) {
                        return FAULT_ZERO;
                    }
                    above = Math.floorMod(a, c);
                    below = 1;
                    return 0;
            }
        }

        private int settle(int at) {
            long common = below == 1 ? 1 : divisor(above, below);
            long up = above / common;
            long down = below / common;
            if (up >= TOO_LARGE || up <= -TOO_LARGE || down >= TOO_LARGE) {
                return FAULT_LARGE;
            }
            code.above[at] = (int) up;
            code.below[at] = (int) down;
            return 0;
        }

        private void work(int at, int does) {
            int one = code.first[at];
            switch (does) {
                case VAR:
                    code.above[at] = values[one];
                    break;
                case FORMULA:
                    code.copyValue(code.first[text.formulaEnd[one]], at);
                    break;
                case NEGATE:
                    code.above[at] = -code.above[one];
                    code.below[at] = code.below[one];
                    break;
                case NOT:
                    code.above[at] = 1 - code.above[one];
                    break;
                case AND:
                    code.above[at] = code.above[one] == 1 ? code.above[code.second[at]] : 0;
                    break;
                case OR:
                    code.above[at] = code.above[one] == 1 ? 1 : code.above[code.second[at]];
                    break;
                case CHOOSE:
                    code.copyValue(code.above[one] == 1 ? code.second[at] : code.third[at], at);
                    break;
                case LEAST:
                    code.copyValue(compare(at) <= 0 ? one : code.second[at], at);
                    break;
                case MOST:
                    code.copyValue(compare(at) >= 0 ? one : code.second[at], at);
                    break;
                case KEEP:
                    code.copyValue(one, at);
                    break;
                default:
                    if (does >= EQUAL && does <= AT_LEAST) {
                        code.above[at] = holds(does, compare(at)) ? 1 : 0;
                    }
                    break;
            }
        }

        private int compare(int at) {
            int one = code.first[at];
            int other = code.second[at];
            long left = (long) code.above[one] * code.below[other];
            long right = (long) code.above[other] * code.below[one];
            if (left == right) {
                return 0;
            }
            return left < right ? -1 : 1;
        }

        private static boolean holds(int does, int order) {
            switch (does) {
                case EQUAL:
                    return order == 0;
                case UNEQUAL:
                    return order != 0;
                case LESS:
                    return order < 0;
                case AT_MOST:
                    return order <= 0;
                case MORE:
                    return order > 0;
                default:
                    return order >= 0;
            }
        }
    }

    /** The states that were found, their commands and branches. */
    private static final class Graph {
        // Twice the greatest number of states, so that a free place is always near.
        private static final int TABLE = 1024;

        private final int[] table;
        private int[] held;
        private int[] kinds;
        private int[] commandFrom;
        private int[] commandOf;
        private int[] branchFrom;
        private int[] to;
        private int[] above;
        private int[] below;
        private int vars;
        private int states;
        private int commands;
        private int branches;

        private Graph() {
            table = new int[TABLE];
            held = new int[16 * MAX_VARS];
            kinds = new int[16];
            commandFrom = new int[17];
            commandOf = new int[16];
            branchFrom = new int[17];
            to = new int[16];
            above = new int[16];
            below = new int[16];
            vars = 0;
            states = 0;
            commands = 0;
            branches = 0;
        }

        private void clear() {
            vars = 0;
            states = 0;
            commands = 0;
            branches = 0;
        }

        private void begin(int count) {
            clear();
            vars = count;
            Arrays.fill(table, 0);
        }

        private boolean hasState(int k) {
            return k >= 0 && k < states;
        }

        private int commandAt(int k, int i) {
            if (!hasState(k) || i < 0 || i >= commandFrom[k + 1] - commandFrom[k]) {
                return NONE;
            }
            return commandFrom[k] + i;
        }

        private int branchAt(int k, int i, int j) {
            int at = commandAt(k, i);
            if (at < 0 || j < 0 || j >= branchFrom[at + 1] - branchFrom[at]) {
                return NONE;
            }
            return branchFrom[at] + j;
        }

        /** The number of the state with these values, which is a new one if need be; NONE when it is too many. */
        private int find(int[] values) {
            int slot = slotOf(values);
            for (int i = 0; i < TABLE && table[slot] != 0; i++) {
                if (isHeld(table[slot] - 1, values)) {
                    return table[slot] - 1;
                }
                slot = (slot + 1) & (TABLE - 1);
            }
            if (states >= MAX_STATES) {
                return NONE;
            }
            table[slot] = states + 1;
            hold(values);
            return states - 1;
        }

        private int slotOf(int[] values) {
            int mixed = 0;
            for (int v = 0; v < vars; v++) {
                mixed = (mixed + values[v]) * 0x9E3779B1;
            }
            return (mixed ^ (mixed >>> 16)) & (TABLE - 1);
        }

        private boolean isHeld(int k, int[] values) {
            int from = k * MAX_VARS;
            for (int v = 0; v < vars; v++) {
                if (held[from + v] != values[v]) {
                    return false;
                }
            }
            return true;
        }

        private void hold(int[] values) {
            if (states >= kinds.length) {
                int room = 2 * kinds.length;
                held = Arrays.copyOf(held, room * MAX_VARS);
                kinds = Arrays.copyOf(kinds, room);
                commandFrom = Arrays.copyOf(commandFrom, room + 1);
            }
            System.arraycopy(values, 0, held, states * MAX_VARS, vars);
            kinds[states] = STATE_END;
            states++;
        }

        private void openState(int k) {
            commandFrom[k] = commands;
            commandFrom[k + 1] = commands;
        }

        private void addCommand(int k, int which) {
            if (commands >= commandOf.length) {
                int room = 2 * commandOf.length;
                commandOf = Arrays.copyOf(commandOf, room);
                branchFrom = Arrays.copyOf(branchFrom, room + 1);
            }
            commandOf[commands] = which;
            branchFrom[commands] = branches;
            commands++;
            branchFrom[commands] = branches;
            commandFrom[k + 1] = commands;
        }

        /** A branch of the latest command, joined to one that leads there; false when it is too many. */
        private boolean addBranch(int goal, int up, int down) {
            int from = commands > 0 ? branchFrom[commands - 1] : 0;
            for (int at = from; at < branches; at++) {
                if (to[at] == goal) {
                    join(at, up, down);
                    return true;
                }
            }
            if (branches >= MAX_ALL_BRANCHES) {
                return false;
            }
            if (branches >= to.length) {
                int room = 2 * to.length;
                to = Arrays.copyOf(to, room);
                above = Arrays.copyOf(above, room);
                below = Arrays.copyOf(below, room);
            }
            to[branches] = goal;
            above[branches] = up;
            below[branches] = down;
            branches++;
            branchFrom[commands] = branches;
            return true;
        }

        private void join(int at, int up, int down) {
            long sum = (long) above[at] * down + (long) up * below[at];
            long under = (long) below[at] * down;
            long common = divisor(sum, under);
            // The command's common multiple is below 10^9, so both parts are ints again.
            above[at] = (int) (sum / common);
            below[at] = (int) (under / common);
        }
    }

    /** Finds all states of a text in their order, or the first fault. */
    private static final class Explorer {
        private final Machine machine;
        private final Graph graph;
        private final int[] chanceAbove;
        private final int[] chanceBelow;
        private final int[] goal;
        private Text text;
        private Code code;
        private int fault;
        private int place;
        private int state;

        private Explorer(Machine works, Graph filled, Text sought) {
            machine = works;
            graph = filled;
            chanceAbove = new int[MAX_BRANCHES];
            chanceBelow = new int[MAX_BRANCHES];
            goal = new int[MAX_VARS];
            text = sought;
            code = sought.code;
            fault = 0;
            place = NONE;
            state = NONE;
        }

        private void seek(Text sought) {
            text = sought;
            code = sought.code;
            fault = 0;
            place = NONE;
            state = NONE;
            machine.load(text);
            graph.begin(text.vars);
            graph.find(text.init);
            for (int k = 0; k < MAX_STATES && k < graph.states; k++) {
                fault = looksAtState(k);
                if (fault != 0) {
                    state = k;
                    graph.clear();
                    return;
                }
            }
        }

        private int fails(int what, int where) {
            place = where;
            return what;
        }

        private int looksAtState(int k) {
            System.arraycopy(graph.held, k * MAX_VARS, machine.values, 0, text.vars);
            machine.round = k + 1;
            graph.openState(k);
            int found = machine.run(text.target);
            if (found != 0) {
                return fails(found, machine.place);
            }
            if (machine.isTrue(text.target)) {
                graph.kinds[k] = STATE_TARGET;
                return 0;
            }
            for (int c = 0; c < text.commands; c++) {
                found = looksAtCommand(k, c);
                if (found != 0) {
                    return found;
                }
            }
            return 0;
        }

        private int looksAtCommand(int k, int c) {
            int node = text.commandNode[c];
            int guard = code.second[node];
            int found = machine.run(guard);
            if (found != 0) {
                return fails(found, machine.place);
            }
            if (!machine.isTrue(guard)) {
                return 0;
            }
            int player = code.first[node];
            if (graph.kinds[k] != STATE_END && graph.kinds[k] != player) {
                return fails(FAULT_MIXED, code.place[node]);
            }
            graph.kinds[k] = player;
            found = worksOutChances(node);
            if (found != 0) {
                return found;
            }
            graph.addCommand(k, c);
            int branch = code.third[node];
            for (int b = 0; b < MAX_BRANCHES && branch >= 0 && found == 0; b++) {
                if (chanceAbove[b] != 0) {
                    found = follows(node, branch, b);
                }
                branch = code.third[branch];
            }
            return found;
        }

        private int worksOutChances(int node) {
            int count = 0;
            int branch = code.third[node];
            for (int b = 0; b < MAX_BRANCHES && branch >= 0; b++) {
                int rule = code.first[branch];
                int found = machine.run(rule);
                if (found != 0) {
                    return fails(found, machine.place);
                }
                int up = code.above[code.first[rule]];
                int down = code.below[code.first[rule]];
                if (up < 0 || up > down) {
                    return fails(FAULT_CHANCE, code.place[rule]);
                }
                chanceAbove[b] = up;
                chanceBelow[b] = down;
                count++;
                branch = code.third[branch];
            }
            return looksAtSum(node, count);
        }

        private int looksAtSum(int node, int count) {
            long multiple = 1;
            for (int b = 0; b < count; b++) {
                multiple = multiple / divisor(multiple, chanceBelow[b]) * chanceBelow[b];
                if (multiple >= TOO_LARGE) {
                    return fails(FAULT_LARGE, code.place[node]);
                }
            }
            long sum = 0;
            for (int b = 0; b < count; b++) {
                sum += chanceAbove[b] * (multiple / Math.max(1, chanceBelow[b]));
            }
            return sum == multiple ? 0 : fails(FAULT_CHANCE, code.place[node]);
        }

        private int follows(int node, int branch, int b) {
            System.arraycopy(machine.values, 0, goal, 0, text.vars);
            int set = code.second[branch];
            for (int i = 0; i < MAX_VARS && set >= 0; i++) {
                int rule = code.second[set];
                int found = machine.run(rule);
                if (found != 0) {
                    return fails(found, machine.place);
                }
                int value = code.above[code.first[rule]];
                int var = code.first[set];
                if (code.below[code.first[rule]] != 1) {
                    return fails(FAULT_WHOLE, code.place[set]);
                }
                if (value < text.low[var] || value > text.high[var]) {
                    return fails(FAULT_OVER, code.place[set]);
                }
                goal[var] = value;
                set = code.third[set];
            }
            int to = graph.find(goal);
            if (to < 0) {
                return fails(FAULT_MANY, code.place[branch]);
            }
            if (!graph.addBranch(to, chanceAbove[b], chanceBelow[b])) {
                return fails(FAULT_MANY, code.place[node]);
            }
            return 0;
        }
    }
}
