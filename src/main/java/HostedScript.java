/**
 * A small object language with indented blocks, classes with one or two bases,
 * and a class of the host that scripts may extend.
 *
 * A chunk is read once into a table of lines and a postfix code, one element
 * for each operand and operator; running needs no more than that table, a stack
 * of operands and a stack of calls.
 */
public final class HostedScript {
    public static final int DONE = 0;
    public static final int WRONG = 1;
    public static final int NAME = 2;
    public static final int TYPE = 3;
    public static final int ATTR = 4;
    public static final int ZERO = 5;
    public static final int DEPTH = 6;
    public static final int MEMORY = 7;
    public static final int RAISED = 8;
    public static final int STEPS = 9;
    public static final int REFUSED = -1;

    // The tokens. A line that begins with one of the first eleven words has that word as its kind.
    private static final int CLASS_WORD = 1;
    private static final int DEF_WORD = 2;
    private static final int RETURN_WORD = 3;
    private static final int IF_WORD = 4;
    private static final int ELSE_WORD = 5;
    private static final int WHILE_WORD = 6;
    private static final int TRY_WORD = 7;
    private static final int EXCEPT_WORD = 8;
    private static final int RAISE_WORD = 9;
    private static final int PASS_WORD = 10;
    private static final int PRINT_WORD = 11;
    private static final int NONE_WORD = 12;
    private static final int SUPER_WORD = 13;
    private static final int OPEN = 21;
    private static final int CLOSE = 22;
    private static final int COMMA = 23;
    private static final int DOT = 24;
    private static final int COLON = 25;
    private static final int BECOMES = 26;
    private static final int SAME = 27;
    private static final int LESS = 28;
    private static final int PLUS = 29;
    private static final int MINUS = 30;
    private static final int TIMES = 31;
    private static final int OVER = 32;
    private static final int FIRST_INDENT = 40;
    private static final int LAST_INDENT = 48;
    private static final int FIRST_NAME = 100;
    private static final int FIRST_CLASS = 130;
    private static final int FIRST_NUMBER = 1000;

    // The kinds of the lines that begin with no word of their own.
    private static final int PLAIN_LINE = 14;
    private static final int SET_NAME_LINE = 15;
    private static final int SET_ATTRIBUTE_LINE = 16;
    private static final int SET_ENTRY_LINE = 17;

    // The operations of the code, beside the signs 27 .. 32. A call with an argument is the call without one plus 1.
    private static final int GROUP = 0;
    private static final int PUSH_NUMBER = 1;
    private static final int PUSH_NAME = 2;
    private static final int PUSH_NONE = 3;
    private static final int GET_ATTRIBUTE = 4;
    private static final int GET_ENTRY = 5;
    private static final int CALL_METHOD = 6;
    private static final int CALL_SUPER = 8;
    private static final int NEW_OBJECT = 10;

    // What the reader of an expression has found.
    private static final int BAD = 0;
    private static final int BEFORE_OPERAND = 1;
    private static final int AFTER_OPERAND = 2;

    // A value is its long, but for an object (its place in the store) and a method (its def line).
    private static final long UNSET = 0L;
    private static final long NONE_VALUE = 1L << 32;
    private static final long INT_VALUE = 2L << 32;
    private static final long OBJECT_VALUE = 3L << 32;
    private static final long METHOD_VALUE = 4L << 32;
    private static final long LOW_HALF = (1L << 32) - 1;

    private static final int LETTERS = 26;
    private static final int LETTER_A = 0;
    private static final int LETTER_I = 8;
    private static final int LETTER_T = 19;

    private static final int MAX_TOKENS = 400;
    private static final int MAX_LINE_TOKENS = 40;
    private static final int MAX_OPEN = 4;
    private static final int MAX_LEVELS = 9;
    private static final int HOST_TOKENS = 43;
    private static final int HOST_LINES = 5;
    // No token yields more than one element of code, and a line that is not blank has a token.
    private static final int CODE_SIZE = MAX_TOKENS + HOST_TOKENS;
    private static final int LINES_SIZE = MAX_TOKENS + HOST_LINES;

    // The columns of the table of lines. The first letter is what the line sets, makes or defines; the second and third
    // are a class line's bases or a def line's parameters (-1: none), the second the class of an entry that is set.
    private static final int LINE_KIND = 0;
    private static final int LINE_INDENT = 1;
    private static final int LINE_NUMBER = 2;
    private static final int LINE_PARENT = 3;
    private static final int LINE_END = 4;
    private static final int LINE_FIRST = 5;
    private static final int LINE_SECOND = 6;
    private static final int LINE_THIRD = 7;
    private static final int LINE_LOCALS = 8;
    private static final int LINE_CODE = 9;
    private static final int LINE_CODE_END = 10;
    private static final int LINE_TEXT = 11;
    private static final int LINE_TEXT_END = 12;
    private static final int LINE_EXPRESSION = 13;
    private static final int LINE_COLUMNS = 14;
    private static final int LINE_TABLE_SIZE = LINES_SIZE * LINE_COLUMNS;

    private static final int MAX_CLASSES = 10;
    private static final int ENTRIES_SIZE = MAX_CLASSES * LETTERS;
    // An order is tried before the number of classes is looked at: one row more, and room for an eleventh class and the end.
    private static final int ORDER_SIZE = 12;
    private static final int ORDERS_SIZE = (MAX_CLASSES + 1) * ORDER_SIZE;
    private static final int MERGED_LISTS = 3;
    private static final int MERGE_SIZE = MERGED_LISTS * ORDER_SIZE;
    private static final int ALL_MERGED = -1;
    private static final int STUCK = -2;

    private static final int MAX_OBJECTS = 8;
    private static final int MAX_ATTRIBUTES = 4;
    private static final int ATTRIBUTES_SIZE = MAX_OBJECTS * LETTERS;

    private static final int MAX_DEPTH = 6;
    // The first row of the calls is no call: it stands for the chunk, or for the host.
    private static final int CALL_ROWS = MAX_DEPTH + 1;
    private static final int CALL_DEF = 0;
    private static final int CALL_HOME = 1;
    private static final int CALL_LINE = 2;
    private static final int CALL_CODE = 3;
    private static final int CALL_BASE = 4;
    private static final int CALL_MAKES = 5;
    private static final int CALL_COLUMNS = 6;
    private static final int CALLS_SIZE = CALL_ROWS * CALL_COLUMNS;
    private static final int HELD_RECEIVER = LETTERS;
    private static final int HELD_COLUMNS = LETTERS + 1;
    private static final int HELD_SIZE = CALL_ROWS * HELD_COLUMNS;
    private static final int OPERANDS_SIZE = CALL_ROWS * MAX_LINE_TOKENS;

    private static final int NOWHERE = -1;
    private static final int PRINTS_SIZE = 16;
    // A step runs at most a line's code, so 200 steps stay far below this.
    private static final int MANY_TURNS = 1000000;

    private final int objectLimit;
    private final int stepLimit;
    private final int depthLimit;

    private final int[] pending = new int[MAX_TOKENS];
    private int pendingCount;
    private int keptTokens;
    private int keptLines;

    private final int[] lineTable = new int[LINE_TABLE_SIZE];
    private int lineCount;
    private final long[] code = new long[CODE_SIZE];
    private int codeCount;

    // The reader of one line: where it is, and the operators and parentheses that wait for their last operand.
    private int cursor;
    private int stop;
    private final long[] waiting = new long[MAX_LINE_TOKENS];
    private int waitingCount;
    private int openCount;

    private final long[] globals = new long[LETTERS];
    private final long[] entries = new long[ENTRIES_SIZE];
    private final int[] orders = new int[ORDERS_SIZE];
    private final int[] merging = new int[MERGE_SIZE];
    private final int[] letterClass = new int[LETTERS];
    private int classCount;

    private final int[] objectClass = new int[MAX_OBJECTS];
    private final long[] attributes = new long[ATTRIBUTES_SIZE];

    private final int[] calls = new int[CALLS_SIZE];
    private final long[] held = new long[HELD_SIZE];
    private int callCount;
    private final long[] operands = new long[OPERANDS_SIZE];
    private int operandCount;

    private int stepsTaken;
    private int error;
    private int raisedCode;

    private final int[] lastPrints = new int[PRINTS_SIZE];
    private int printCount;
    private long lastResult;
    private int lastPlace;

    public HostedScript(int objects, int steps, int depth) {
        objectLimit = clamp(objects, 2, MAX_OBJECTS);
        stepLimit = clamp(steps, 20, 200);
        depthLimit = clamp(depth, 2, MAX_DEPTH);
        for (int letter = 0; letter < LETTERS; letter++) {
            letterClass[letter] = -1;
        }
        putHostText();
        keepChunk();
        begin(0);
        execute();
        finish();
        forgetHostText();
    }

    public int put(int a, int b, int c, int d) {
        int added = (a != 0 ? 1 : 0) + (b != 0 ? 1 : 0) + (c != 0 ? 1 : 0) + (d != 0 ? 1 : 0);
        if (keptTokens + pendingCount + added > MAX_TOKENS) {
            return REFUSED;
        }
        addToken(a);
        addToken(b);
        addToken(c);
        addToken(d);
        return keptTokens + pendingCount;
    }

    public int run() {
        int first = lineCount;
        int wrong = keepChunk();
        if (wrong != 0) {
            lastResult = 0;
            lastPlace = wrong;
            return WRONG;
        }
        begin(first < lineCount ? first : NOWHERE);
        execute();
        return finish();
    }

    public int call(int variable, int method, int arg) {
        if (!isLetter(variable) || !isLetter(method)) {
            return REFUSED;
        }
        begin(NOWHERE);
        long target = globals[variable];
        if (target == UNSET) {
            error = NAME;
        } else {
            push(target);
            pushInt(arg);
            callMethod(method, 1);
        }
        execute();
        return finish();
    }

    public long result() {
        return lastResult;
    }

    public int place() {
        return lastPlace;
    }

    public int lines() {
        return keptLines;
    }

    public long variable(int name) {
        return isLetter(name) ? shown(globals[name]) : 0;
    }

    public long attribute(int variable, int name) {
        if (!isLetter(variable) || !isLetter(name)) {
            return 0;
        }
        long holder = globals[variable];
        if (!hasKind(holder, OBJECT_VALUE)) {
            return 0;
        }
        return shown(attributes[(int) holder * LETTERS + name]);
    }

    public long entry(int number, int name) {
        if (!isClass(number) || !isLetter(name)) {
            return 0;
        }
        return shown(entries[number * LETTERS + name]);
    }

    public int order(int number, int place) {
        if (!isClass(number) || place < 0 || place >= ORDER_SIZE) {
            return -1;
        }
        return orders[number * ORDER_SIZE + place];
    }

    public int named(int letter) {
        return isLetter(letter) ? letterClass[letter] : -1;
    }

    public int prints() {
        return printCount;
    }

    public int printed(int back) {
        if (back < 0 || back >= PRINTS_SIZE || back >= printCount) {
            return 0;
        }
        return lastPrints[(printCount - 1 - back) & (PRINTS_SIZE - 1)];
    }

    public int live() {
        int mask = liveObjects();
        return countBits(mask);
    }

    // ---- Small helpers ----

    private static int clamp(int value, int least, int most) {
        return value < least ? least : value > most ? most : value;
    }

    private static boolean isLetter(int number) {
        return number >= 0 && number < LETTERS;
    }

    private static boolean isFrom(int token, int firstLetter) {
        return token >= firstLetter && token < firstLetter + LETTERS;
    }

    private boolean isClass(int number) {
        return number >= 0 && number < classCount;
    }

    private static boolean isOpener(int kind) {
        return kind == CLASS_WORD || kind == DEF_WORD || kind == IF_WORD || kind == ELSE_WORD
                || kind == WHILE_WORD || kind == TRY_WORD || kind == EXCEPT_WORD;
    }

    private static boolean hasKind(long value, long kind) {
        return value >>> 32 == kind >>> 32;
    }

    private static int countBits(int mask) {
        int count = 0;
        for (int bit = 0; bit < MAX_OBJECTS; bit++) {
            count += mask >> bit & 1;
        }
        return count;
    }

    private long shown(long value) {
        if (hasKind(value, OBJECT_VALUE)) {
            return OBJECT_VALUE | objectClass[(int) value];
        }
        return hasKind(value, METHOD_VALUE) ? METHOD_VALUE : value;
    }

    /** A column of a line; -1 for no line, so that the top of a chunk needs no case of its own. */
    private int ofLine(int line, int column) {
        return line < 0 ? -1 : lineTable[line * LINE_COLUMNS + column];
    }

    // ---- The host's class ----

    private void putHostText() {
        put(CLASS_WORD, FIRST_CLASS + 23, COLON, FIRST_INDENT + 1);
        put(DEF_WORD, FIRST_NAME + 7, OPEN, FIRST_NAME + 18);
        put(COMMA, FIRST_NAME + 23, CLOSE, COLON);
        put(FIRST_INDENT + 2, RETURN_WORD, FIRST_NAME + 23, TIMES);
        put(FIRST_NUMBER + 2, FIRST_INDENT + 1, DEF_WORD, FIRST_NAME + LETTER_T);
        put(OPEN, FIRST_NAME + 18, COMMA, FIRST_NAME + 23);
        put(CLOSE, COLON, FIRST_INDENT + 2, RETURN_WORD);
        put(FIRST_NAME + 18, DOT, FIRST_NAME + 7, OPEN);
        put(FIRST_NAME + 23, CLOSE, MINUS, FIRST_NAME + 18);
        put(DOT, FIRST_NAME + 7, OPEN, FIRST_NAME + 23);
        put(MINUS, FIRST_NUMBER + 1, CLOSE, 0);
    }

    /** The host's text is no chunk: it counts neither as tokens nor as lines. */
    private void forgetHostText() {
        keptTokens = 0;
        keptLines = 0;
        for (int line = 0; line < lineCount; line++) {
            lineTable[line * LINE_COLUMNS + LINE_NUMBER] = 0;
        }
    }

    // ---- Reading a chunk ----

    private void addToken(int token) {
        if (token != 0 && pendingCount < MAX_TOKENS) {
            pending[pendingCount] = token;
            pendingCount++;
        }
    }

    /** Reads the pending chunk and keeps it, answering 0; or drops it, answering the number of its first wrong line. */
    private int keepChunk() {
        int first = lineCount;
        int firstCode = codeCount;
        int textLines = splitLines();
        int wrong = 0;
        for (int line = first; line < lineCount && wrong == 0; line++) {
            int row = line * LINE_COLUMNS;
            boolean right = readForm(row);
            int from = lineTable[row + LINE_EXPRESSION];
            int kind = lineTable[row + LINE_KIND];
            lineTable[row + LINE_CODE] = codeCount;
            if (right && kind == SET_ATTRIBUTE_LINE) {
                // Three tokens stand between the postfix and the expression: the dot, the name and the sign.
                right = readExpression(lineTable[row + LINE_TEXT], from - 3, true);
            }
            if (right && from >= 0) {
                // The colon of an opener is none of its expression's tokens.
                int colon = isOpener(kind) ? 1 : 0;
                right = readExpression(from, lineTable[row + LINE_TEXT_END] - colon, false);
            }
            lineTable[row + LINE_CODE_END] = codeCount;
            if (!right || !standsRight(line, first)) {
                wrong = lineTable[row + LINE_NUMBER];
            }
        }
        if (wrong == 0 && !endIsRight(first)) {
            wrong = keptLines + textLines + 1;
        }
        if (wrong != 0) {
            lineCount = first;
            codeCount = firstCode;
        } else {
            closeBlocks(first);
            keptTokens += pendingCount;
            keptLines += textLines;
        }
        pendingCount = 0;
        return wrong;
    }

    /** Adds a row for each line that is not blank; answers how many lines the chunk has, the blank ones too. */
    private int splitLines() {
        int textLines = 1;
        int indent = 0;
        int from = 0;
        for (int at = 0; at <= pendingCount; at++) {
            int token = at < pendingCount ? pending[at] : FIRST_INDENT;
            if (token < FIRST_INDENT || token > LAST_INDENT) {
                continue;
            }
            if (at > from && lineCount < LINES_SIZE) {
                int row = lineCount * LINE_COLUMNS;
                lineTable[row + LINE_INDENT] = indent;
                lineTable[row + LINE_NUMBER] = keptLines + textLines;
                lineTable[row + LINE_TEXT] = from;
                lineTable[row + LINE_TEXT_END] = at;
                lineCount++;
            }
            if (at < pendingCount) {
                textLines++;
                indent = token - FIRST_INDENT;
                from = at + 1;
            }
        }
        return textLines;
    }

    private int peek(int offset) {
        int at = cursor + offset;
        return at >= 0 && at < stop ? pending[at] : 0;
    }

    /** Finds the kind and the names of a line, and where its expression begins; the expression itself is read later. */
    private boolean readForm(int row) {
        cursor = lineTable[row + LINE_TEXT];
        stop = lineTable[row + LINE_TEXT_END];
        int length = stop - cursor;
        int word = peek(0);
        boolean endsInColon = peek(length - 1) == COLON;
        lineTable[row + LINE_KIND] = word;
        lineTable[row + LINE_EXPRESSION] = -1;
        if (length > MAX_LINE_TOKENS) {
            return false;
        }
        switch (word) {
            case PASS_WORD:
                return length == 1;
            case PRINT_WORD:
            case RETURN_WORD:
            case RAISE_WORD:
                lineTable[row + LINE_EXPRESSION] = cursor + 1;
                return true;
            case IF_WORD:
            case WHILE_WORD:
                lineTable[row + LINE_EXPRESSION] = cursor + 1;
                return endsInColon;
            case ELSE_WORD:
            case TRY_WORD:
                return length == 2 && endsInColon;
            case EXCEPT_WORD:
                int name = peek(1);
                lineTable[row + LINE_FIRST] = name - FIRST_NAME;
                return length == 3 && endsInColon && isFrom(name, FIRST_NAME);
            case CLASS_WORD:
                return readHeader(row, FIRST_CLASS);
            case DEF_WORD:
                return readHeader(row, FIRST_NAME);
            default:
                return readPlainForm(row);
        }
    }

    /** A class line and a def line have one shape, of classes or of names; only a class may go without parentheses. */
    private boolean readHeader(int row, int firstLetter) {
        int length = stop - cursor;
        int head = peek(1);
        int second = peek(3);
        int third = peek(5);
        lineTable[row + LINE_FIRST] = head - firstLetter;
        lineTable[row + LINE_SECOND] = -1;
        lineTable[row + LINE_THIRD] = -1;
        if (!isFrom(head, firstLetter) || peek(length - 1) != COLON) {
            return false;
        }
        if (length == 3) {
            return firstLetter == FIRST_CLASS;
        }
        if (peek(2) != OPEN || peek(length - 2) != CLOSE || !isFrom(second, firstLetter)) {
            return false;
        }
        lineTable[row + LINE_SECOND] = second - firstLetter;
        if (length == 6) {
            return true;
        }
        lineTable[row + LINE_THIRD] = third - firstLetter;
        return length == 8 && peek(4) == COMMA && isFrom(third, firstLetter)
                && (firstLetter == FIRST_CLASS || second != third);
    }

    private boolean readPlainForm(int row) {
        int mark = stop;
        for (int at = stop - 1; at >= cursor; at--) {
            if (pending[at] == BECOMES) {
                mark = at;
            }
        }
        int before = mark - cursor;
        int first = peek(0);
        int last = peek(before - 1);
        lineTable[row + LINE_KIND] = PLAIN_LINE;
        lineTable[row + LINE_EXPRESSION] = cursor;
        if (mark == stop) {
            return true;
        }
        lineTable[row + LINE_EXPRESSION] = mark + 1;
        lineTable[row + LINE_FIRST] = last - FIRST_NAME;
        lineTable[row + LINE_SECOND] = first - FIRST_CLASS;
        if (!isFrom(last, FIRST_NAME)) {
            return false;
        }
        if (before == 1) {
            lineTable[row + LINE_KIND] = SET_NAME_LINE;
            return true;
        }
        boolean ofClass = before == 3 && isFrom(first, FIRST_CLASS);
        lineTable[row + LINE_KIND] = ofClass ? SET_ENTRY_LINE : SET_ATTRIBUTE_LINE;
        return before >= 3 && peek(before - 2) == DOT;
    }

    // ---- Reading an expression ----

    /** Reads the tokens from .. to - 1 as an expression, or as a postfix alone, and adds its code. */
    private boolean readExpression(int from, int to, boolean postfixAlone) {
        cursor = from;
        stop = to;
        waitingCount = 0;
        openCount = 0;
        int state = BEFORE_OPERAND;
        for (int turn = 0; turn < MAX_LINE_TOKENS && cursor < stop && state != BAD; turn++) {
            state = state == BEFORE_OPERAND ? readOperand() : readOperator(postfixAlone);
        }
        if (state != AFTER_OPERAND || openCount > 0) {
            return false;
        }
        settle(1);
        return true;
    }

    private int readOperand() {
        int token = peek(0);
        int next = peek(1);
        int name = peek(2);
        int letter = token - FIRST_CLASS;
        if (token == OPEN) {
            return openGroup();
        }
        if (token >= FIRST_NUMBER) {
            return addOperand(PUSH_NUMBER, token - FIRST_NUMBER, 1);
        }
        if (token == NONE_WORD) {
            return addOperand(PUSH_NONE, 0, 1);
        }
        if (isFrom(token, FIRST_NAME)) {
            return addOperand(PUSH_NAME, token - FIRST_NAME, 1);
        }
        if (token == SUPER_WORD && next == DOT && isFrom(name, FIRST_NAME)) {
            return openCall(CALL_SUPER, name - FIRST_NAME, 3);
        }
        if (!isFrom(token, FIRST_CLASS)) {
            return BAD;
        }
        if (next == DOT && isFrom(name, FIRST_NAME)) {
            return addOperand(GET_ENTRY, letter * LETTERS + name - FIRST_NAME, 3);
        }
        return openCall(NEW_OBJECT, letter, 1);
    }

    private int readOperator(boolean postfixAlone) {
        int token = peek(0);
        int name = peek(1);
        if (token == DOT && isFrom(name, FIRST_NAME)) {
            return peek(2) == OPEN ? openCall(CALL_METHOD, name - FIRST_NAME, 2)
                    : addOperand(GET_ATTRIBUTE, name - FIRST_NAME, 2);
        }
        if (token == CLOSE) {
            settle(1);
            return closeParenthesis();
        }
        int rank = rankOf(token);
        if (rank == 0 || postfixAlone && openCount == 0) {
            return BAD;
        }
        // A comparison settles what binds tighter, but not another comparison: one more is wrong, not settled.
        settle(rank == 1 ? 2 : rank);
        if (rank == 1 && waitingCount > 0 && rankOf((int) (waiting[waitingCount - 1] >> 32)) == 1) {
            return BAD;
        }
        keepWaiting(token, 0);
        cursor++;
        return BEFORE_OPERAND;
    }

    private static int rankOf(int operation) {
        switch (operation) {
            case SAME:
            case LESS:
                return 1;
            case PLUS:
            case MINUS:
                return 2;
            case TIMES:
            case OVER:
                return 3;
            default:
                return 0;
        }
    }

    private int addOperand(int operation, int part, int tokens) {
        if (codeCount < CODE_SIZE) {
            code[codeCount] = (long) operation << 32 | part;
            codeCount++;
        }
        cursor += tokens;
        return AFTER_OPERAND;
    }

    private int openGroup() {
        if (openCount == MAX_OPEN) {
            return BAD;
        }
        openCount++;
        keepWaiting(GROUP, 0);
        cursor++;
        return BEFORE_OPERAND;
    }

    /** A call whose opening parenthesis must be the token so many places ahead. */
    private int openCall(int operation, int part, int ahead) {
        if (peek(ahead) != OPEN || openCount == MAX_OPEN) {
            return BAD;
        }
        if (peek(ahead + 1) == CLOSE) {
            return addOperand(operation, part, ahead + 2);
        }
        openCount++;
        keepWaiting(operation + 1, part);
        cursor += ahead + 1;
        return BEFORE_OPERAND;
    }

    /** The operators inside are settled, so a parenthesis is what waits last, if any is open. */
    private int closeParenthesis() {
        if (waitingCount == 0) {
            return BAD;
        }
        waitingCount--;
        openCount--;
        long element = waiting[waitingCount];
        if (element >> 32 != GROUP) {
            addCode(element);
        }
        cursor++;
        return AFTER_OPERAND;
    }

    private void keepWaiting(int operation, int part) {
        if (waitingCount < MAX_LINE_TOKENS) {
            waiting[waitingCount] = (long) operation << 32 | part;
            waitingCount++;
        }
    }

    /** Adds the waiting operators of this rank and above, up to the last open parenthesis. */
    private void settle(int rank) {
        for (int last = waitingCount - 1; last >= 0; last--) {
            long element = waiting[last];
            int operation = (int) (element >> 32);
            if (rankOf(operation) < rank) {
                return;
            }
            addCode(element);
            waitingCount = last;
        }
    }

    private void addCode(long element) {
        if (codeCount < CODE_SIZE) {
            code[codeCount] = element;
            codeCount++;
        }
    }

    // ---- Blocks ----

    private boolean standsRight(int line, int first) {
        int row = line * LINE_COLUMNS;
        int indent = lineTable[row + LINE_INDENT];
        int kind = lineTable[row + LINE_KIND];
        lineTable[row + LINE_PARENT] = lastNotDeeper(line, first, indent - 1);
        return indentIsRight(line, first) && triesAreClosed(line, first, indent, kind) && placeIsRight(line);
    }

    /** The last line of the chunk before this one that is indented by no more than so much, or -1. */
    private int lastNotDeeper(int line, int first, int indent) {
        for (int above = line - 1; above >= first; above--) {
            if (lineTable[above * LINE_COLUMNS + LINE_INDENT] <= indent) {
                return above;
            }
        }
        return -1;
    }

    private boolean indentIsRight(int line, int first) {
        int indent = ofLine(line, LINE_INDENT);
        int kind = ofLine(line, LINE_KIND);
        int sibling = lastNotDeeper(line, first, indent);
        int siblingKind = ofLine(sibling, LINE_KIND);
        boolean level = ofLine(sibling, LINE_INDENT) == indent;
        if (kind == ELSE_WORD && !(level && siblingKind == IF_WORD)) {
            return false;
        }
        if (kind == EXCEPT_WORD && !(level && siblingKind == TRY_WORD)) {
            return false;
        }
        if (line == first) {
            return indent == 0;
        }
        int above = (line - 1) * LINE_COLUMNS;
        if (isOpener(lineTable[above + LINE_KIND])) {
            return indent > lineTable[above + LINE_INDENT];
        }
        return indent <= lineTable[above + LINE_INDENT] && level;
    }

    /** Whether a line, or the end, may come where it ends the blocks of the try lines before it. */
    private boolean triesAreClosed(int line, int first, int indent, int kind) {
        int least = MAX_LEVELS;
        for (int above = line - 1; above >= first; above--) {
            int depth = ofLine(above, LINE_INDENT);
            boolean ended = depth >= indent && depth < least;
            boolean answered = kind == EXCEPT_WORD && depth == indent;
            if (ended && !answered && ofLine(above, LINE_KIND) == TRY_WORD) {
                return false;
            }
            least = depth < least ? depth : least;
        }
        return true;
    }

    private boolean placeIsRight(int line) {
        int kind = ofLine(line, LINE_KIND);
        int parent = ofLine(line, LINE_PARENT);
        boolean inClass = false;
        boolean inDef = false;
        int around = parent;
        for (int level = 0; level < MAX_LEVELS && around >= 0; level++) {
            int aroundKind = ofLine(around, LINE_KIND);
            inClass |= aroundKind == CLASS_WORD;
            inDef |= aroundKind == DEF_WORD;
            around = ofLine(around, LINE_PARENT);
        }
        if (!inDef && (kind == RETURN_WORD || usesSuper(line))) {
            return false;
        }
        if (ofLine(parent, LINE_KIND) == CLASS_WORD) {
            return kind == PASS_WORD || kind == DEF_WORD || kind == SET_NAME_LINE;
        }
        return kind != DEF_WORD && !(inClass && kind == CLASS_WORD);
    }

    private boolean usesSuper(int line) {
        int row = line * LINE_COLUMNS;
        for (int at = lineTable[row + LINE_TEXT]; at < lineTable[row + LINE_TEXT_END]; at++) {
            if (pending[at] == SUPER_WORD) {
                return true;
            }
        }
        return false;
    }

    private boolean endIsRight(int first) {
        boolean opened = lineCount > first && isOpener(lineTable[(lineCount - 1) * LINE_COLUMNS + LINE_KIND]);
        return !opened && triesAreClosed(lineCount, first, -1, 0);
    }

    private void closeBlocks(int first) {
        for (int line = first; line < lineCount; line++) {
            int row = line * LINE_COLUMNS;
            int end = blockEnd(line);
            lineTable[row + LINE_END] = end;
            if (lineTable[row + LINE_KIND] == DEF_WORD) {
                lineTable[row + LINE_LOCALS] = localNames(line, end);
            }
        }
    }

    /** The next line that is not deeper; for a line that opens nothing that is the line below it. */
    private int blockEnd(int line) {
        int indent = lineTable[line * LINE_COLUMNS + LINE_INDENT];
        for (int below = line + 1; below < lineCount; below++) {
            if (lineTable[below * LINE_COLUMNS + LINE_INDENT] <= indent) {
                return below;
            }
        }
        return lineCount;
    }

    private int localNames(int def, int end) {
        int second = ofLine(def, LINE_THIRD);
        int names = 1 << ofLine(def, LINE_SECOND);
        if (second >= 0) {
            names |= 1 << second;
        }
        for (int line = def + 1; line < end; line++) {
            int kind = ofLine(line, LINE_KIND);
            if (kind == SET_NAME_LINE || kind == EXCEPT_WORD) {
                names |= 1 << ofLine(line, LINE_FIRST);
            }
        }
        return names;
    }

    // ---- Running ----

    private void begin(int line) {
        error = DONE;
        lastPlace = 0;
        stepsTaken = 0;
        operandCount = 0;
        callCount = 1;
        calls[CALL_DEF] = NOWHERE;
        calls[CALL_BASE] = 0;
        calls[CALL_LINE] = NOWHERE;
        if (line != NOWHERE) {
            reach(line);
        }
    }

    private void execute() {
        for (int turn = 0; turn < MANY_TURNS; turn++) {
            int top = (callCount - 1) * CALL_COLUMNS;
            int line = calls[top + CALL_LINE];
            if (error != DONE) {
                if (!errorIsCaught()) {
                    lastPlace = line == NOWHERE ? 0 : lineTable[line * LINE_COLUMNS + LINE_NUMBER];
                    return;
                }
                continue;
            }
            if (line == NOWHERE) {
                return;
            }
            int at = calls[top + CALL_CODE];
            if (at < lineTable[line * LINE_COLUMNS + LINE_CODE_END]) {
                calls[top + CALL_CODE] = at + 1;
                runCode(code[at]);
            } else {
                finishLine(line);
            }
        }
    }

    /** Only a host call that is done leaves an operand: its answer. */
    private int finish() {
        long answer = operand(0);
        lastResult = 0;
        if (error == DONE) {
            lastResult = shown(answer);
        } else if (error == RAISED) {
            lastResult = INT_VALUE | raisedCode & LOW_HALF;
        }
        operandCount = 0;
        callCount = 0;
        return error;
    }

    /** Goes to a line of the active call that takes a step. */
    private void reach(int line) {
        int top = (callCount - 1) * CALL_COLUMNS;
        calls[top + CALL_LINE] = line;
        calls[top + CALL_CODE] = lineTable[line * LINE_COLUMNS + LINE_CODE];
        if (stepsTaken >= stepLimit) {
            error = STEPS;
        } else {
            stepsTaken++;
        }
    }

    private void goOn(int line) {
        int next = lineAfter(line);
        if (next == NOWHERE) {
            leaveCall(NONE_VALUE);
        } else {
            reach(next);
        }
    }

    /** The line to run when a line with its block is done, or NOWHERE at the end of the def block or the chunk. */
    private int lineAfter(int line) {
        int done = line;
        // On each level an else or except block may be passed over before the level is left.
        for (int turn = 0; turn < 2 * MAX_LEVELS; turn++) {
            int next = ofLine(done, LINE_END);
            int parent = ofLine(done, LINE_PARENT);
            int parentKind = ofLine(parent, LINE_KIND);
            int blockEnd = parent < 0 ? lineCount : ofLine(parent, LINE_END);
            if (next < blockEnd) {
                int kind = ofLine(next, LINE_KIND);
                if (kind != ELSE_WORD && kind != EXCEPT_WORD) {
                    return next;
                }
                done = next;
            } else if (parent < 0 || parentKind == DEF_WORD) {
                return NOWHERE;
            } else if (parentKind == WHILE_WORD) {
                return parent;
            } else {
                done = parent;
            }
        }
        return NOWHERE;
    }

    /** Whether some try line around the error holds it; then its except block is gone to. */
    private boolean errorIsCaught() {
        if (error == STEPS) {
            return false;
        }
        for (int depth = callCount; depth > 0; depth--) {
            int row = (depth - 1) * CALL_COLUMNS;
            int handler = handlerOf(calls[row + CALL_LINE]);
            if (handler >= 0) {
                long value = INT_VALUE | (error == RAISED ? raisedCode : error) & LOW_HALF;
                error = DONE;
                callCount = depth;
                operandCount = calls[row + CALL_BASE];
                setName(lineTable[handler * LINE_COLUMNS + LINE_FIRST], value);
                reach(handler + 1);
                return true;
            }
        }
        return false;
    }

    /** The except line for an error at a line of one call, or -1; a try line's block always ends at its except line. */
    private int handlerOf(int line) {
        int inner = line;
        for (int level = 0; level < MAX_LEVELS && inner >= 0; level++) {
            int around = ofLine(inner, LINE_PARENT);
            int kind = ofLine(around, LINE_KIND);
            if (kind == DEF_WORD) {
                return -1;
            }
            if (kind == TRY_WORD) {
                return ofLine(around, LINE_END);
            }
            inner = around;
        }
        return -1;
    }

    // ---- Lines ----

    /** What a line does when its expressions are evaluated. */
    private void finishLine(int line) {
        int row = line * LINE_COLUMNS;
        int kind = lineTable[row + LINE_KIND];
        switch (kind) {
            case IF_WORD:
            case WHILE_WORD:
                int chosen = chosenLine(line);
                if (chosen != NOWHERE) {
                    reach(chosen);
                    return;
                }
                break;
            case TRY_WORD:
                reach(line + 1);
                return;
            case CLASS_WORD:
                makeClass(line);
                return;
            case RETURN_WORD:
                long answer = pop();
                leaveCall(answer);
                return;
            case DEF_WORD:
                setOwnEntry(lineTable[row + LINE_FIRST], METHOD_VALUE | line);
                break;
            case PASS_WORD:
                break;
            default:
                useValue(row);
        }
        if (error == DONE) {
            goOn(line);
        }
    }

    private void useValue(int row) {
        int kind = lineTable[row + LINE_KIND];
        int name = lineTable[row + LINE_FIRST];
        long value = pop();
        if (kind == PRINT_WORD) {
            print(value);
        } else if (kind == RAISE_WORD) {
            raisedCode = (int) value;
            error = hasKind(value, INT_VALUE) ? RAISED : TYPE;
        } else if (kind == SET_ATTRIBUTE_LINE) {
            long holder = pop();
            setAttribute(holder, name, value);
        } else if (kind == SET_ENTRY_LINE) {
            setEntry(lineTable[row + LINE_SECOND], name, value);
        } else if (kind == SET_NAME_LINE) {
            if (ofLine(lineTable[row + LINE_PARENT], LINE_KIND) == CLASS_WORD) {
                setOwnEntry(name, value);
            } else {
                setName(name, value);
            }
        }
    }

    /** The first line of the block that the condition of an if or while line chooses, or NOWHERE if it chooses none. */
    private int chosenLine(int line) {
        long condition = pop();
        int otherwise = ofLine(line, LINE_END);
        if (condition != NONE_VALUE && condition != INT_VALUE) {
            return line + 1;
        }
        boolean hasElse = otherwise < lineCount && ofLine(otherwise, LINE_KIND) == ELSE_WORD
                && ofLine(otherwise, LINE_INDENT) == ofLine(line, LINE_INDENT);
        return hasElse ? otherwise + 1 : NOWHERE;
    }

    private void print(long value) {
        if (!hasKind(value, INT_VALUE)) {
            error = TYPE;
            return;
        }
        lastPrints[printCount & (PRINTS_SIZE - 1)] = (int) value;
        printCount++;
    }

    private boolean isLocal(int name) {
        int def = calls[(callCount - 1) * CALL_COLUMNS + CALL_DEF];
        return def != NOWHERE && (lineTable[def * LINE_COLUMNS + LINE_LOCALS] >> name & 1) == 1;
    }

    private void setName(int name, long value) {
        if (isLocal(name)) {
            held[(callCount - 1) * HELD_COLUMNS + name] = value;
        } else {
            globals[name] = value;
        }
    }

    private void setAttribute(long holder, int name, long value) {
        if (!hasKind(holder, OBJECT_VALUE)) {
            error = TYPE;
            return;
        }
        int own = (int) holder * LETTERS;
        int count = 0;
        for (int other = 0; other < LETTERS; other++) {
            count += attributes[own + other] != UNSET ? 1 : 0;
        }
        if (count >= MAX_ATTRIBUTES && attributes[own + name] == UNSET) {
            error = MEMORY;
            return;
        }
        attributes[own + name] = value;
    }

    private void setEntry(int letter, int name, long value) {
        int number = letterClass[letter];
        if (number < 0) {
            error = NAME;
        } else if (number == 0) {
            error = TYPE;
        } else {
            entries[number * LETTERS + name] = value;
        }
    }

    /** No class line runs inside a class block, so the class whose block is run is always the last one made. */
    private void setOwnEntry(int name, long value) {
        if (classCount > 0) {
            entries[(classCount - 1) * LETTERS + name] = value;
        }
    }

    // ---- Classes ----

    private void makeClass(int line) {
        int row = line * LINE_COLUMNS;
        int firstLetter = lineTable[row + LINE_SECOND];
        int secondLetter = lineTable[row + LINE_THIRD];
        int first = firstLetter < 0 ? -1 : letterClass[firstLetter];
        int second = secondLetter < 0 ? -1 : letterClass[secondLetter];
        if (firstLetter >= 0 && first < 0 || secondLetter >= 0 && second < 0) {
            error = NAME;
        } else if (!orderIsMade(first, second)) {
            error = TYPE;
        } else if (classCount >= MAX_CLASSES) {
            error = MEMORY;
        } else {
            letterClass[lineTable[row + LINE_FIRST]] = classCount;
            classCount++;
            reach(line + 1);
        }
    }

    /** Writes the order of the class that would be made next; whether its bases (-1 for none) have one. */
    private boolean orderIsMade(int first, int second) {
        int row = classCount * ORDER_SIZE;
        fillMerge(first, second);
        orders[row] = classCount;
        for (int place = 1; place < ORDER_SIZE; place++) {
            int next = nextMerged();
            if (next == STUCK) {
                return false;
            }
            orders[row + place] = next;
            strike(next);
        }
        return true;
    }

    /** Three lists that end in -1: the orders of the bases, and the bases. */
    private void fillMerge(int first, int second) {
        for (int place = 0; place < ORDER_SIZE; place++) {
            merging[place] = first < 0 ? -1 : orders[first * ORDER_SIZE + place];
            merging[ORDER_SIZE + place] = second < 0 ? -1 : orders[second * ORDER_SIZE + place];
            merging[2 * ORDER_SIZE + place] = place == 0 ? first : place == 1 ? second : -1;
        }
    }

    /** The first head of a list that stands behind no other; or that there is none, or no list is left. */
    private int nextMerged() {
        int answer = ALL_MERGED;
        for (int list = 0; list < MERGED_LISTS; list++) {
            int head = merging[list * ORDER_SIZE];
            boolean behind = false;
            for (int at = 0; at < MERGE_SIZE; at++) {
                behind |= at % ORDER_SIZE != 0 && merging[at] == head;
            }
            if (head >= 0 && !behind) {
                return head;
            }
            answer = head >= 0 ? STUCK : answer;
        }
        return answer;
    }

    private void strike(int number) {
        for (int list = 0; list < MERGED_LISTS; list++) {
            int row = list * ORDER_SIZE;
            if (merging[row] == number) {
                for (int place = 0; place < ORDER_SIZE - 1; place++) {
                    merging[row + place] = merging[row + place + 1];
                }
                merging[row + ORDER_SIZE - 1] = -1;
            }
        }
    }

    /** The class of an order, from a place on, whose entry a search for the name finds, or -1. */
    private int search(int number, int from, int name) {
        int found = -1;
        for (int place = from; place < ORDER_SIZE; place++) {
            int member = orders[number * ORDER_SIZE + place];
            if (member < 0) {
                break;
            }
            if (member == 0 && name == LETTER_T) {
                return 0;
            }
            if (found < 0 && entries[member * LETTERS + name] != UNSET) {
                found = member;
            }
        }
        return found;
    }

    private int placeInOrder(int number, int member) {
        for (int place = 0; place < ORDER_SIZE; place++) {
            if (orders[number * ORDER_SIZE + place] == member) {
                return place;
            }
        }
        return ORDER_SIZE;
    }

    // ---- Expressions ----

    private void runCode(long element) {
        int operation = (int) (element >> 32);
        int part = (int) element;
        switch (operation) {
            case PUSH_NUMBER:
                pushInt(part);
                break;
            case PUSH_NAME:
                pushName(part);
                break;
            case PUSH_NONE:
                push(NONE_VALUE);
                break;
            case GET_ATTRIBUTE:
                getAttribute(part);
                break;
            case GET_ENTRY:
                getEntry(letterClass[part / LETTERS], part % LETTERS);
                break;
            case CALL_METHOD:
            case CALL_METHOD + 1:
                callMethod(part, operation - CALL_METHOD);
                break;
            case CALL_SUPER:
            case CALL_SUPER + 1:
                callSuper(part, operation - CALL_SUPER);
                break;
            case NEW_OBJECT:
            case NEW_OBJECT + 1:
                makeObject(part, operation - NEW_OBJECT);
                break;
            default:
                long left = operand(1);
                if (operation == PLUS && hasKind(left, OBJECT_VALUE)) {
                    callMethod(LETTER_A, 1);
                } else {
                    compute(operation);
                }
        }
    }

    private void push(long value) {
        if (operandCount < OPERANDS_SIZE) {
            operands[operandCount] = value;
            operandCount++;
        }
    }

    private void pushInt(int value) {
        push(INT_VALUE | value & LOW_HALF);
    }

    private long operand(int back) {
        int at = operandCount - 1 - back;
        return at >= 0 && at < OPERANDS_SIZE ? operands[at] : UNSET;
    }

    private long pop() {
        long value = operand(0);
        operandCount = operandCount > 0 ? operandCount - 1 : 0;
        return value;
    }

    private void pushName(int name) {
        long value = isLocal(name) ? held[(callCount - 1) * HELD_COLUMNS + name] : globals[name];
        if (value == UNSET) {
            error = NAME;
        } else {
            push(value);
        }
    }

    private void getAttribute(int name) {
        long holder = pop();
        if (!hasKind(holder, OBJECT_VALUE)) {
            error = TYPE;
            return;
        }
        long own = attributes[(int) holder * LETTERS + name];
        if (own != UNSET) {
            push(own);
        } else {
            getEntry(objectClass[(int) holder], name);
        }
    }

    private void getEntry(int number, int name) {
        if (number < 0) {
            error = NAME;
            return;
        }
        int found = search(number, 0, name);
        if (found < 0) {
            error = ATTR;
            return;
        }
        long value = entries[found * LETTERS + name];
        if (hasKind(value, METHOD_VALUE)) {
            error = TYPE;
        } else {
            push(value);
        }
    }

    private void compute(int operation) {
        long right = pop();
        long left = pop();
        if (operation == SAME) {
            pushInt(left == right ? 1 : 0);
            return;
        }
        if (!hasKind(left, INT_VALUE) || !hasKind(right, INT_VALUE)) {
            error = TYPE;
            return;
        }
        int a = (int) left;
        int b = (int) right;
        if (operation == OVER && b == 0) {
            error = ZERO;
            return;
        }
        int answer = arithmetic(operation, a, b);
        pushInt(answer);
    }

    private static int arithmetic(int operation, int a, int b) {
        switch (operation) {
            case LESS:
                return a < b ? 1 : 0;
            case PLUS:
                return a + b;
            case MINUS:
                return a - b;
            case TIMES:
                return a * b;
            default:
                return b == 0 ? 0 : a % b != 0 && (a < 0) != (b < 0) ? a / b - 1 : a / b;
        }
    }

    // ---- Calls ----

    /** The call of a method of the operand below the arguments. */
    private void callMethod(int name, int arguments) {
        long target = operand(arguments);
        if (!hasKind(target, OBJECT_VALUE)) {
            error = TYPE;
            return;
        }
        int object = (int) target;
        if (attributes[object * LETTERS + name] != UNSET) {
            error = TYPE;
            return;
        }
        int home = search(objectClass[object], 0, name);
        if (startCall(home, name, target, arguments, arguments + 1)) {
            reach(calls[(callCount - 1) * CALL_COLUMNS + CALL_DEF] + 1);
        }
    }

    private void callSuper(int name, int arguments) {
        int top = callCount - 1;
        long receiver = held[top * HELD_COLUMNS + HELD_RECEIVER];
        int number = objectClass[(int) receiver];
        int place = placeInOrder(number, calls[top * CALL_COLUMNS + CALL_HOME]);
        int home = search(number, place + 1, name);
        if (startCall(home, name, receiver, arguments, arguments)) {
            reach(calls[(callCount - 1) * CALL_COLUMNS + CALL_DEF] + 1);
        }
    }

    private void makeObject(int letter, int arguments) {
        int number = letterClass[letter];
        if (number < 0) {
            error = NAME;
            return;
        }
        int alive = liveObjects();
        if (countBits(alive) >= objectLimit) {
            error = MEMORY;
            return;
        }
        int object = freeObject(alive);
        long made = OBJECT_VALUE | object;
        objectClass[object] = number;
        for (int name = 0; name < LETTERS; name++) {
            attributes[object * LETTERS + name] = UNSET;
        }
        int home = search(number, 0, LETTER_I);
        if (home >= 0) {
            if (startCall(home, LETTER_I, made, arguments, arguments)) {
                calls[(callCount - 1) * CALL_COLUMNS + CALL_MAKES] = 1;
                reach(calls[(callCount - 1) * CALL_COLUMNS + CALL_DEF] + 1);
            }
        } else if (arguments > 0) {
            error = TYPE;
        } else {
            push(made);
        }
    }

    /** Makes the call active, if the entry of its home (-1: none was found) allows it; so many operands are used up by it. */
    private boolean startCall(int home, int name, long receiver, int arguments, int used) {
        long found = home < 0 ? UNSET : entries[home * LETTERS + name];
        int def = (int) found;
        if (found == UNSET) {
            error = ATTR;
        } else if (!hasKind(found, METHOD_VALUE) || (ofLine(def, LINE_THIRD) < 0 ? 0 : 1) != arguments) {
            error = TYPE;
        } else if (callCount > depthLimit) {
            error = DEPTH;
        }
        if (error != DONE) {
            return false;
        }
        long argument = operand(0);
        int values = callCount * HELD_COLUMNS;
        int top = callCount * CALL_COLUMNS;
        for (int local = 0; local < LETTERS; local++) {
            held[values + local] = UNSET;
        }
        held[values + HELD_RECEIVER] = receiver;
        held[values + ofLine(def, LINE_SECOND)] = receiver;
        if (arguments > 0) {
            held[values + ofLine(def, LINE_THIRD)] = argument;
        }
        operandCount = operandCount > used ? operandCount - used : 0;
        calls[top + CALL_DEF] = def;
        calls[top + CALL_HOME] = home;
        calls[top + CALL_BASE] = operandCount;
        calls[top + CALL_MAKES] = 0;
        callCount++;
        return true;
    }

    /** Ends the active call with its answer, or the chunk. */
    private void leaveCall(long answer) {
        int top = callCount - 1;
        if (top == 0) {
            calls[CALL_LINE] = NOWHERE;
            return;
        }
        boolean makes = calls[top * CALL_COLUMNS + CALL_MAKES] == 1;
        operandCount = calls[top * CALL_COLUMNS + CALL_BASE];
        callCount = top;
        push(makes ? held[top * HELD_COLUMNS + HELD_RECEIVER] : answer);
    }

    // ---- Live objects ----

    /** The live objects as bits, found anew each time: an object is let go by no more than not being found. */
    private int liveObjects() {
        int mask = 0;
        for (int name = 0; name < LETTERS; name++) {
            mask |= bitOf(globals[name]);
        }
        for (int at = 0; at < ENTRIES_SIZE; at++) {
            mask |= bitOf(entries[at]);
        }
        for (int at = HELD_COLUMNS; at < callCount * HELD_COLUMNS; at++) {
            mask |= bitOf(held[at]);
        }
        for (int at = 0; at < operandCount; at++) {
            mask |= bitOf(operands[at]);
        }
        for (int round = 0; round < MAX_OBJECTS; round++) {
            for (int at = 0; at < ATTRIBUTES_SIZE; at++) {
                if ((mask >> at / LETTERS & 1) == 1) {
                    mask |= bitOf(attributes[at]);
                }
            }
        }
        return mask;
    }

    private static int bitOf(long value) {
        return value >>> 32 == OBJECT_VALUE >>> 32 ? 1 << (int) value : 0;
    }

    private static int freeObject(int mask) {
        for (int object = 0; object < MAX_OBJECTS; object++) {
            if ((mask >> object & 1) == 0) {
                return object;
            }
        }
        return 0;
    }
}
