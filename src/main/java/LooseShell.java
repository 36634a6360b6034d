/**
 * A scripting shell for Java-like statements with loose typing.
 *
 * A run goes in two passes: the text is read once, token by token, and turned into instructions; if no token
 * was faulty, the instructions are carried out. Both passes keep their own stacks in arrays.
 */
public final class LooseShell {
    public static final int BOOLEAN = 0, BYTE = 1, CHAR = 2, INT = 3, LONG = 4;
    public static final int OK = 0, SYNTAX = 1, UNDEFINED = 2, KIND = 3, ZERO = 4, NO_METHOD = 5, AMBIGUOUS = 6, DEEP = 7, FULL = 8, BUDGET = 9;

    private static final int VAR = 5;
    private static final int NONE = -1;

    // The words of the text, then the codes of its other tokens.
    private static final int IF = 6, ELSE = 7, WHILE = 8, BREAK = 9, CONTINUE = 10, RETURN = 11, PRINT = 12, TRUE = 13, FALSE = 14;
    private static final int OPEN = 15, CLOSE = 16, LEFT_BRACE = 17, RIGHT_BRACE = 18, COMMA = 19, SEMICOLON = 20;
    private static final int ASSIGN = 21, NOT = 22, COMPLEMENT = 23;
    private static final int PLUS = 24, MINUS = 25, TIMES = 26, DIVIDE = 27, REMAINDER = 28, AND = 29, OR = 30, XOR = 31;
    private static final int SHIFT_LEFT = 32, SHIFT_RIGHT = 33, SHIFT_UNSIGNED = 34;
    private static final int LESS = 35, LESS_EQUAL = 36, GREATER = 37, GREATER_EQUAL = 38, EQUAL = 39, UNEQUAL = 40;
    private static final int BOTH = 41, EITHER = 42, FIRST_UPDATE = 43, LAST_WORD = 53;
    private static final int NAME = 54, NUMBER = 55, WIDE_NUMBER = 56, END = 57;
    // From an op= sign to its operator, for all eleven of them.
    private static final int UPDATE_TO_OPERATOR = PLUS - FIRST_UPDATE;

    // The limits of the document.
    private static final int NAMES = 16, TEXT = 140, EXPRESSION = 32, LOCALS = 8, PARAMETERS = 3;
    private static final int OUTPUTS = 32, METHODS = 8, METHOD_TOKENS = 240, CALLS = 8;
    private static final int LEAST_TICKS = 20, MOST_TICKS = 400;
    private static final int DECLARED_KIND = 8;

    // Every part of a text makes at most two instructions for each of its tokens, so room for code follows from
    // the counts of tokens. Methods come first, then the text's own code with a halt at its end.
    private static final int CODE_PER_TOKEN = 2;
    private static final int TEXT_CODE = METHOD_TOKENS * CODE_PER_TOKEN;
    private static final int CODE = TEXT_CODE + TEXT * CODE_PER_TOKEN + 1;

    // Cells hold values: the globals, then the locals of the items and of every active call, then the operands.
    // An expression has fewer operands than tokens, and one expression is open in the items and in each call.
    private static final int VARIABLES = NAMES + (CALLS + 1) * LOCALS;
    private static final int CELLS = VARIABLES + (CALLS + 1) * EXPRESSION;

    // Every reading step takes a token, or begins or ends one thing that a token stands for.
    private static final int READING_STEPS = 8 * TEXT;
    // Between two ticks, returns or loop ends (of which a run has at most 1200) code runs forward only.
    private static final int RUNNING_STEPS = 2000000;

    // The instructions. Jumps are told from their own place, so a method's code may be copied as it is.
    private static final int DO_HALT = 0, DO_TICK = 1, DO_PUSH = 2, DO_LOAD = 3, DO_UNARY = 4, DO_BINARY = 5, DO_CAST = 6;
    private static final int DO_DECIDE = 7, DO_NEED_BOOLEAN = 8, DO_ASSIGN = 9, DO_UPDATE = 10, DO_CALL = 11, DO_DROP = 12;
    private static final int DO_RESULT = 13, DO_JUMP = 14, DO_UNLESS = 15, DO_PRINT = 16, DO_RETURN = 17, DO_RETURN_ZERO = 18;
    private static final int DO_ZERO = 19, DO_DECLARE = 20, DO_DEFINE = 21;
    // Beside the KIND of a conversion: no NAME stands in the expression.
    private static final int CONSTANT = 8, KIND_BITS = 7;

    // A method's sign: NAME, number of parameters and their KINDs in one number, so that equal signs are one method.
    private static final int SIGN_COUNT = 4, SIGN_KINDS = 6, SIGN_KIND_WIDTH = 3, SIGN_CALL_MASK = 63;

    // What the token that is read next must be or belong to.
    private static final int AT_START = 0, AT_STATEMENT = 1, AT_DECLARATION = 2, AT_FINISH = 3, AT_OPERAND = 4, AT_OPERATOR = 5;
    private static final int AT_END = 6;

    // What is open around that token. With it is kept: of a block the number of locals outside of it; of all others
    // an instruction that is needed at their end, to be aimed or for the place of its token.
    private static final int IN_ITEMS = 0, IN_BLOCK = 1, IN_METHOD = 2, IN_THEN = 3, IN_ELSE = 4, IN_LOOP = 5;
    private static final int IN_EXPRESSION = 6, IN_IF = 7, IN_WHILE = 8, IN_PRINT = 9, IN_RETURN = 10, IN_DECLARATION = 11;
    private static final int FRAMES = TEXT + 2;

    // How tightly the pending parts of an expression bind; binary operators stand between assignment and prefix.
    // With them is kept: of a call the number of arguments; of an assignment the address; of a cast the KIND; of
    // && and || the place of the instruction that may skip the right side.
    private static final int CALL_LEVEL = 0, GROUP_LEVEL = 1, ASSIGN_LEVEL = 2, PREFIX_LEVEL = 13;

    private final int tickLimit;

    private final int[] tokenCode = new int[TEXT];
    private final int[] tokenValue = new int[TEXT];
    private int tokenCount;

    private final int[] outKind = new int[OUTPUTS];
    private final long[] outValue = new long[OUTPUTS];
    private int outCount;
    private int error;
    private int errorPlace;
    private int lastKind;
    private long lastValue;

    private final int[] codeOp = new int[CODE];
    private final int[] codeArg = new int[CODE];
    private final int[] codeKind = new int[CODE];
    private final int[] codePlace = new int[CODE];
    private int codeSize;

    private final int[] methodSign = new int[METHODS];
    private final int[] methodStart = new int[METHODS];
    private int methodCount;
    private int methodTokens;

    private final int[] declared = new int[VARIABLES];
    private final int[] cellKind = new int[CELLS];
    private final long[] cellValue = new long[CELLS];
    private int cellCount;
    private final int[] callReturn = new int[CALLS];
    private int activeCalls;
    private int next;
    private int ticksLeft;

    private int state;
    private int pos;
    private int expressionStart;
    private final int[] pendingLevel = new int[TEXT];
    private final int[] pendingPlace = new int[TEXT];
    private final int[] pendingMore = new int[TEXT];
    private int pendingCount;
    private final int[] frameKind = new int[FRAMES];
    private final int[] frameMore = new int[FRAMES];
    private int frameTop;
    private final int[] localName = new int[LOCALS];
    private int localCount;

    public LooseShell(int ticks) {
        int atLeast = ticks < LEAST_TICKS ? LEAST_TICKS : ticks;
        tickLimit = atLeast > MOST_TICKS ? MOST_TICKS : atLeast;
        clear();
    }

    public boolean name(int n) {
        return n >= 0 && n < NAMES && addToken(NAME, n);
    }

    public boolean number(int v, boolean wide) {
        return addToken(wide ? WIDE_NUMBER : NUMBER, v);
    }

    public boolean word(int w) {
        return w >= 0 && w <= LAST_WORD && addToken(w, 0);
    }

    public int run() {
        clearAnswers();
        readText();
        if (error == OK) {
            execute();
        }
        tokenCount = 0;
        return error;
    }

    public void reset() {
        clear();
    }

    public int outputs() {
        return outCount;
    }

    public int outputKind(int i) {
        return i >= 0 && i < outCount ? outKind[i] : NONE;
    }

    public long outputValue(int i) {
        return i >= 0 && i < outCount ? outValue[i] : 0;
    }

    public int errorAt() {
        return errorPlace;
    }

    public int resultKind() {
        return lastKind;
    }

    public long resultValue() {
        return lastValue;
    }

    public int globalKind(int n) {
        int answer = NONE;
        if (isGlobal(n)) {
            answer = declared[n] == VAR ? cellKind[n] : cellKind[n] + DECLARED_KIND;
        }
        return answer;
    }

    public long globalValue(int n) {
        return isGlobal(n) ? cellValue[n] : 0;
    }

    public int methods() {
        return methodCount;
    }

    private boolean isGlobal(int n) {
        return n >= 0 && n < NAMES && declared[n] != NONE;
    }

    private void clear() {
        tokenCount = 0;
        methodCount = 0;
        methodTokens = 0;
        for (int i = 0; i < NAMES; i++) {
            declared[i] = NONE;
        }
        clearAnswers();
    }

    private void clearAnswers() {
        outCount = 0;
        error = OK;
        errorPlace = NONE;
        lastKind = NONE;
        lastValue = 0;
    }

    private boolean addToken(int code, int value) {
        boolean room = tokenCount < TEXT;
        if (room) {
            tokenCode[tokenCount] = code;
            tokenValue[tokenCount] = value;
            tokenCount++;
        }
        return room;
    }

    // ---- Reading the text ----

    private void readText() {
        codeSize = TEXT_CODE;
        pos = 0;
        pendingCount = 0;
        frameTop = 0;
        frameKind[0] = IN_ITEMS;
        frameMore[0] = 0;
        localCount = 0;
        state = AT_START;
        for (int step = 0; step < READING_STEPS && state != AT_END && error == OK; step++) {
            switch (state) {
                case AT_START: begin(); break;
                case AT_STATEMENT: beginStatement(); break;
                case AT_DECLARATION: beginDeclaration(); break;
                case AT_FINISH: finish(); break;
                case AT_OPERAND: readOperand(); break;
                default: readOperator(); break;
            }
        }
        emit(DO_HALT, 0, 0, pos);
    }

    private int wordAt(int place) {
        return place >= 0 && place < tokenCount ? tokenCode[place] : END;
    }

    private int valueAt(int place) {
        return place >= 0 && place < tokenCount ? tokenValue[place] : 0;
    }

    private static boolean isKind(int word) {
        return word >= BOOLEAN && word <= VAR;
    }

    private static boolean isAssign(int word) {
        return word == ASSIGN || (word >= FIRST_UPDATE && word <= LAST_WORD);
    }

    /** The length of an expression is looked at when it ends or fails; then its 33rd token came first. */
    private void fault() {
        if (error == OK) {
            boolean inside = state == AT_OPERAND || state == AT_OPERATOR;
            boolean tooLong = inside && pos - expressionStart > EXPRESSION;
            error = SYNTAX;
            errorPlace = tooLong ? expressionStart + EXPRESSION : pos;
        }
    }

    private void expect(int word) {
        int found = wordAt(pos);
        if (found == word) {
            pos++;
        } else {
            fault();
        }
    }

    private void emit(int op, int arg, int kind, int place) {
        if (codeSize < CODE) {
            codeOp[codeSize] = op;
            codeArg[codeSize] = arg;
            codeKind[codeSize] = kind;
            codePlace[codeSize] = place;
            codeSize++;
        }
    }

    /** Lets the jump lead to the code that comes next. */
    private void aim(int jump) {
        if (jump >= 0 && jump < CODE) {
            codeArg[jump] = codeSize - jump;
        }
    }

    private void openFrame(int kind, int more) {
        if (frameTop + 1 < FRAMES) {
            frameTop++;
            frameKind[frameTop] = kind;
            frameMore[frameTop] = more;
        }
    }

    private void closeFrame() {
        if (frameTop > 0) {
            frameTop--;
        }
    }

    private void begin() {
        int word = wordAt(pos);
        int frame = frameKind[frameTop];
        boolean listed = frame == IN_ITEMS || frame == IN_BLOCK;
        if (word == END && frame == IN_ITEMS) {
            state = AT_END;
        } else if (word == RIGHT_BRACE && frame == IN_BLOCK) {
            closeBlock();
        } else if (isKind(word) && listed) {
            state = AT_DECLARATION;
        } else {
            state = AT_STATEMENT;
        }
    }

    private void closeBlock() {
        localCount = frameMore[frameTop];
        closeFrame();
        pos++;
        state = AT_FINISH;
    }

    private void beginDeclaration() {
        int following = wordAt(pos + 1);
        int third = wordAt(pos + 2);
        if (following != NAME) {
            pos++;
            fault();
        } else if (frameTop == 0 && third == OPEN) {
            readMethodHead();
        } else {
            readVariable();
        }
    }

    private void readVariable() {
        int place = pos;
        int kind = wordAt(place);
        int name = valueAt(place + 1);
        int first = codeSize;
        boolean local = frameTop > 0;
        pos++;
        state = AT_START;
        if (!local) {
            emit(DO_TICK, 0, 0, place);
        } else if (!addLocal(name, frameMore[frameTop])) {
            fault();
        }
        pos++;
        boolean filled = wordAt(pos) == ASSIGN;
        if (local || !filled) {
            int address = addressOf(name);
            emit(DO_ZERO, address, kind, place);
        }
        if (filled) {
            pos++;
            openFrame(IN_DECLARATION, first);
            startExpression();
        } else {
            expect(SEMICOLON);
        }
    }

    /** Answers false if the scope that begins at that local has the name, or eight are in scope. */
    private boolean addLocal(int name, int scopeStart) {
        boolean free = localCount < LOCALS;
        for (int i = scopeStart; i >= 0 && i < localCount && free; i++) {
            free = localName[i] != name;
        }
        if (free) {
            localName[localCount] = name;
            localCount++;
        }
        return free;
    }

    /** Globals go by their name, locals by their number behind the names; later locals are the inner ones. */
    private int addressOf(int name) {
        int address = name;
        for (int i = 0; i < localCount; i++) {
            if (localName[i] == name) {
                address = NAMES + i;
            }
        }
        return address;
    }

    private void readMethodHead() {
        int place = pos;
        int kind = wordAt(place);
        int sign = valueAt(place + 1);
        emit(DO_TICK, 0, 0, place);
        pos += 3;
        boolean more = wordAt(pos) != CLOSE;
        for (int i = 0; i < PARAMETERS && more && error == OK; i++) {
            int parameterKind = wordAt(pos);
            readParameter();
            sign += (1 << SIGN_COUNT) + (parameterKind << (SIGN_KINDS + i * SIGN_KIND_WIDTH));
            more = wordAt(pos) == COMMA;
            // The ',' after the last parameter that is allowed stays, and is faulty where a ')' is due.
            if (more && i + 1 < PARAMETERS) {
                pos++;
            }
        }
        expect(CLOSE);
        expect(LEFT_BRACE);
        openFrame(IN_METHOD, codeSize);
        emit(DO_DEFINE, 0, sign * (KIND_BITS + 1) + kind, place);
        openFrame(IN_BLOCK, localCount);
        state = AT_START;
    }

    private void readParameter() {
        int kind = wordAt(pos);
        if (isKind(kind)) {
            pos++;
            int word = wordAt(pos);
            int name = valueAt(pos);
            if (word != NAME || !addLocal(name, 0)) {
                fault();
            }
            pos++;
        } else {
            fault();
        }
    }

    private void beginStatement() {
        int word = wordAt(pos);
        int tick = codeSize;
        emit(DO_TICK, 0, 0, pos);
        switch (word) {
            case SEMICOLON:
                pos++;
                state = AT_FINISH;
                break;
            case LEFT_BRACE:
                pos++;
                openFrame(IN_BLOCK, localCount);
                state = AT_START;
                break;
            case IF: beginHeader(IN_IF, tick); break;
            case WHILE: beginHeader(IN_WHILE, tick); break;
            case PRINT: beginHeader(IN_PRINT, tick); break;
            case BREAK: case CONTINUE: readLoopJump(word); break;
            case RETURN: beginReturn(tick); break;
            default:
                openFrame(IN_EXPRESSION, tick);
                startExpression();
                break;
        }
    }

    private void beginHeader(int frame, int tick) {
        openFrame(frame, tick);
        pos++;
        expect(OPEN);
        startExpression();
    }

    private void readLoopJump(int word) {
        int loop = 0;
        for (int i = frameTop; i > 0 && loop == 0; i--) {
            loop = frameKind[i] == IN_LOOP ? i : 0;
        }
        if (loop == 0) {
            fault();
        } else {
            // A break is aimed when its loop ends; till then its distance is 0.
            int distance = word == BREAK ? 0 : frameMore[loop] + 1 - codeSize;
            emit(DO_JUMP, distance, 0, pos);
            pos++;
            expect(SEMICOLON);
            state = AT_FINISH;
        }
    }

    /** The KIND of the method that is being read, or NONE; a method stands directly among the items. */
    private int openMethodKind() {
        int kind = NONE;
        if (frameTop > 0 && frameKind[1] == IN_METHOD) {
            int define = frameMore[1];
            kind = define >= 0 && define < CODE ? codeKind[define] & KIND_BITS : NONE;
        }
        return kind;
    }

    private void beginReturn(int tick) {
        int kind = openMethodKind();
        if (kind == NONE) {
            fault();
        } else if (wordAt(pos + 1) == SEMICOLON) {
            emit(DO_RETURN_ZERO, 0, kind, pos);
            pos += 2;
            state = AT_FINISH;
        } else {
            pos++;
            openFrame(IN_RETURN, tick);
            startExpression();
        }
    }

    /** After a statement, method or declaration: goes on with what it was a part of. */
    private void finish() {
        int more = frameMore[frameTop];
        switch (frameKind[frameTop]) {
            case IN_THEN: finishThen(more); break;
            case IN_ELSE:
                aim(more);
                closeFrame();
                break;
            case IN_LOOP:
                emit(DO_JUMP, more + 1 - codeSize, 0, pos);
                aimExits(more);
                closeFrame();
                break;
            case IN_METHOD: finishMethod(more); break;
            default: state = AT_START; break;
        }
    }

    private void finishThen(int unless) {
        if (wordAt(pos) == ELSE) {
            frameKind[frameTop] = IN_ELSE;
            frameMore[frameTop] = codeSize;
            emit(DO_JUMP, 0, 0, pos);
            pos++;
            state = AT_START;
        } else {
            closeFrame();
        }
        aim(unless);
    }

    /** Inner statements have aimed their jumps by now, so those still at 0 leave this loop. */
    private void aimExits(int loopStart) {
        for (int i = loopStart; i >= 0 && i < codeSize; i++) {
            boolean jumps = codeOp[i] == DO_JUMP || codeOp[i] == DO_UNLESS;
            if (jumps && codeArg[i] == 0) {
                codeArg[i] = codeSize - i;
            }
        }
    }

    private void finishMethod(int define) {
        int kind = openMethodKind();
        // At the last '}': from here the method's number of tokens is told.
        emit(DO_RETURN_ZERO, 0, kind, pos - 1);
        aim(define);
        closeFrame();
        localCount = 0;
    }

    // ---- Reading expressions ----

    private void startExpression() {
        expressionStart = pos;
        state = AT_OPERAND;
    }

    private void pend(int level, int place, int more) {
        if (pendingCount < TEXT) {
            pendingLevel[pendingCount] = level;
            pendingPlace[pendingCount] = place;
            pendingMore[pendingCount] = more;
            pendingCount++;
        }
    }

    private int topLevel() {
        return pendingCount > 0 ? pendingLevel[pendingCount - 1] : NONE;
    }

    private void readOperand() {
        int word = wordAt(pos);
        switch (word) {
            case NAME: readName(); break;
            case NUMBER: readLiteral(INT); break;
            case WIDE_NUMBER: readLiteral(LONG); break;
            case TRUE: case FALSE: readLiteral(BOOLEAN); break;
            case OPEN: readOpen(); break;
            case PLUS: case MINUS: case COMPLEMENT: case NOT:
                pend(PREFIX_LEVEL, pos, 0);
                pos++;
                break;
            default: fault(); break;
        }
    }

    private void readLiteral(int kind) {
        int value = valueAt(pos);
        if (kind == BOOLEAN) {
            value = wordAt(pos) == TRUE ? 1 : 0;
        }
        emit(DO_PUSH, value, kind, pos);
        pos++;
        state = AT_OPERATOR;
    }

    private void readName() {
        int name = valueAt(pos);
        int following = wordAt(pos + 1);
        int address = addressOf(name);
        boolean startsExpression = topLevel() <= ASSIGN_LEVEL;
        if (following == OPEN) {
            readCall(name);
        } else if (startsExpression && isAssign(following)) {
            if (following != ASSIGN) {
                emit(DO_LOAD, address, 0, pos);
            }
            pend(ASSIGN_LEVEL, pos + 1, address);
            pos += 2;
        } else {
            emit(DO_LOAD, address, 0, pos);
            pos++;
            state = AT_OPERATOR;
        }
    }

    private void readCall(int name) {
        if (wordAt(pos + 2) == CLOSE) {
            emit(DO_CALL, name, 0, pos);
            pos += 3;
            state = AT_OPERATOR;
        } else {
            pend(CALL_LEVEL, pos, 1);
            pos += 2;
        }
    }

    private void readOpen() {
        int place = pos;
        pos++;
        int kind = wordAt(pos);
        if (!isKind(kind)) {
            pend(GROUP_LEVEL, place, 0);
        } else if (kind == VAR) {
            fault();
        } else {
            pend(PREFIX_LEVEL, place, kind);
            pos++;
            expect(CLOSE);
        }
    }

    /** The token after an operand first ends all that binds at least as tightly as itself. */
    private void readOperator() {
        int word = wordAt(pos);
        int level = levelOf(word);
        int top = topLevel();
        if (top >= level) {
            reduce();
        } else if (level > ASSIGN_LEVEL) {
            readBinary(word, level);
        } else if (top == NONE) {
            endExpression();
        } else if (word == CLOSE) {
            closeParenthesis(top);
        } else if (word == COMMA && top == CALL_LEVEL) {
            readComma();
        } else {
            fault();
        }
    }

    private static int levelOf(int word) {
        int level = ASSIGN_LEVEL;
        switch (word) {
            case EITHER: level = 3; break;
            case BOTH: level = 4; break;
            case OR: level = 5; break;
            case XOR: level = 6; break;
            case AND: level = 7; break;
            case EQUAL: case UNEQUAL: level = 8; break;
            case LESS: case LESS_EQUAL: case GREATER: case GREATER_EQUAL: level = 9; break;
            case SHIFT_LEFT: case SHIFT_RIGHT: case SHIFT_UNSIGNED: level = 10; break;
            case PLUS: case MINUS: level = 11; break;
            case TIMES: case DIVIDE: case REMAINDER: level = 12; break;
            default: break;
        }
        return level;
    }

    private void readBinary(int word, int level) {
        pend(level, pos, codeSize);
        if (word == BOTH || word == EITHER) {
            int deciding = word == EITHER ? 1 : 0;
            emit(DO_DECIDE, 0, deciding, pos);
        }
        pos++;
        state = AT_OPERAND;
    }

    private void readComma() {
        int last = pendingCount - 1;
        if (last >= 0 && pendingMore[last] < PARAMETERS) {
            pendingMore[last]++;
            pos++;
            state = AT_OPERAND;
        } else {
            fault();
        }
    }

    private void closeParenthesis(int level) {
        if (pendingCount > 0) {
            pendingCount--;
            if (level == CALL_LEVEL) {
                int place = pendingPlace[pendingCount];
                int name = valueAt(place);
                emit(DO_CALL, name + (pendingMore[pendingCount] << SIGN_COUNT), 0, place);
            }
        }
        pos++;
    }

    private void reduce() {
        if (pendingCount > 0) {
            pendingCount--;
            int level = pendingLevel[pendingCount];
            int place = pendingPlace[pendingCount];
            int more = pendingMore[pendingCount];
            int word = wordAt(place);
            if (level == ASSIGN_LEVEL) {
                reduceAssign(word, place, more);
            } else if (level == PREFIX_LEVEL) {
                int op = word == OPEN ? DO_CAST : DO_UNARY;
                emit(op, word, more, place);
            } else if (word == BOTH || word == EITHER) {
                emit(DO_NEED_BOOLEAN, 0, 0, place);
                aim(more);
            } else {
                emit(DO_BINARY, word, 0, place);
            }
        }
    }

    private void reduceAssign(int word, int place, int address) {
        if (word == ASSIGN) {
            int constant = constantSince(place + 1);
            emit(DO_ASSIGN, address, constant, place);
        } else {
            emit(DO_BINARY, word + UPDATE_TO_OPERATOR, 0, place);
            emit(DO_UPDATE, address, 0, place);
        }
    }

    private int constantSince(int start) {
        int answer = CONSTANT;
        for (int i = start; i >= 0 && i < pos && i < TEXT; i++) {
            if (tokenCode[i] == NAME) {
                answer = 0;
            }
        }
        return answer;
    }

    /** The frame tells what the expression stands in, and so what must follow it. */
    private void endExpression() {
        if (pos - expressionStart > EXPRESSION) {
            fault();
        }
        int frame = frameKind[frameTop];
        int more = frameMore[frameTop];
        int place = codePlaceOf(more);
        int constant = constantSince(expressionStart);
        boolean condition = frame == IN_IF || frame == IN_WHILE;
        state = condition ? AT_START : AT_FINISH;
        if (condition || frame == IN_PRINT) {
            expect(CLOSE);
        }
        if (!condition) {
            closeFrame();
            expect(SEMICOLON);
        }
        switch (frame) {
            case IN_IF: endCondition(IN_THEN, codeSize, place); break;
            case IN_WHILE: endCondition(IN_LOOP, more, place); break;
            case IN_PRINT: emit(DO_PRINT, 0, 0, place); break;
            case IN_RETURN: endReturn(constant, place); break;
            case IN_DECLARATION: endDeclaration(constant, place); break;
            default: emit(frameTop == 0 ? DO_RESULT : DO_DROP, 0, 0, place); break;
        }
    }

    private int codePlaceOf(int code) {
        return code >= 0 && code < CODE ? codePlace[code] : 0;
    }

    private void endCondition(int frame, int more, int place) {
        frameKind[frameTop] = frame;
        frameMore[frameTop] = more;
        emit(DO_UNLESS, 0, 0, place);
    }

    private void endReturn(int constant, int place) {
        int kind = openMethodKind();
        emit(DO_RETURN, 0, kind + constant, place);
    }

    private void endDeclaration(int constant, int place) {
        int kind = wordAt(place);
        int name = valueAt(place + 1);
        int address = addressOf(name);
        emit(DO_DECLARE, address, kind + constant, place + 2);
    }

    // ---- Running the code ----

    private void execute() {
        next = TEXT_CODE;
        cellCount = VARIABLES;
        activeCalls = 0;
        ticksLeft = tickLimit;
        boolean going = codeOp[next] != DO_HALT;
        for (int step = 0; step < RUNNING_STEPS && going; step++) {
            int at = next;
            next = at + 1;
            switch (codeOp[at]) {
                case DO_TICK: spendTick(codePlace[at]); break;
                case DO_PUSH: push(codeKind[at], codeArg[at]); break;
                case DO_LOAD: load(at); break;
                case DO_UNARY: applyUnary(at); break;
                case DO_BINARY: applyBinary(at); break;
                case DO_CAST: applyCast(at); break;
                case DO_DECIDE: decide(at); break;
                case DO_NEED_BOOLEAN: needBoolean(at); break;
                case DO_ASSIGN: assign(at); break;
                case DO_UPDATE: update(at); break;
                case DO_CALL: call(at); break;
                case DO_DROP: popCell(); break;
                case DO_RESULT: keepResult(); break;
                case DO_JUMP: next = at + codeArg[at]; break;
                case DO_UNLESS: jumpUnless(at); break;
                case DO_PRINT: print(at); break;
                case DO_RETURN: returnValue(at); break;
                case DO_RETURN_ZERO: returnZero(at); break;
                case DO_ZERO: putZero(at); break;
                case DO_DECLARE: declare(at); break;
                case DO_DEFINE: define(at); break;
                default: break;
            }
            going = error == OK && next >= 0 && next < CODE && codeOp[next] != DO_HALT;
        }
    }

    private void fail(int code, int place) {
        error = code;
        errorPlace = place;
    }

    private void spendTick(int place) {
        if (ticksLeft > 0) {
            ticksLeft--;
        } else {
            fail(BUDGET, place);
        }
    }

    private void push(int kind, long value) {
        if (cellCount < CELLS) {
            cellKind[cellCount] = kind;
            cellValue[cellCount] = value;
            cellCount++;
        }
    }

    /** Answers the cell of the operand that was on top; it keeps its content till the next push. */
    private int popCell() {
        if (cellCount > VARIABLES) {
            cellCount--;
        }
        return cellCount;
    }

    private int cellOf(int address) {
        int cell = address < NAMES ? address : address + activeCalls * LOCALS;
        return cell >= 0 && cell < VARIABLES ? cell : 0;
    }

    private static int zeroKind(int kind) {
        return kind == VAR ? INT : kind;
    }

    /** Serves arguments, conversions and the choice between methods alike. */
    private static boolean fits(int from, int to) {
        boolean small = from == BYTE || from == CHAR;
        boolean widens = (small && to == INT) || ((small || from == INT) && to == LONG);
        return from == to || to == VAR || widens;
    }

    /** The kind that the cell's value gets, or NONE; the value itself never changes. */
    private int convertedKind(int target, boolean constant, int cell) {
        int from = cellKind[cell];
        long value = cellValue[cell];
        boolean narrows = false;
        if (constant && (from == BYTE || from == CHAR || from == INT)) {
            boolean byteHas = value >= -128 && value <= 127;
            boolean charHas = value >= 0 && value <= 65535;
            narrows = (target == BYTE && byteHas) || (target == CHAR && charHas);
        }
        int kind = target == VAR ? from : target;
        return narrows || fits(from, target) ? kind : NONE;
    }

    private static long narrowed(int kind, long value) {
        long answer = value;
        switch (kind) {
            case BYTE: answer = (byte) value; break;
            case CHAR: answer = (char) value; break;
            case INT: answer = (int) value; break;
            default: break;
        }
        return answer;
    }

    private void load(int at) {
        int cell = cellOf(codeArg[at]);
        if (declared[cell] == NONE) {
            fail(UNDEFINED, codePlace[at]);
        } else {
            push(cellKind[cell], cellValue[cell]);
        }
    }

    private void applyUnary(int at) {
        int word = codeArg[at];
        int cell = popCell();
        int kind = cellKind[cell];
        long value = cellValue[cell];
        if ((kind == BOOLEAN) != (word == NOT)) {
            fail(KIND, codePlace[at]);
        } else if (word == NOT) {
            push(BOOLEAN, 1 - value);
        } else {
            int wide = kind == LONG ? LONG : INT;
            long result = word == MINUS ? -value : word == COMPLEMENT ? ~value : value;
            long fitted = narrowed(wide, result);
            push(wide, fitted);
        }
    }

    private void applyBinary(int at) {
        int word = codeArg[at];
        int right = popCell();
        int left = popCell();
        int kind = binaryKind(word, cellKind[left], cellKind[right]);
        boolean divides = word == DIVIDE || word == REMAINDER;
        if (kind == NONE) {
            fail(KIND, codePlace[at]);
        } else if (divides && cellValue[right] == 0) {
            fail(ZERO, codePlace[at]);
        } else {
            long value = computed(word, kind, cellValue[left], cellValue[right]);
            push(kind, value);
        }
    }

    /** The kind of an operator's result, or NONE where it does not take these kinds. */
    private static int binaryKind(int word, int left, int right) {
        boolean numeric = left != BOOLEAN && right != BOOLEAN;
        boolean logical = left == BOOLEAN && right == BOOLEAN;
        boolean bits = word == AND || word == OR || word == XOR;
        boolean equality = word == EQUAL || word == UNEQUAL;
        boolean shifts = word >= SHIFT_LEFT && word <= SHIFT_UNSIGNED;
        boolean compares = word >= LESS && word <= UNEQUAL;
        int kind = left == LONG || (right == LONG && !shifts) ? LONG : INT;
        if (compares || logical) {
            kind = BOOLEAN;
        }
        return numeric || (logical && (bits || equality)) ? kind : NONE;
    }

    private static long computed(int word, int kind, long left, long right) {
        long value = 0;
        switch (word) {
            case PLUS: value = left + right; break;
            case MINUS: value = left - right; break;
            case TIMES: value = left * right; break;
            case DIVIDE: value = right == 0 ? 0 : left / right; break;
            case REMAINDER: value = right == 0 ? 0 : left % right; break;
            case AND: value = left & right; break;
            case OR: value = left | right; break;
            case XOR: value = left ^ right; break;
            case SHIFT_LEFT: case SHIFT_RIGHT: case SHIFT_UNSIGNED: value = shifted(word, kind, left, right); break;
            default: value = compared(word, left, right) ? 1 : 0; break;
        }
        return narrowed(kind, value);
    }

    private static long shifted(int word, int kind, long left, long right) {
        int distance = (int) right & (kind == LONG ? 63 : 31);
        long value = left << distance;
        if (word == SHIFT_RIGHT) {
            value = left >> distance;
        } else if (word == SHIFT_UNSIGNED) {
            // An INT is held with its sign in the upper half, which must not come down.
            value = kind == LONG ? left >>> distance : (int) left >>> distance;
        }
        return value;
    }

    private static boolean compared(int word, long left, long right) {
        boolean answer = false;
        switch (word) {
            case LESS: answer = left < right; break;
            case LESS_EQUAL: answer = left <= right; break;
            case GREATER: answer = left > right; break;
            case GREATER_EQUAL: answer = left >= right; break;
            case EQUAL: answer = left == right; break;
            default: answer = left != right; break;
        }
        return answer;
    }

    private void applyCast(int at) {
        int kind = codeKind[at];
        int cell = popCell();
        if ((cellKind[cell] == BOOLEAN) != (kind == BOOLEAN)) {
            fail(KIND, codePlace[at]);
        } else {
            long value = narrowed(kind, cellValue[cell]);
            push(kind, value);
        }
    }

    /** Between the operands of && and ||: leaves the left one as the result if that decides. */
    private void decide(int at) {
        int cell = popCell();
        if (cellKind[cell] != BOOLEAN) {
            fail(KIND, codePlace[at]);
        } else if (cellValue[cell] == codeKind[at]) {
            push(BOOLEAN, cellValue[cell]);
            next = at + codeArg[at];
        }
    }

    private void needBoolean(int at) {
        int cell = popCell();
        if (cellKind[cell] == BOOLEAN) {
            push(BOOLEAN, cellValue[cell]);
        } else {
            fail(KIND, codePlace[at]);
        }
    }

    private void put(int cell, int kind, long value) {
        cellKind[cell] = kind;
        cellValue[cell] = value;
    }

    /** Answers whether the operand on top could be converted to the target and put in. */
    private boolean storeConverted(int cell, int target, int at) {
        int source = popCell();
        boolean constant = (codeKind[at] & CONSTANT) != 0;
        int kind = convertedKind(target, constant, source);
        if (kind == NONE) {
            fail(KIND, codePlace[at]);
        } else {
            declared[cell] = target;
            put(cell, kind, cellValue[source]);
        }
        return kind != NONE;
    }

    private void assign(int at) {
        int cell = cellOf(codeArg[at]);
        int target = declared[cell] == NONE ? VAR : declared[cell];
        if (storeConverted(cell, target, at)) {
            push(cellKind[cell], cellValue[cell]);
        }
    }

    private void update(int at) {
        int cell = cellOf(codeArg[at]);
        int source = popCell();
        int kind = declared[cell] == VAR ? cellKind[source] : declared[cell];
        long value = narrowed(kind, cellValue[source]);
        put(cell, kind, value);
        push(kind, value);
    }

    private void putZero(int at) {
        int cell = cellOf(codeArg[at]);
        int kind = zeroKind(codeKind[at]);
        declared[cell] = codeKind[at];
        put(cell, kind, 0);
    }

    private void declare(int at) {
        int cell = cellOf(codeArg[at]);
        storeConverted(cell, codeKind[at] & KIND_BITS, at);
    }

    private void keepResult() {
        int cell = popCell();
        lastKind = cellKind[cell];
        lastValue = cellValue[cell];
    }

    private void jumpUnless(int at) {
        int cell = popCell();
        if (cellKind[cell] != BOOLEAN) {
            fail(KIND, codePlace[at]);
        } else if (cellValue[cell] == 0) {
            next = at + codeArg[at];
        }
    }

    private void print(int at) {
        int cell = popCell();
        if (outCount < OUTPUTS) {
            outKind[outCount] = cellKind[cell];
            outValue[outCount] = cellValue[cell];
            outCount++;
        } else {
            fail(FULL, codePlace[at]);
        }
    }

    // ---- Methods ----

    private void define(int at) {
        int sign = codeKind[at] / (KIND_BITS + 1);
        int end = at + codeArg[at];
        int tokens = end > at && end <= CODE ? codePlace[end - 1] - codePlace[at] + 1 : METHOD_TOKENS + 1;
        int method = methodCount;
        for (int i = 0; i < methodCount; i++) {
            if (methodSign[i] == sign) {
                method = i;
            }
        }
        if (method >= METHODS || methodTokens + tokens > METHOD_TOKENS) {
            fail(FULL, codePlace[at]);
        } else {
            methodSign[method] = sign;
            methodStart[method] = methodTokens * CODE_PER_TOKEN;
            methodCount = method == methodCount ? methodCount + 1 : methodCount;
            copyCode(at + 1, end, methodStart[method]);
            methodTokens += tokens;
            next = end;
        }
    }

    /** The text's code is written over by the next run, so a method keeps its own. */
    private void copyCode(int from, int end, int to) {
        for (int i = 0; from + i < end && to + i < TEXT_CODE; i++) {
            codeOp[to + i] = codeOp[from + i];
            codeArg[to + i] = codeArg[from + i];
            codeKind[to + i] = codeKind[from + i];
            codePlace[to + i] = codePlace[from + i];
        }
    }

    private void call(int at) {
        int place = codePlace[at];
        int count = codeArg[at] >> SIGN_COUNT;
        int first = cellCount - count;
        int method = mostSpecial(codeArg[at], first);
        if (method == NONE) {
            fail(NO_METHOD, place);
        } else if (!isMostSpecial(method, codeArg[at], first)) {
            fail(AMBIGUOUS, place);
        } else if (activeCalls >= CALLS) {
            fail(DEEP, place);
        } else if (ticksLeft <= 0) {
            fail(BUDGET, place);
        } else {
            ticksLeft--;
            enter(method, first, count);
        }
    }

    private int parameterKind(int method, int i) {
        return methodSign[method] >> (SIGN_KINDS + i * SIGN_KIND_WIDTH) & KIND_BITS;
    }

    /** Wanted: the NAME and the number of arguments, as they stand in a sign. */
    private boolean accepts(int method, int wanted, int firstArgument) {
        boolean answer = (methodSign[method] & SIGN_CALL_MASK) == wanted;
        int count = wanted >> SIGN_COUNT;
        for (int i = 0; i < count && answer; i++) {
            int to = parameterKind(method, i);
            int cell = firstArgument + i;
            answer = cell >= 0 && cell < CELLS && fits(cellKind[cell], to);
        }
        return answer;
    }

    private boolean isAsSpecial(int method, int other) {
        boolean answer = true;
        for (int i = 0; i < PARAMETERS && answer; i++) {
            int from = parameterKind(method, i);
            int to = parameterKind(other, i);
            answer = fits(from, to);
        }
        return answer;
    }

    /** If one is more special than all others, none can take its place here once it has been met. */
    private int mostSpecial(int wanted, int firstArgument) {
        int best = NONE;
        for (int i = 0; i < methodCount; i++) {
            boolean fitting = accepts(i, wanted, firstArgument);
            if (fitting && (best == NONE || isAsSpecial(i, best))) {
                best = i;
            }
        }
        return best;
    }

    private boolean isMostSpecial(int method, int wanted, int firstArgument) {
        boolean answer = true;
        for (int i = 0; i < methodCount && answer; i++) {
            boolean fitting = accepts(i, wanted, firstArgument);
            answer = !fitting || isAsSpecial(method, i);
        }
        return answer;
    }

    private void enter(int method, int firstArgument, int count) {
        callReturn[activeCalls] = next;
        activeCalls++;
        for (int i = 0; i < count; i++) {
            int cell = cellOf(NAMES + i);
            int kind = parameterKind(method, i);
            int source = firstArgument + i;
            declared[cell] = kind;
            put(cell, kind == VAR ? cellKind[source] : kind, cellValue[source]);
        }
        cellCount = firstArgument;
        next = methodStart[method];
    }

    private void leave(int kind, long value) {
        if (activeCalls > 0) {
            activeCalls--;
            next = callReturn[activeCalls];
            push(kind, value);
        }
    }

    private void returnValue(int at) {
        int cell = popCell();
        boolean constant = (codeKind[at] & CONSTANT) != 0;
        int kind = convertedKind(codeKind[at] & KIND_BITS, constant, cell);
        if (kind == NONE) {
            fail(KIND, codePlace[at]);
        } else {
            leave(kind, cellValue[cell]);
        }
    }

    private void returnZero(int at) {
        int kind = zeroKind(codeKind[at]);
        leave(kind, 0);
    }
}
