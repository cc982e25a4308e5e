/**
 * A compiler for a small C-like language, and the machine that runs what it made.
 *
 * <p>The compiler goes through the tokens once. As nothing here may call itself, what is still to be
 * parsed lies as plans on a stack: a plan is a token that must come next, a part of the grammar that
 * must come next, or an instruction to emit once the plans above it are done.
 */
public final class RegisterCompiler {
    public static final int OK = 0, SYNTAX = 1, LOOP = 2, UNKNOWN = 3, COUNT = 4, NOTHING = 5;
    public static final int DONE = 0, DIVIDE = 1, INDEX = 2, DEEP = 3, STOPPED = 4, REFUSED = 5;

    private static final int TOKENS = 120, TOKEN_KINDS = 42, FUNCTIONS = 4, PARAMETERS = 3, VARIABLES = 6;
    private static final int ELEMENTS = 16, ACTIVE_CALLS = 8, TICKS = 120, OUTPUTS = 24;

    // A token leads to at most eight plans, three instructions and two labels (a CALL as a statement
    // to four instructions, but its signs lead to none), and within one call each value on the stack
    // comes from a token of its own.
    private static final int PLANS = 8 * TOKENS, CODE = 3 * TOKENS, LABELS = 2 * TOKENS;
    private static final int STACK = ACTIVE_CALLS * TOKENS;
    private static final int FRAMES = ACTIVE_CALLS * VARIABLES;
    // Neither a compile nor a run comes near this many steps: every plan is made by a token, and
    // only a tick leads to instructions that were executed before.
    private static final int MOST_STEPS = 1000000;

    // Kinds of tokens.
    private static final int END_OF_TOKENS = -1;
    private static final int NUM = 0, VAR = 1, CALL = 2, M = 3;
    private static final int LEFT_ROUND = 4, RIGHT_ROUND = 5, LEFT_SQUARE = 6, RIGHT_SQUARE = 7;
    private static final int LEFT_CURLY = 8, RIGHT_CURLY = 9, SEMICOLON = 10, COMMA = 11, ASSIGN = 12;
    private static final int OR = 13, AND = 14, BIT_OR = 15, BIT_XOR = 16, BIT_AND = 17;
    private static final int EQUAL = 18, UNEQUAL = 19, LESS = 20, GREATER = 21, AT_MOST = 22, AT_LEAST = 23;
    private static final int SHIFT_LEFT = 24, SHIFT_RIGHT = 25, SHIFT_ZEROS = 26;
    private static final int PLUS = 27, MINUS = 28, TIMES = 29, SLASH = 30, PERCENT = 31, NOT = 32, FLIP = 33;
    private static final int IF = 34, ELSE = 35, WHILE = 36, BREAK = 37, CONTINUE = 38, RETURN = 39;
    private static final int PRINT = 40, FUNC = 41;

    // Instructions. The operators with two sides, ! and ~, RETURN and PRINT bear the kind of their token.
    private static final int NEGATE = 50, PUSH = 51, LOAD = 52, SET = 53, LOAD_ELEMENT = 54, SET_ELEMENT = 55;
    private static final int DROP = 56, TRUTH = 57, JUMP = 58, JUMP_IF_FALSE = 59, KEEP_FALSE = 60, KEEP_TRUE = 61;
    private static final int ROOM = 62, TICK = 63, ENTER = 64;

    // Plans. Below TOKEN_KINDS: that token; from EMIT on: the instruction that stands behind EMIT.
    private static final int MORE_FUNCTIONS = 100, PARAMETER_NUMBER = 101, STATEMENTS = 102, STATEMENT = 103;
    private static final int ELSE_PART = 104, LOOP_END = 105, EXPRESSION = 106, OPERATORS = 107, OPERAND = 108;
    private static final int ARGUMENTS = 109, MORE_ARGUMENTS = 110, PUT_LABEL = 111;
    private static final int EMIT = 200;
    private static final int LOOSEST = 1, TIGHTEST = 10;

    private final int[] tokenKind = new int[TOKENS];
    private final int[] tokenValue = new int[TOKENS];
    private int tokenCount = 0;

    private final int[] planKind = new int[PLANS];
    private final int[] planValue = new int[PLANS];
    private final int[] planPlace = new int[PLANS];
    private int planCount = 0;
    private int next = 0;
    private int wrongToken = -1;
    private int looseJump = -1;
    private int latestPlace = -1;
    private final int[] argumentCount = new int[TOKENS];
    private final int[] openLoop = new int[TOKENS];
    private int openLoopCount = 0;

    private final int[] codeKind = new int[CODE];
    private final int[] codeValue = new int[CODE];
    private final int[] codePlace = new int[CODE];
    private int codeCount = 0;
    private final int[] labelTarget = new int[LABELS];
    private int labelCount = 0;
    private final int[] functionStart = new int[FUNCTIONS];
    private final int[] functionParameters = new int[FUNCTIONS];
    private int functionCount = 0;

    private final int registerCount;
    private final int[] register = new int[VARIABLES];
    private final int[] frame = new int[FRAMES];
    private final int[] returnTo = new int[ACTIVE_CALLS];
    private int activeCalls = 0;
    private final int[] stack = new int[STACK];
    private int stackCount = 0;
    private final int[] element = new int[ELEMENTS];
    private int nextCode = 0;
    private boolean running = false;
    private int ending = DONE;
    private int endingPlace = -1;
    private int resultValue = 0;
    private int ticksUsed = 0;
    private final int[] outputValue = new int[OUTPUTS];
    private int printedCount = 0;

    public RegisterCompiler(int registers) {
        if (registers < 1) {
            registerCount = 1;
        } else if (registers > VARIABLES) {
            registerCount = VARIABLES;
        } else {
            registerCount = registers;
        }
    }

    public boolean token(int kind, int value) {
        if (kind < 0 || kind >= TOKEN_KINDS || tokenCount >= TOKENS) {
            return false;
        }
        if (kind == VAR && (value < 0 || value >= VARIABLES)) {
            return false;
        }
        if (kind == CALL && (value < 0 || value >= FUNCTIONS)) {
            return false;
        }
        tokenKind[tokenCount] = kind;
        tokenValue[tokenCount] = value;
        tokenCount++;
        return true;
    }

    public int wipe() {
        int removed = tokenCount;
        tokenCount = 0;
        return removed;
    }

    public int compile() {
        startParse();
        for (int step = 0; step < MOST_STEPS && planCount > 0 && wrongToken < 0; step++) {
            planCount--;
            follow(planKind[planCount], planValue[planCount], planPlace[planCount]);
        }
        int answer = judge();
        if (answer != OK) {
            functionCount = 0;
        }
        return answer;
    }

    public int place() {
        return latestPlace;
    }

    public int run(int f, int a, int b, int c) {
        if (f < 0 || f >= FUNCTIONS || f >= functionCount) {
            return REFUSED;
        }
        clearRun();
        int parameters = functionParameters[f];
        if (parameters > 0) {
            push(a);
        }
        if (parameters > 1) {
            push(b);
        }
        if (parameters > 2) {
            push(c);
        }
        enter(f);
        for (int step = 0; step < MOST_STEPS && running; step++) {
            executeNext();
        }
        return ending;
    }

    public int result() {
        return resultValue;
    }

    public int endedAt() {
        return endingPlace;
    }

    public int used() {
        return ticksUsed;
    }

    public int printed() {
        return printedCount;
    }

    public int output(int k) {
        return k >= 0 && k < OUTPUTS && k < printedCount ? outputValue[k] : 0;
    }

    public int memory(int i) {
        return isElement(i) ? element[i] : 0;
    }

    public boolean store(int i, int v) {
        if (!isElement(i)) {
            return false;
        }
        element[i] = v;
        return true;
    }

    private static boolean isElement(int i) {
        return i >= 0 && i < ELEMENTS;
    }

    // ---- What is wrong with a program that was parsed

    private int judge() {
        latestPlace = wrongToken;
        if (latestPlace >= 0) {
            return SYNTAX;
        }
        latestPlace = looseJump;
        if (latestPlace >= 0) {
            return LOOP;
        }
        latestPlace = firstUnknownCall();
        if (latestPlace >= 0) {
            return UNKNOWN;
        }
        latestPlace = firstMiscountedCall();
        return latestPlace >= 0 ? COUNT : OK;
    }

    private int firstUnknownCall() {
        for (int i = 0; i < TOKENS && i < tokenCount; i++) {
            if (tokenKind[i] == CALL && tokenValue[i] >= functionCount) {
                return i;
            }
        }
        return -1;
    }

    private int firstMiscountedCall() {
        for (int i = 0; i < TOKENS && i < tokenCount; i++) {
            if (tokenKind[i] == CALL && argumentCount[i] != parametersOf(tokenValue[i])) {
                return i;
            }
        }
        return -1;
    }

    private int parametersOf(int f) {
        return f >= 0 && f < FUNCTIONS ? functionParameters[f] : 0;
    }

    // ---- The parser

    private void startParse() {
        next = 0;
        wrongToken = -1;
        looseJump = -1;
        openLoopCount = 0;
        codeCount = 0;
        labelCount = 0;
        functionCount = 0;
        planCount = 0;
        plan(MORE_FUNCTIONS, 0, 0);
    }

    private void plan(int kind, int value, int place) {
        if (planCount < PLANS) {
            planKind[planCount] = kind;
            planValue[planCount] = value;
            planPlace[planCount] = place;
            planCount++;
        }
    }

    private void follow(int kind, int value, int place) {
        if (kind < TOKEN_KINDS) {
            take(kind);
            return;
        }
        if (kind >= EMIT) {
            emit(kind - EMIT, value, place);
            return;
        }
        switch (kind) {
            case MORE_FUNCTIONS:
                parseMoreFunctions();
                break;
            case PARAMETER_NUMBER:
                parseParameterNumber();
                break;
            case STATEMENTS:
                parseStatements();
                break;
            case STATEMENT:
                parseStatement();
                break;
            case ELSE_PART:
                parseElsePart(value);
                break;
            case LOOP_END:
                endLoop(value);
                break;
            case EXPRESSION:
                plan(OPERATORS, value, 0);
                plan(OPERAND, 0, 0);
                break;
            case OPERATORS:
                parseOperators(value);
                break;
            case OPERAND:
                parseOperand();
                break;
            case ARGUMENTS:
                parseArguments(place);
                break;
            case MORE_ARGUMENTS:
                parseMoreArguments(place);
                break;
            case PUT_LABEL:
                putLabel(value);
                break;
            default:
                break;
        }
    }

    private int kindAt(int place) {
        return place >= 0 && place < TOKENS && place < tokenCount ? tokenKind[place] : END_OF_TOKENS;
    }

    private int valueAt(int place) {
        return place >= 0 && place < TOKENS ? tokenValue[place] : 0;
    }

    private void take(int kind) {
        if (kindAt(next) == kind) {
            next++;
        } else {
            wrongToken = next;
        }
    }

    // ---- Functions and statements. Plans are made last first: the latest is followed first.

    private void parseMoreFunctions() {
        if (functionCount > 0 && kindAt(next) == END_OF_TOKENS) {
            return;
        }
        if (functionCount >= FUNCTIONS) {
            wrongToken = next;
            return;
        }
        plan(MORE_FUNCTIONS, 0, 0);
        plan(EMIT + RETURN, 0, 0);
        plan(EMIT + PUSH, 0, 0);
        plan(RIGHT_CURLY, 0, 0);
        plan(STATEMENTS, 0, 0);
        plan(LEFT_CURLY, 0, 0);
        plan(PARAMETER_NUMBER, 0, 0);
        plan(FUNC, 0, 0);
    }

    private void parseParameterNumber() {
        int number = valueAt(next);
        if (kindAt(next) != NUM || number < 0 || number > PARAMETERS || functionCount >= FUNCTIONS) {
            wrongToken = next;
            return;
        }
        functionStart[functionCount] = codeCount;
        functionParameters[functionCount] = number;
        functionCount++;
        next++;
    }

    private void parseStatements() {
        if (kindAt(next) != RIGHT_CURLY) {
            plan(STATEMENTS, 0, 0);
            plan(STATEMENT, 0, 0);
        }
    }

    private void parseStatement() {
        int place = next;
        int kind = kindAt(place);
        next++;
        switch (kind) {
            case LEFT_CURLY:
                plan(RIGHT_CURLY, 0, 0);
                plan(STATEMENTS, 0, 0);
                break;
            case VAR:
                planAssignment(SET, place);
                break;
            case M:
                planAssignment(SET_ELEMENT, place);
                planElementIndex();
                break;
            case CALL:
                plan(SEMICOLON, 0, 0);
                plan(EMIT + DROP, 0, 0);
                planCall(place);
                break;
            case IF:
                startIf();
                planCondition();
                break;
            case WHILE:
                startLoop(place);
                planCondition();
                break;
            case BREAK:
            case CONTINUE:
                leaveOrRepeatLoop(kind, place);
                break;
            case RETURN:
            case PRINT:
                plan(SEMICOLON, 0, 0);
                plan(EMIT + kind, 0, place);
                plan(EXPRESSION, LOOSEST, 0);
                break;
            default:
                wrongToken = place;
                break;
        }
    }

    private void planAssignment(int instruction, int place) {
        int value = valueAt(place);
        plan(SEMICOLON, 0, 0);
        plan(EMIT + instruction, value, place);
        plan(EXPRESSION, LOOSEST, 0);
        plan(ASSIGN, 0, 0);
    }

    private void planElementIndex() {
        plan(RIGHT_SQUARE, 0, 0);
        plan(EXPRESSION, LOOSEST, 0);
        plan(LEFT_SQUARE, 0, 0);
    }

    private void planCondition() {
        plan(RIGHT_ROUND, 0, 0);
        plan(EXPRESSION, LOOSEST, 0);
        plan(LEFT_ROUND, 0, 0);
    }

    private void startIf() {
        int otherwise = newLabels();
        plan(ELSE_PART, otherwise, 0);
        plan(STATEMENT, 0, 0);
        plan(EMIT + JUMP_IF_FALSE, otherwise, 0);
    }

    private void parseElsePart(int otherwise) {
        if (kindAt(next) != ELSE) {
            putLabel(otherwise);
            return;
        }
        next++;
        int behind = otherwise + 1;
        emit(JUMP, behind, 0);
        putLabel(otherwise);
        plan(PUT_LABEL, behind, 0);
        plan(STATEMENT, 0, 0);
    }

    private void startLoop(int place) {
        int again = newLabels();
        if (openLoopCount < TOKENS) {
            openLoop[openLoopCount] = again;
            openLoopCount++;
        }
        putLabel(again);
        emit(TICK, 0, place);
        plan(LOOP_END, again, 0);
        plan(STATEMENT, 0, 0);
        plan(EMIT + JUMP_IF_FALSE, again + 1, 0);
    }

    private void endLoop(int again) {
        if (openLoopCount > 0) {
            openLoopCount--;
        }
        emit(JUMP, again, 0);
        putLabel(again + 1);
    }

    private void leaveOrRepeatLoop(int kind, int place) {
        plan(SEMICOLON, 0, 0);
        if (openLoopCount > 0 && openLoopCount <= TOKENS) {
            int again = openLoop[openLoopCount - 1];
            emit(JUMP, kind == BREAK ? again + 1 : again, place);
        } else if (looseJump < 0) {
            looseJump = place;
        }
    }

    // ---- Expressions

    private static int tightness(int kind) {
        switch (kind) {
            case OR:
                return LOOSEST;
            case AND:
                return 2;
            case BIT_OR:
                return 3;
            case BIT_XOR:
                return 4;
            case BIT_AND:
                return 5;
            case EQUAL:
            case UNEQUAL:
                return 6;
            case LESS:
            case GREATER:
            case AT_MOST:
            case AT_LEAST:
                return 7;
            case SHIFT_LEFT:
            case SHIFT_RIGHT:
            case SHIFT_ZEROS:
                return 8;
            case PLUS:
            case MINUS:
                return 9;
            case TIMES:
            case SLASH:
            case PERCENT:
                return TIGHTEST;
            default:
                return 0;
        }
    }

    /** The right side takes only tighter operators, so that equal ones group to the left. */
    private void parseOperators(int loosestTaken) {
        int place = next;
        int kind = kindAt(place);
        int own = tightness(kind);
        if (own < loosestTaken) {
            return;
        }
        next++;
        plan(OPERATORS, loosestTaken, 0);
        if (kind == AND || kind == OR) {
            int behind = newLabels();
            emit(TRUTH, 0, place);
            emit(kind == AND ? KEEP_FALSE : KEEP_TRUE, behind, place);
            plan(PUT_LABEL, behind, 0);
            plan(EMIT + TRUTH, 0, place);
        } else {
            plan(EMIT + kind, 0, place);
        }
        plan(EXPRESSION, own + 1, 0);
    }

    private void parseOperand() {
        int place = next;
        int value = valueAt(place);
        int kind = kindAt(place);
        next++;
        switch (kind) {
            case MINUS:
            case NOT:
            case FLIP:
                plan(EMIT + (kind == MINUS ? NEGATE : kind), 0, place);
                plan(OPERAND, 0, 0);
                break;
            case NUM:
                emit(PUSH, value, place);
                break;
            case VAR:
                emit(LOAD, value, place);
                break;
            case CALL:
                planCall(place);
                break;
            case M:
                plan(EMIT + LOAD_ELEMENT, 0, place);
                planElementIndex();
                break;
            case LEFT_ROUND:
                plan(RIGHT_ROUND, 0, 0);
                plan(EXPRESSION, LOOSEST, 0);
                break;
            default:
                wrongToken = place;
                break;
        }
    }

    private void planCall(int place) {
        int f = valueAt(place);
        plan(EMIT + ENTER, f, 0);
        plan(EMIT + TICK, 0, place);
        plan(EMIT + ROOM, 0, place);
        plan(ARGUMENTS, 0, place);
        plan(LEFT_ROUND, 0, 0);
    }

    private void parseArguments(int place) {
        if (place >= 0 && place < TOKENS) {
            argumentCount[place] = 0;
        }
        if (kindAt(next) == RIGHT_ROUND) {
            next++;
        } else {
            planArgument(place);
        }
    }

    private void planArgument(int place) {
        if (place >= 0 && place < TOKENS) {
            argumentCount[place]++;
        }
        plan(MORE_ARGUMENTS, 0, place);
        plan(EXPRESSION, LOOSEST, 0);
    }

    private void parseMoreArguments(int place) {
        if (kindAt(next) == COMMA) {
            next++;
            planArgument(place);
        } else {
            take(RIGHT_ROUND);
        }
    }

    // ---- Code

    private void emit(int kind, int value, int place) {
        if (codeCount < CODE) {
            codeKind[codeCount] = kind;
            codeValue[codeCount] = value;
            codePlace[codeCount] = place;
            codeCount++;
        }
    }

    /** Makes two labels, the one answered and the one after it: no construct needs more. */
    private int newLabels() {
        int first = labelCount;
        labelCount += 2;
        return first;
    }

    private void putLabel(int label) {
        if (label >= 0 && label < LABELS) {
            labelTarget[label] = codeCount;
        }
    }

    // ---- The machine

    private void clearRun() {
        running = true;
        ending = DONE;
        endingPlace = -1;
        resultValue = 0;
        ticksUsed = 0;
        printedCount = 0;
        activeCalls = 0;
        stackCount = 0;
        nextCode = 0;
    }

    private void endRun(int how, int place) {
        running = false;
        ending = how;
        endingPlace = place;
    }

    private void push(int value) {
        if (stackCount < STACK) {
            stack[stackCount] = value;
            stackCount++;
        }
    }

    private int pop() {
        if (stackCount <= 0) {
            return 0;
        }
        stackCount--;
        return stack[stackCount];
    }

    private void executeNext() {
        if (nextCode < 0 || nextCode >= CODE) {
            running = false;
            return;
        }
        int kind = codeKind[nextCode];
        int value = codeValue[nextCode];
        int place = codePlace[nextCode];
        nextCode++;
        if (kind >= BIT_OR && kind <= PERCENT) {
            combineTop(kind, place);
        } else if (kind == NEGATE || kind == NOT || kind == FLIP || kind == TRUTH) {
            changeTop(kind);
        } else if (kind >= JUMP && kind <= KEEP_TRUE) {
            jump(kind, value);
        } else {
            move(kind, value, place);
        }
    }

    private void move(int kind, int value, int place) {
        switch (kind) {
            case PUSH:
                push(value);
                break;
            case LOAD:
                pushVariable(value);
                break;
            case SET:
                popVariable(value);
                break;
            case LOAD_ELEMENT:
                loadElement(place);
                break;
            case SET_ELEMENT:
                setElement(place);
                break;
            case DROP:
                pop();
                break;
            case PRINT:
                printTop();
                break;
            case ROOM:
                testRoom(place);
                break;
            case TICK:
                useTick(place);
                break;
            case ENTER:
                enter(value);
                break;
            case RETURN:
                leave();
                break;
            default:
                running = false;
                break;
        }
    }

    private void jump(int kind, int label) {
        boolean jumps = true;
        if (kind != JUMP) {
            int value = pop();
            jumps = kind == KEEP_TRUE ? value != 0 : value == 0;
            if (jumps && kind != JUMP_IF_FALSE) {
                push(value);
            }
        }
        if (jumps && label >= 0 && label < LABELS) {
            nextCode = labelTarget[label];
        }
    }

    private void changeTop(int kind) {
        int value = pop();
        switch (kind) {
            case NEGATE:
                push(-value);
                break;
            case FLIP:
                push(~value);
                break;
            case NOT:
                push(value == 0 ? 1 : 0);
                break;
            default:
                push(value != 0 ? 1 : 0);
                break;
        }
    }

    private void combineTop(int kind, int place) {
        int right = pop();
        int left = pop();
        if (right == 0 && (kind == SLASH || kind == PERCENT)) {
            endRun(DIVIDE, place);
            return;
        }
        int value = kind <= AT_LEAST && kind >= EQUAL ? compare(kind, left, right) : calculate(kind, left, right);
        push(value);
    }

    private static int compare(int kind, int left, int right) {
        boolean holds;
        switch (kind) {
            case EQUAL:
                holds = left == right;
                break;
            case UNEQUAL:
                holds = left != right;
                break;
            case LESS:
                holds = left < right;
                break;
            case GREATER:
                holds = left > right;
                break;
            case AT_MOST:
                holds = left <= right;
                break;
            default:
                holds = left >= right;
                break;
        }
        return holds ? 1 : 0;
    }

    private static int calculate(int kind, int left, int right) {
        switch (kind) {
            case BIT_OR:
                return left | right;
            case BIT_XOR:
                return left ^ right;
            case BIT_AND:
                return left & right;
            case SHIFT_LEFT:
                return left << right;
            case SHIFT_RIGHT:
                return left >> right;
            case SHIFT_ZEROS:
                return left >>> right;
            case PLUS:
                return left + right;
            case MINUS:
                return left - right;
            case TIMES:
                return left * right;
            case SLASH:
                return right == 0 ? 0 : left / right;
            case PERCENT:
                return right == 0 ? 0 : left % right;
            default:
                return 0;
        }
    }

    private void printTop() {
        int value = pop();
        if (printedCount < OUTPUTS) {
            outputValue[printedCount] = value;
        }
        printedCount++;
    }

    private void loadElement(int place) {
        int i = pop();
        if (isElement(i)) {
            push(element[i]);
        } else {
            endRun(INDEX, place);
        }
    }

    private void setElement(int place) {
        int value = pop();
        int i = pop();
        if (isElement(i)) {
            element[i] = value;
        } else {
            endRun(INDEX, place);
        }
    }

    // ---- Calls. The registers hold the first variables of the function that is running; the other
    // variables, and those of the functions that wait for it, lie in the frames.

    private void pushVariable(int v) {
        if (v >= 0 && v < VARIABLES && v < registerCount) {
            push(register[v]);
            return;
        }
        int slot = (activeCalls - 1) * VARIABLES + v;
        if (slot >= 0 && slot < FRAMES) {
            push(frame[slot]);
        }
    }

    private void popVariable(int v) {
        int value = pop();
        setVariable(v, value);
    }

    private void setVariable(int v, int value) {
        if (v >= 0 && v < VARIABLES && v < registerCount) {
            register[v] = value;
            return;
        }
        int slot = (activeCalls - 1) * VARIABLES + v;
        if (slot >= 0 && slot < FRAMES) {
            frame[slot] = value;
        }
    }

    private void saveRegisters() {
        for (int v = 0; v < VARIABLES && v < registerCount; v++) {
            int slot = (activeCalls - 1) * VARIABLES + v;
            if (slot >= 0 && slot < FRAMES) {
                frame[slot] = register[v];
            }
        }
    }

    private void restoreRegisters() {
        for (int v = 0; v < VARIABLES && v < registerCount; v++) {
            int slot = (activeCalls - 1) * VARIABLES + v;
            if (slot >= 0 && slot < FRAMES) {
                register[v] = frame[slot];
            }
        }
    }

    private void useTick(int place) {
        if (ticksUsed >= TICKS) {
            endRun(STOPPED, place);
        } else {
            ticksUsed++;
        }
    }

    private void testRoom(int place) {
        if (activeCalls >= ACTIVE_CALLS) {
            endRun(DEEP, place);
        }
    }

    private void enter(int f) {
        if (f < 0 || f >= FUNCTIONS || activeCalls < 0 || activeCalls >= ACTIVE_CALLS) {
            running = false;
            return;
        }
        saveRegisters();
        returnTo[activeCalls] = nextCode;
        activeCalls++;
        for (int v = VARIABLES - 1; v >= 0; v--) {
            int value = 0;
            if (v < functionParameters[f]) {
                value = pop();
            }
            setVariable(v, value);
        }
        nextCode = functionStart[f];
    }

    private void leave() {
        int value = pop();
        activeCalls--;
        if (activeCalls <= 0 || activeCalls >= ACTIVE_CALLS) {
            running = false;
            resultValue = value;
            return;
        }
        restoreRegisters();
        nextCode = returnTo[activeCalls];
        push(value);
    }
}
