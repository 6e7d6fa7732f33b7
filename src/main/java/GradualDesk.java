/**
 * A desk for gradually typed terms: types and terms are drafted token by token, checked, worked
 * out, and the value is looked at part by part.
 */
public final class GradualDesk {
    public static final int OK = 0, SYNTAX = 1, ILL = 2, LARGE = 3, BLAME = 4, LONG = 5, BAD = -1;

    private static final int NAMES = 10, TYPE_TOKENS = 7, TERM_TOKENS = 36, STEPS = 40;
    private static final int MOST_OPERANDS = 3, OPERANDS = MOST_OPERANDS * TERM_TOKENS;

    // A type is packed into one int, three bits a token, its first token lowest; the prefix
    // notation tells where it ends, so equal types are equal ints.
    private static final int BITS = 3, MASK = 7;
    private static final int INT = 0, BOOL = 1, ANY = 2, FUN = 3, PAIR = 4;
    private static final int ANY_TO_ANY = FUN | (ANY << BITS) | (ANY << (2 * BITS));
    private static final int ANY_AND_ANY = PAIR | (ANY << BITS) | (ANY << (2 * BITS));
    private static final int NO_TYPE = -1, LARGE_TYPE = -2;

    private static final int NUM = 0, TRUTH = 1, VAR = 2, LAM = 3, APP = 4, IF = 5, ADD = 6;
    private static final int LESS = 7, BOTH = 8, FIRST = 9, SECOND = 10, AS = 11;

    // A value is twice the number of its cell, plus 1 if it is tagged: which tag it has is known
    // from the shape, and a tagged value is never tagged again.
    private static final int TAGGED = 1;
    private static final int AN_INT = 1, A_TRUTH = 2, A_FUNCTION = 3, A_PAIR = 4;

    private static final int BEGIN = 0, RESUME = 1, CALL = 2, TAKE = 3, HALTED = 4;
    private static final int CAST_FRAME = -1;

    // A cast between equal types never shows, so it takes no cell and no frame. With that, a step
    // puts at most one value into a cast, and what a call or a FIRST adds to that are casts of
    // types less deep than those of 7 tokens, 3 levels at most: under 5000 cells and 30000 frames
    // are ever in use, so there always is room. The most that a search for heavy terms has found
    // are 234 cells, 488 frames and 974 turns.
    private static final int CELLS = 8192, FRAMES = 32768, SCOPES = 64;
    private static final int MANY_TURNS = 1000000;

    private static final int WAY_DIGITS = 16, WHATS = 3;
    private static final int NO_PART = -1, PART_BLAMES = -2;

    private final int[] named = new int[NAMES];
    private int typeDraft, typeCount;

    private final int[] kinds = new int[TERM_TOKENS];
    private final int[] values = new int[TERM_TOKENS];
    private int count;

    // What the check finds out of the draft; operand k of token i stands at 3 i + k.
    private final int[] ends = new int[TERM_TOKENS];
    private final int[] types = new int[TERM_TOKENS];
    private final int[] operands = new int[OPERANDS];
    private final int[] targets = new int[OPERANDS];
    private int wrongAt, keptPlace = -1;

    // A cell holds an int or a truth (one), a LAM (one: its token, two: its scope), a pair (one,
    // two: its parts), or a function or pair in a cast (one: that, two: the type it is cast from,
    // three: the type it is cast to). A label is kept plus 1, so that turning it is a change of
    // sign; a cell without a cast has label 0.
    private final int[] cellShape = new int[CELLS];
    private final int[] cellLabel = new int[CELLS];
    private final int[] cellOne = new int[CELLS];
    private final int[] cellTwo = new int[CELLS];
    private final int[] cellThree = new int[CELLS];
    private int cellCount;

    // A scope is the value of the innermost variable and the scope around it; 0 is the empty one.
    private final int[] scopeValue = new int[SCOPES];
    private final int[] scopeOuter = new int[SCOPES];
    private int scopeCount;

    // A frame waits for a value, to cast it (one: from, two: to, three: the label) or to have it as
    // operand k of token i (its kind is 3 i + k; one: the scope, two: the value of operand 0).
    private final int[] frameKind = new int[FRAMES];
    private final int[] frameOne = new int[FRAMES];
    private final int[] frameTwo = new int[FRAMES];
    private final int[] frameThree = new int[FRAMES];
    private int frameCount;

    // What is to be done next: the mode tells which of the others count.
    private int mode, atToken, scope, current, callee, side;
    private int ending, faultLabel;

    private int stepsTaken, runVerdict = BAD, runBlame, result;

    public GradualDesk() {
        for (int n = 0; n < NAMES; n++) {
            named[n] = ANY;
        }
    }

    public boolean part(int code) {
        if (code < INT || code > PAIR || typeCount >= TYPE_TOKENS) {
            return false;
        }
        typeDraft |= code << (BITS * typeCount);
        typeCount++;
        return true;
    }

    public int name(int n) {
        if (n < 0 || n >= NAMES) {
            return BAD;
        }
        boolean whole = typeEnd(typeDraft, 0) == typeCount;
        if (whole) {
            named[n] = typeDraft;
        }
        typeDraft = 0;
        typeCount = 0;
        return whole ? OK : SYNTAX;
    }

    public boolean token(int kind, int value) {
        if (kind < NUM || kind > AS || count >= TERM_TOKENS) {
            return false;
        }
        int allowed = valuesOf(kind);
        if (allowed != 0 && (value < 0 || value >= allowed)) {
            return false;
        }
        kinds[count] = kind;
        values[count] = value;
        count++;
        return true;
    }

    public int wipe() {
        int had = count;
        count = 0;
        return had;
    }

    public int check() {
        int verdict = judge();
        if (verdict != OK) {
            keptPlace = wrongAt;
        }
        return verdict;
    }

    public int place() {
        return keptPlace;
    }

    public int typeAt(int k) {
        if (judge() != OK || k < 0 || k >= typeEnd(types[0], 0)) {
            return -1;
        }
        return typeToken(types[0], k);
    }

    public int run() {
        stepsTaken = 0;
        runBlame = 0;
        runVerdict = judge();
        if (runVerdict != OK) {
            keptPlace = wrongAt;
            return runVerdict;
        }
        cellCount = 0;
        scopeCount = 1;
        frameCount = 0;
        atToken = 0;
        scope = 0;
        mode = BEGIN;
        workOut();
        runVerdict = ending;
        runBlame = ending == BLAME ? faultLabel : 0;
        result = current;
        return runVerdict;
    }

    public int blamed() {
        return runBlame;
    }

    public int steps() {
        return stepsTaken;
    }

    public int look(int way, int what) {
        if (runVerdict != OK || way < 0 || what < 0 || what >= WHATS) {
            return NO_PART;
        }
        int cellsOfRun = cellCount;
        int failure = 0;
        current = result;
        for (int digit = 0; digit < WAY_DIGITS && failure == 0; digit++) {
            int turn = (way >> (2 * digit)) & 3;
            if (turn == 0) {
                break;
            }
            if (turn == 3 || cellShape[current >> 1] != A_PAIR) {
                failure = NO_PART;
            } else {
                startTaking(turn - 1);
                workOut();
                failure = ending == OK ? 0 : PART_BLAMES;
            }
        }
        // What was cast on the way belongs to this look alone.
        cellCount = cellsOfRun;
        return failure != 0 ? failure : facet(current, what);
    }

    private int facet(int of, int what) {
        int shape = cellShape[of >> 1];
        if (what == 0) {
            return shape;
        }
        if (what == 1) {
            return shape == AN_INT || shape == A_TRUTH ? cellOne[of >> 1] : 0;
        }
        return of & TAGGED;
    }

    // Types

    private static int typeToken(int type, int k) {
        return (type >> (BITS * k)) & MASK;
    }

    /** Where what begins at a token of a type ends; behind the greatest length if it has no end. */
    private static int typeEnd(int type, int from) {
        int missing = 1;
        int at = from;
        while (at < TYPE_TOKENS && missing > 0) {
            missing += ((type >> (BITS * at)) & MASK) >= FUN ? 1 : -1;
            at++;
        }
        return missing > 0 ? TYPE_TOKENS + 1 : at;
    }

    private static int typeHead(int type) {
        return type & MASK;
    }

    private static int leftOf(int type) {
        int tokens = typeEnd(type, 1) - 1;
        return (type >> BITS) & ((1 << (BITS * tokens)) - 1);
    }

    private static int rightOf(int type) {
        return type >> (BITS * typeEnd(type, 1));
    }

    private static int joined(int head, int left, int right) {
        int before = 1 + typeEnd(left, 0);
        if (before + typeEnd(right, 0) > TYPE_TOKENS) {
            return LARGE_TYPE;
        }
        return head | (left << BITS) | (right << (BITS * before));
    }

    private static boolean consistent(int s, int t) {
        int i = 0;
        int j = 0;
        int missing = 1;
        for (int pair = 0; pair < TYPE_TOKENS && missing > 0; pair++) {
            int a = typeToken(s, i);
            int b = typeToken(t, j);
            if (a == ANY || b == ANY) {
                i = typeEnd(s, i);
                j = typeEnd(t, j);
                missing--;
            } else if (a == b) {
                i++;
                j++;
                missing += a >= FUN ? 1 : -1;
            } else {
                return false;
            }
        }
        return true;
    }

    /** The type that a value of this type is tagged with. */
    private static int tagFor(int type) {
        int head = typeHead(type);
        return head == FUN ? ANY_TO_ANY : head == PAIR ? ANY_AND_ANY : head;
    }

    private static int shapeOf(int type) {
        switch (typeHead(type)) {
            case INT: return AN_INT;
            case BOOL: return A_TRUTH;
            case FUN: return A_FUNCTION;
            default: return A_PAIR;
        }
    }

    // The check

    /** How many values a token of this kind may have, from 0 on; 0 if any int will do. */
    private static int valuesOf(int kind) {
        switch (kind) {
            case TRUTH: return 2;
            case VAR: case LAM: case AS: return NAMES;
            default: return 0;
        }
    }

    private static int arity(int kind) {
        switch (kind) {
            case NUM: case TRUTH: case VAR: return 0;
            case LAM: case FIRST: case SECOND: case AS: return 1;
            case IF: return 3;
            default: return 2;
        }
    }

    private int judge() {
        wrongAt = syntaxFault();
        if (wrongAt >= 0) {
            return SYNTAX;
        }
        findOperands();
        // By their ends, and of those with one end the later first: operands come before what
        // they belong to, the first one first.
        for (int end = 1; end <= count; end++) {
            for (int i = end - 1; i >= 0; i--) {
                int verdict = ends[i] == end ? settleType(i) : OK;
                if (verdict != OK) {
                    wrongAt = i;
                    return verdict;
                }
            }
        }
        return OK;
    }

    private int syntaxFault() {
        int missing = 1;
        for (int i = 0; i < count; i++) {
            if (missing == 0) {
                return i;
            }
            missing += arity(kinds[i]) - 1;
        }
        return missing == 0 ? -1 : count;
    }

    private void findOperands() {
        for (int i = count - 1; i >= 0; i--) {
            int end = i + 1;
            int needed = arity(kinds[i]);
            for (int k = 0; k < needed; k++) {
                operands[MOST_OPERANDS * i + k] = end;
                end = ends[end];
            }
            ends[i] = end;
        }
    }

    private int settleType(int i) {
        int kind = kinds[i];
        boolean takesApart = kind == APP || kind == FIRST || kind == SECOND;
        int type = takesApart ? partType(i) : typeOf(i);
        if (type < 0) {
            return type == LARGE_TYPE ? LARGE : ILL;
        }
        types[i] = type;
        int needed = arity(kind);
        for (int k = 0; k < needed; k++) {
            int at = MOST_OPERANDS * i + k;
            targets[at] = targetOf(i, k);
            if (!consistent(types[operands[at]], targets[at])) {
                return ILL;
            }
        }
        return OK;
    }

    private int operandType(int i, int k) {
        return types[operands[MOST_OPERANDS * i + k]];
    }

    /** The type of what is not APP, FIRST or SECOND. */
    private int typeOf(int i) {
        switch (kinds[i]) {
            case NUM: case ADD: return INT;
            case TRUTH: case LESS: return BOOL;
            case VAR: return variableType(i);
            case IF: return operandType(i, 1);
            case LAM: {
                int body = operandType(i, 0);
                return joined(FUN, named[values[i]], body);
            }
            case BOTH: {
                int first = operandType(i, 0);
                int second = operandType(i, 1);
                return joined(PAIR, first, second);
            }
            default: return named[values[i]];
        }
    }

    /** The type of APP, FIRST or SECOND: a part of that of operand 0. */
    private int partType(int i) {
        int whole = operandType(i, 0);
        if (whole == ANY) {
            return ANY;
        }
        if (typeHead(whole) != (kinds[i] == APP ? FUN : PAIR)) {
            return NO_TYPE;
        }
        return kinds[i] == FIRST ? leftOf(whole) : rightOf(whole);
    }

    private int variableType(int i) {
        int between = values[i];
        for (int j = i - 1; j >= 0; j--) {
            boolean around = kinds[j] == LAM && ends[j] > i;
            if (around && between == 0) {
                return named[values[j]];
            }
            between -= around ? 1 : 0;
        }
        return NO_TYPE;
    }

    /** The type that operand k of token i is cast to; its own one if it is not cast. */
    private int targetOf(int i, int k) {
        int own = operandType(i, k);
        int whole = operandType(i, 0);
        switch (kinds[i]) {
            case APP:
                if (k == 0) {
                    return own == ANY ? ANY_TO_ANY : own;
                }
                return whole == ANY ? ANY : leftOf(whole);
            case FIRST: case SECOND: return own == ANY ? ANY_AND_ANY : own;
            case IF: return k == 0 ? BOOL : types[i];
            case ADD: case LESS: return INT;
            case AS: return types[i];
            default: return own;
        }
    }

    // Working out

    private void workOut() {
        ending = LONG;
        for (int turn = 0; turn < MANY_TURNS && mode != HALTED && roomForTurn(); turn++) {
            switch (mode) {
                case BEGIN: beginToken(); break;
                case CALL: callOnce(); break;
                case TAKE: takeOnce(); break;
                default: resumeFrame();
            }
        }
    }

    /** A turn takes one cell, one scope and two frames at most. */
    private boolean roomForTurn() {
        return cellCount < CELLS && scopeCount < SCOPES && frameCount < FRAMES - 1;
    }

    private void halt(int how) {
        ending = how;
        mode = HALTED;
    }

    private void beginToken() {
        if (stepsTaken >= STEPS) {
            halt(LONG);
            return;
        }
        stepsTaken++;
        mode = RESUME;
        switch (kinds[atToken]) {
            case NUM: current = newCell(AN_INT, values[atToken], 0); break;
            case TRUTH: current = newCell(A_TRUTH, values[atToken], 0); break;
            case VAR: current = variable(values[atToken]); break;
            case LAM: current = newCell(A_FUNCTION, atToken, scope); break;
            default: startOperand(atToken, 0, scope, 0);
        }
    }

    private int variable(int n) {
        int at = scope;
        for (int k = 0; k < n; k++) {
            at = scopeOuter[at];
        }
        return scopeValue[at];
    }

    private void startOperand(int i, int k, int inScope, int held) {
        int at = MOST_OPERANDS * i + k;
        int operand = operands[at];
        pushFrame(at, inScope, held, 0);
        pushFrame(CAST_FRAME, types[operand], targets[at], at + 1);
        atToken = operand;
        scope = inScope;
        mode = BEGIN;
    }

    private void resumeFrame() {
        if (frameCount == 0) {
            halt(OK);
            return;
        }
        frameCount--;
        int kind = frameKind[frameCount];
        int one = frameOne[frameCount];
        int two = frameTwo[frameCount];
        if (kind == CAST_FRAME) {
            current = castValue(current, one, two, frameThree[frameCount]);
        } else {
            finishOperand(kind / MOST_OPERANDS, kind % MOST_OPERANDS, one, two);
        }
    }

    /** Goes on with token i when its operand k is worked out and cast. */
    private void finishOperand(int i, int k, int inScope, int held) {
        int kind = kinds[i];
        if (kind == FIRST || kind == SECOND) {
            side = kind - FIRST;
            mode = TAKE;
        } else if (kind == IF && k == 0) {
            int needed = cellOne[current >> 1] != 0 ? 1 : 2;
            startOperand(i, needed, inScope, 0);
        } else if (arity(kind) == 2 && k == 0) {
            startOperand(i, 1, inScope, current);
        } else if (kind == APP) {
            callee = held;
            mode = CALL;
        } else if (arity(kind) == 2) {
            current = combined(kind, held, current);
        }
    }

    private int combined(int kind, int left, int right) {
        if (kind == BOTH) {
            return newCell(A_PAIR, left, right);
        }
        int a = cellOne[left >> 1];
        int b = cellOne[right >> 1];
        return kind == ADD ? newCell(AN_INT, a + b, 0) : newCell(A_TRUTH, a < b ? 1 : 0, 0);
    }

    /** Calls a LAM, or goes into one cast of the callee. */
    private void callOnce() {
        int cell = callee >> 1;
        int label = cellLabel[cell];
        if (label == 0) {
            atToken = cellOne[cell] + 1;
            scope = newScope(current, cellTwo[cell]);
            mode = BEGIN;
            return;
        }
        int given = leftOf(cellThree[cell]);
        int taken = leftOf(cellTwo[cell]);
        int gives = rightOf(cellTwo[cell]);
        int due = rightOf(cellThree[cell]);
        pushFrame(CAST_FRAME, gives, due, label);
        callee = cellOne[cell];
        current = castValue(current, given, taken, -label);
    }

    private void startTaking(int which) {
        frameCount = 0;
        side = which;
        mode = TAKE;
    }

    /** Takes a part of a pair, or goes into one cast of it. */
    private void takeOnce() {
        int cell = current >> 1;
        int label = cellLabel[cell];
        if (label == 0) {
            current = side == 0 ? cellOne[cell] : cellTwo[cell];
            mode = RESUME;
            return;
        }
        int from = cellTwo[cell];
        int to = cellThree[cell];
        int has = side == 0 ? leftOf(from) : rightOf(from);
        int due = side == 0 ? leftOf(to) : rightOf(to);
        pushFrame(CAST_FRAME, has, due, label);
        current = cellOne[cell];
    }

    // Casts

    private int castValue(int of, int from, int to, int label) {
        if (from == to) {
            return of;
        }
        if (to == ANY) {
            int tag = tagFor(from);
            int made = wrapped(of, from, tag, label);
            return made | TAGGED;
        }
        if (from != ANY) {
            return wrapped(of, from, to, label);
        }
        if (cellShape[of >> 1] != shapeOf(to)) {
            faultLabel = label;
            halt(BLAME);
            return of;
        }
        int tag = tagFor(to);
        return wrapped(of & ~TAGGED, tag, to, label);
    }

    private int wrapped(int of, int from, int to, int label) {
        if (from == to) {
            return of;
        }
        int made = newCell(cellShape[of >> 1], of, from);
        cellThree[made >> 1] = to;
        cellLabel[made >> 1] = label;
        return made;
    }

    // Cells, scopes and frames: workOut has seen to it that there is room

    private int newCell(int shape, int one, int two) {
        int cell = cellCount;
        cellCount++;
        cellShape[cell] = shape;
        cellLabel[cell] = 0;
        cellOne[cell] = one;
        cellTwo[cell] = two;
        return cell << 1;
    }

    private int newScope(int with, int outer) {
        int made = scopeCount;
        scopeCount++;
        scopeValue[made] = with;
        scopeOuter[made] = outer;
        return made;
    }

    private void pushFrame(int kind, int one, int two, int three) {
        if (kind == CAST_FRAME && one == two) {
            return;
        }
        frameKind[frameCount] = kind;
        frameOne[frameCount] = one;
        frameTwo[frameCount] = two;
        frameThree[frameCount] = three;
        frameCount++;
    }
}
