/**
 * Objects of classes that get messages, with blocks that keep the variables of
 * the method that they were made in, and what comes out when a program runs.
 */
public final class MessageMachine {
    public static final int BAD_ARG = -1;
    public static final int FULL = -2;
    public static final int TOO_FEW = -3;
    public static final int NONE = -4;
    public static final int DONE = 0;
    public static final int STUCK = 1;
    public static final int TIRED = 2;
    public static final int DEEP = 3;
    public static final int FULL_UP = 4;

    private static final int MOST_CLASSES = 6;
    private static final int MOST_FIELDS = 4;
    private static final int MESSAGES = 6;
    private static final int VARIABLES = 6;
    private static final int MOST_TERMS = 100;
    private static final int MOST_STACKED = 8;
    private static final int MOST_TURNS = 200;
    private static final int MOST_UNDER_WAY = 20;
    private static final int MOST_PRINTED = 20;
    private static final int MOST_TIDY = 50;
    private static final int GREATEST_NUMBER = 99;

    private static final int NO_CLASS = -1;
    private static final int NO_TERM = -1;
    private static final int NO_VARIABLE = -1;
    private static final int NO_FIELD = -1;
    private static final int ENDED = -1;
    private static final int RUNNING = -1;

    // The operators of terms. Each group is in the order of the kinds of the
    // call that makes it, so that an operator is found by adding the kind.
    private static final int NUMBER = 0;
    private static final int NIL = 1;
    private static final int SELF = 2;
    private static final int VARIABLE = 3;
    private static final int FIELD = 4;
    private static final int NEW = 5;
    private static final int SUPER = 6;
    private static final int SET = 7;
    private static final int SET_FIELD = 8;
    private static final int IS = 9;
    private static final int BLOCK = 10;
    private static final int CALL = 11;
    private static final int RETURN = 12;
    private static final int PRINT = 13;
    private static final int SEND = 14;
    private static final int PLUS = 15;
    private static final int MINUS = 16;
    private static final int TIMES = 17;
    private static final int LESS = 18;
    private static final int SAME = 19;
    private static final int THEN = 20;
    private static final int LOOP = 21;
    private static final int CALL_WITH = 22;
    private static final int CHOOSE = 23;
    private static final int MOST_PARTS = 3;

    // A value is one long: the sort in the upper half, the int or the number
    // of the thing in the lower one, so that the same values are equal longs.
    // The sorts are those that kind() tells.
    private static final int SORT_NIL = 1;
    private static final int SORT_INT = 2;
    private static final int SORT_BLOCK = 3;
    private static final int SORT_OBJECT = 4;
    private static final int SORT_SHIFT = 32;
    private static final long LOWER_HALF = 0xFFFFFFFFL;
    private static final long NIL_VALUE = (long) SORT_NIL << SORT_SHIFT;

    // Every object, every block and every activation but the main one costs a
    // turn, so a run can't make more of them than this.
    private static final int MOST_THINGS = MOST_TURNS;
    private static final int MOST_ACTIVATIONS = MOST_TURNS + 1;
    private static final int MOST_FRAMES = MOST_UNDER_WAY + 1;
    // An activation's slots are its variables, and behind them its self.
    private static final int SLOTS = VARIABLES + 1;
    private static final int SELF_SLOT = VARIABLES;
    // In one frame, the terms begun and the values waiting belong to different
    // terms of one tree, so there are never more of both than terms.
    private static final int MOST_WAITING = MOST_FRAMES * MOST_TERMS;
    // Each turn lets each term be begun once more at most, and a term that is
    // begun takes five steps at most: the longest run needs some 100,000.
    private static final int MOST_STEPS = 1000000;

    private static final int METHOD_ROOM = MOST_CLASSES * MESSAGES;
    private static final int PART_ROOM = MOST_TERMS * MOST_PARTS;
    private static final int FIELD_ROOM = MOST_THINGS * MOST_FIELDS;
    private static final int SLOT_ROOM = MOST_ACTIVATIONS * SLOTS;

    private final int[] classParent = new int[MOST_CLASSES];
    private final int[] classFields = new int[MOST_CLASSES];
    private final int[] methodTerm = new int[METHOD_ROOM];
    private int classCount;

    private final int[] termOperator = new int[MOST_TERMS];
    private final int[] termK = new int[MOST_TERMS];
    private final int[] termPart = new int[PART_ROOM];
    // How many of its parts are always worked out, before it is finished.
    private final int[] termFirstParts = new int[MOST_TERMS];
    private int termCount;
    private final int[] stack = new int[MOST_STACKED];
    private int stackSize;
    private int mainTerm;

    // Things are the objects and blocks of the run, numbered together.
    private final int[] objectClass = new int[MOST_THINGS];
    private final long[] objectField = new long[FIELD_ROOM];
    private final int[] blockTerm = new int[MOST_THINGS];
    private final int[] blockActivation = new int[MOST_THINGS];
    private final boolean[] thingReached = new boolean[MOST_THINGS];
    private int thingCount;

    private final long[] activationSlot = new long[SLOT_ROOM];
    private final int[] activationClass = new int[MOST_ACTIVATIONS];
    private final int[] activationFrame = new int[MOST_ACTIVATIONS];
    private int activationCount;

    // A frame is a method or block under way; frame 0 is that of the main term,
    // so the top one's number is how many are under way.
    private final int[] frameActivation = new int[MOST_FRAMES];
    private final int[] frameWork = new int[MOST_FRAMES];
    private final int[] frameWaiting = new int[MOST_FRAMES];
    private int frameTop;

    private final int[] workTerm = new int[MOST_WAITING];
    private final int[] workPartsDone = new int[MOST_WAITING];
    private int workSize;
    private final long[] waiting = new long[MOST_WAITING];
    private int waitingSize;

    private int ending;
    private long result;
    private final int[] printedNumber = new int[MOST_PRINTED];
    private int printedCount;
    private int turnCount;
    private int deepestCount;
    private final int[] madeCount = new int[MOST_CLASSES];

    public MessageMachine() {
        clear();
    }

    public int newClass(int parent, int own) {
        if (parent != NO_CLASS && !isClass(parent)) {
            return BAD_ARG;
        }
        if (own < 0 || own > MOST_FIELDS) {
            return BAD_ARG;
        }
        int fields = parent == NO_CLASS ? own : own + classFields[parent];
        if (fields > MOST_FIELDS) {
            return BAD_ARG;
        }
        if (classCount >= MOST_CLASSES) {
            return FULL;
        }
        int c = classCount;
        classParent[c] = parent;
        classFields[c] = fields;
        for (int s = 0; s < MESSAGES; s++) {
            methodTerm[c * MESSAGES + s] = NO_TERM;
        }
        classCount++;
        return c;
    }

    public int leaf(int kind, int k) {
        if (!leafFits(kind, k)) {
            return BAD_ARG;
        }
        if (termCount >= MOST_TERMS || stackSize >= MOST_STACKED) {
            return FULL;
        }
        return build(NUMBER + kind, k, 0);
    }

    public int one(int kind, int k) {
        if (!oneFits(kind, k)) {
            return BAD_ARG;
        }
        if (termCount >= MOST_TERMS) {
            return FULL;
        }
        if (stackSize < 1) {
            return TOO_FEW;
        }
        return build(kind == 8 ? SUPER : SET + kind, k, 1);
    }

    public int two(int kind, int k) {
        if (!twoFits(kind, k)) {
            return BAD_ARG;
        }
        if (termCount >= MOST_TERMS) {
            return FULL;
        }
        if (stackSize < 2) {
            return TOO_FEW;
        }
        int operator = PLUS + kind;
        if (kind == 8) {
            operator = SEND;
        } else if (kind == 9) {
            operator = SUPER;
        }
        return build(operator, k, 2);
    }

    public int three(int kind, int k) {
        if (!threeFits(kind, k)) {
            return BAD_ARG;
        }
        if (termCount >= MOST_TERMS) {
            return FULL;
        }
        if (stackSize < 3) {
            return TOO_FEW;
        }
        return build(kind == 1 ? SEND : CHOOSE, k, 3);
    }

    public int drop() {
        if (stackSize < 1) {
            return TOO_FEW;
        }
        stackSize--;
        return stackSize;
    }

    public int method(int c, int s) {
        if (!isClass(c) || s < 0 || s >= MESSAGES) {
            return BAD_ARG;
        }
        if (stackSize < 1) {
            return TOO_FEW;
        }
        stackSize--;
        methodTerm[c * MESSAGES + s] = stack[stackSize];
        return stackSize;
    }

    public int main() {
        if (stackSize < 1) {
            return TOO_FEW;
        }
        stackSize--;
        mainTerm = stack[stackSize];
        return stackSize;
    }

    public void forget() {
        clear();
    }

    public int depth() {
        return stackSize;
    }

    public int run() {
        perform();
        return ending;
    }

    public int kind() {
        perform();
        if (ending != DONE) {
            return 0;
        }
        int sort = sortOf(result);
        if (sort == SORT_OBJECT) {
            int object = numberOf(result);
            return SORT_OBJECT + objectClass[object];
        }
        return sort;
    }

    public int value() {
        perform();
        return ending == DONE && sortOf(result) == SORT_INT ? numberOf(result) : 0;
    }

    public int printed() {
        perform();
        return printedCount;
    }

    public int output(int k) {
        perform();
        return k >= 0 && k < printedCount ? printedNumber[k] : 0;
    }

    public int turns() {
        perform();
        return turnCount;
    }

    public int deepest() {
        perform();
        return deepestCount;
    }

    public int made(int c) {
        if (!isClass(c)) {
            return 0;
        }
        perform();
        return madeCount[c];
    }

    public int reach() {
        perform();
        return ending == DONE ? countReached() : 0;
    }

    // There is room for all that a run can make, and each run begins with all
    // of it free, so nothing has to be done to make room.
    public int tidy(int n) {
        return n >= 1 && n <= MOST_TIDY ? 0 : BAD_ARG;
    }

    private void clear() {
        classCount = 0;
        termCount = 0;
        stackSize = 0;
        mainTerm = NO_TERM;
    }

    private boolean isClass(int c) {
        return c >= 0 && c < classCount;
    }

    private static boolean isVariable(int v) {
        return v >= 0 && v < VARIABLES;
    }

    private static boolean isField(int k) {
        return k >= 0 && k < MOST_FIELDS;
    }

    private static int argumentsOf(int s) {
        return s % 3;
    }

    private static boolean isMessage(int s, int arguments) {
        return s >= 0 && s < MESSAGES && argumentsOf(s) == arguments;
    }

    private boolean leafFits(int kind, int k) {
        switch (kind) {
            case 0: return k >= -GREATEST_NUMBER && k <= GREATEST_NUMBER;
            case 1:
            case 2: return true;
            case 3: return isVariable(k);
            case 4: return isField(k);
            case 5: return isClass(k);
            case 6: return isMessage(k, 0);
            default: return false;
        }
    }

    private boolean oneFits(int kind, int k) {
        switch (kind) {
            case 0: return isVariable(k);
            case 1: return isField(k);
            case 2: return isClass(k);
            case 3: return k == NO_VARIABLE || isVariable(k);
            case 4:
            case 5:
            case 6: return true;
            case 7: return isMessage(k, 0);
            case 8: return isMessage(k, 1);
            default: return false;
        }
    }

    private static boolean twoFits(int kind, int k) {
        if (kind == 8) {
            return isMessage(k, 1);
        }
        if (kind == 9) {
            return isMessage(k, 2);
        }
        return kind >= 0 && kind <= 7;
    }

    private static boolean threeFits(int kind, int k) {
        return kind == 0 || (kind == 1 && isMessage(k, 2));
    }

    // The caller has seen to it that there is room, and that there are enough
    // terms on the stack.
    private int build(int operator, int k, int parts) {
        int t = termCount;
        termCount++;
        termOperator[t] = operator;
        termK[t] = k;
        termFirstParts[t] = firstParts(operator, parts);
        stackSize -= parts;
        for (int i = 0; i < parts; i++) {
            termPart[t * MOST_PARTS + i] = stack[stackSize + i];
        }
        stack[stackSize] = t;
        stackSize++;
        return stackSize;
    }

    private static int firstParts(int operator, int parts) {
        if (operator == BLOCK) {
            return 0;
        }
        return operator == CHOOSE || operator == LOOP ? 1 : parts;
    }

    private static long pack(int sort, int number) {
        return ((long) sort << SORT_SHIFT) | (number & LOWER_HALF);
    }

    private static int sortOf(long value) {
        return (int) (value >> SORT_SHIFT);
    }

    private static int numberOf(long value) {
        return (int) value;
    }

    private void push(long value) {
        waiting[waitingSize] = value;
        waitingSize++;
    }

    private void pushInt(int number) {
        long value = pack(SORT_INT, number);
        push(value);
    }

    private long pop() {
        waitingSize--;
        return waiting[waitingSize];
    }

    private void begin(int t) {
        workTerm[workSize] = t;
        workPartsDone[workSize] = 0;
        workSize++;
    }

    // A run is made anew for each question about it: then nothing has to be
    // kept in step when methods or the main term change.
    private void perform() {
        prepare();
        for (int i = 0; i < MOST_STEPS && ending == RUNNING; i++) {
            if (workSize == frameWork[frameTop]) {
                leave();
            } else if (!beginNextPart()) {
                finish();
            }
        }
    }

    private void prepare() {
        ending = RUNNING;
        result = NIL_VALUE;
        printedCount = 0;
        turnCount = 0;
        deepestCount = 0;
        thingCount = 0;
        for (int c = 0; c < MOST_CLASSES; c++) {
            madeCount[c] = 0;
        }
        for (int i = 0; i < SLOTS; i++) {
            activationSlot[i] = NIL_VALUE;
        }
        activationClass[0] = NO_CLASS;
        activationFrame[0] = 0;
        activationCount = 1;
        frameActivation[0] = 0;
        frameWork[0] = 0;
        frameWaiting[0] = 0;
        frameTop = 0;
        workSize = 0;
        waitingSize = 0;
        if (mainTerm == NO_TERM) {
            push(NIL_VALUE);
        } else {
            begin(mainTerm);
        }
    }

    private boolean beginNextPart() {
        int top = workSize - 1;
        int t = workTerm[top];
        int done = workPartsDone[top];
        if (done >= termFirstParts[t]) {
            return false;
        }
        workPartsDone[top] = done + 1;
        begin(termPart[t * MOST_PARTS + done]);
        return true;
    }

    // The values of the parts that had to be worked out wait on top, the last
    // part's uppermost; the term's own value takes their place.
    private void finish() {
        workSize--;
        int t = workTerm[workSize];
        int k = termK[t];
        int operator = termOperator[t];
        switch (operator) {
            case NUMBER: pushInt(k); break;
            case NIL: push(NIL_VALUE); break;
            case SELF: pushSlot(SELF_SLOT); break;
            case VARIABLE: pushSlot(k); break;
            case FIELD: finishField(k); break;
            case NEW: finishNew(k); break;
            case SUPER: finishSuper(k); break;
            case SET: finishSet(k); break;
            case SET_FIELD: finishSetField(k); break;
            case IS: finishIs(k); break;
            case BLOCK: finishBlock(t); break;
            case CALL: finishCall(false); break;
            case RETURN: finishReturn(); break;
            case PRINT: finishPrint(); break;
            case SEND: finishSend(k); break;
            case SAME: finishSame(); break;
            case THEN: finishThen(); break;
            case LOOP: finishLoop(t); break;
            case CALL_WITH: finishCall(true); break;
            case CHOOSE: finishChoose(t); break;
            default: finishArithmetic(operator); break;
        }
    }

    private int slotIndex(int slot) {
        return frameActivation[frameTop] * SLOTS + slot;
    }

    private void pushSlot(int slot) {
        int index = slotIndex(slot);
        push(activationSlot[index]);
    }

    private int fieldIndex(int k) {
        int index = slotIndex(SELF_SLOT);
        long self = activationSlot[index];
        if (sortOf(self) != SORT_OBJECT) {
            return NO_FIELD;
        }
        int object = numberOf(self);
        return k < classFields[objectClass[object]] ? object * MOST_FIELDS + k : NO_FIELD;
    }

    private void finishField(int k) {
        int index = fieldIndex(k);
        if (index == NO_FIELD) {
            ending = STUCK;
        } else {
            push(objectField[index]);
        }
    }

    private void finishSetField(int k) {
        int index = fieldIndex(k);
        if (index == NO_FIELD) {
            ending = STUCK;
        } else {
            objectField[index] = waiting[waitingSize - 1];
        }
    }

    private void finishSet(int v) {
        int index = slotIndex(v);
        activationSlot[index] = waiting[waitingSize - 1];
    }

    private boolean takeTurn() {
        if (turnCount >= MOST_TURNS) {
            ending = TIRED;
            return false;
        }
        turnCount++;
        return true;
    }

    private void finishNew(int c) {
        if (!takeTurn()) {
            return;
        }
        int object = thingCount;
        thingCount++;
        objectClass[object] = c;
        for (int i = 0; i < MOST_FIELDS; i++) {
            objectField[object * MOST_FIELDS + i] = NIL_VALUE;
        }
        madeCount[c]++;
        long value = pack(SORT_OBJECT, object);
        push(value);
    }

    private void finishBlock(int t) {
        if (!takeTurn()) {
            return;
        }
        int block = thingCount;
        thingCount++;
        blockTerm[block] = t;
        blockActivation[block] = frameActivation[frameTop];
        long value = pack(SORT_BLOCK, block);
        push(value);
    }

    private void finishIs(int c) {
        long value = pop();
        boolean belongs = false;
        if (sortOf(value) == SORT_OBJECT) {
            int object = numberOf(value);
            belongs = descends(objectClass[object], c);
        }
        pushInt(belongs ? 1 : 0);
    }

    private boolean descends(int c, int ancestor) {
        int at = c;
        for (int i = 0; i < MOST_CLASSES && at != NO_CLASS; i++) {
            if (at == ancestor) {
                return true;
            }
            at = classParent[at];
        }
        return false;
    }

    private void finishPrint() {
        long value = waiting[waitingSize - 1];
        if (sortOf(value) != SORT_INT) {
            ending = STUCK;
        } else if (printedCount >= MOST_PRINTED) {
            ending = FULL_UP;
        } else {
            printedNumber[printedCount] = numberOf(value);
            printedCount++;
        }
    }

    private void finishArithmetic(int operator) {
        long right = pop();
        long left = pop();
        if (sortOf(left) != SORT_INT || sortOf(right) != SORT_INT) {
            ending = STUCK;
            return;
        }
        int x = numberOf(left);
        int y = numberOf(right);
        switch (operator) {
            case PLUS: pushInt(x + y); break;
            case MINUS: pushInt(x - y); break;
            case TIMES: pushInt(x * y); break;
            default: pushInt(x < y ? 1 : 0); break;
        }
    }

    private void finishSame() {
        long right = pop();
        long left = pop();
        pushInt(left == right ? 1 : 0);
    }

    private void finishThen() {
        long last = pop();
        waiting[waitingSize - 1] = last;
    }

    private void finishChoose(int t) {
        long condition = pop();
        if (sortOf(condition) != SORT_INT) {
            ending = STUCK;
            return;
        }
        int chosen = numberOf(condition) != 0 ? 1 : 2;
        begin(termPart[t * MOST_PARTS + chosen]);
    }

    // It is finished both after the condition and after the body, and begun
    // anew until the condition is 0.
    private void finishLoop(int t) {
        boolean afterBody = workPartsDone[workSize] == 2;
        long value = pop();
        if (afterBody) {
            begin(t);
        } else if (sortOf(value) != SORT_INT) {
            ending = STUCK;
        } else if (numberOf(value) == 0) {
            push(NIL_VALUE);
        } else if (takeTurn()) {
            begin(t);
            workPartsDone[workSize - 1] = 2;
            begin(termPart[t * MOST_PARTS + 1]);
        }
    }

    // The class that has the method meant for class c and message s.
    private int holderOf(int c, int s) {
        int at = c;
        for (int i = 0; i < MOST_CLASSES && at != NO_CLASS; i++) {
            if (methodTerm[at * MESSAGES + s] != NO_TERM) {
                return at;
            }
            at = classParent[at];
        }
        return NO_CLASS;
    }

    private void finishSend(int s) {
        int taken = argumentsOf(s) + 1;
        long receiver = waiting[waitingSize - taken];
        int holder = NO_CLASS;
        if (sortOf(receiver) == SORT_OBJECT) {
            int object = numberOf(receiver);
            holder = holderOf(objectClass[object], s);
        }
        if (holder == NO_CLASS) {
            ending = STUCK;
        } else if (mayEnter()) {
            activate(holder, s, receiver, taken);
        }
    }

    // A term in a block is in the method of the activation that the block
    // keeps, which is the frame's activation there too.
    private void finishSuper(int s) {
        int c = activationClass[frameActivation[frameTop]];
        int holder = c == NO_CLASS ? NO_CLASS : holderOf(classParent[c], s);
        if (holder == NO_CLASS) {
            ending = STUCK;
        } else if (mayEnter()) {
            int index = slotIndex(SELF_SLOT);
            int taken = argumentsOf(s);
            activate(holder, s, activationSlot[index], taken);
        }
    }

    private boolean mayEnter() {
        if (!takeTurn()) {
            return false;
        }
        if (frameTop >= MOST_UNDER_WAY) {
            ending = DEEP;
            return false;
        }
        return true;
    }

    // The arguments are the uppermost of the values that are taken.
    private void activate(int holder, int s, long self, int taken) {
        int a = activationCount;
        activationCount++;
        int arguments = argumentsOf(s);
        int firstArgument = waitingSize - arguments;
        for (int v = 0; v < VARIABLES; v++) {
            activationSlot[a * SLOTS + v] = v < arguments ? waiting[firstArgument + v] : NIL_VALUE;
        }
        activationSlot[a * SLOTS + SELF_SLOT] = self;
        activationClass[a] = holder;
        activationFrame[a] = frameTop + 1;
        waitingSize -= taken;
        openFrame(a);
        begin(methodTerm[holder * MESSAGES + s]);
    }

    private void openFrame(int activation) {
        frameTop++;
        frameActivation[frameTop] = activation;
        frameWork[frameTop] = workSize;
        frameWaiting[frameTop] = waitingSize;
        if (frameTop > deepestCount) {
            deepestCount = frameTop;
        }
    }

    private void finishCall(boolean withArgument) {
        long argument = withArgument ? pop() : NIL_VALUE;
        long callee = pop();
        if (sortOf(callee) != SORT_BLOCK) {
            ending = STUCK;
            return;
        }
        int block = numberOf(callee);
        int t = blockTerm[block];
        int v = termK[t];
        if (withArgument != (v != NO_VARIABLE)) {
            ending = STUCK;
            return;
        }
        if (!mayEnter()) {
            return;
        }
        int a = blockActivation[block];
        if (withArgument) {
            activationSlot[a * SLOTS + v] = argument;
        }
        openFrame(a);
        begin(termPart[t * MOST_PARTS]);
    }

    // The frame's value waits on top, where the value of its send, super or
    // call is due. A block's frame ends without ending the activation.
    private void leave() {
        if (frameTop == 0) {
            result = pop();
            ending = DONE;
            return;
        }
        int a = frameActivation[frameTop];
        if (activationFrame[a] == frameTop) {
            activationFrame[a] = ENDED;
        }
        frameTop--;
    }

    // Leaving each frame on the way ends the activations that are cut off, and
    // leaving that of the main term ends the run.
    private void finishReturn() {
        long value = pop();
        int target = activationFrame[frameActivation[frameTop]];
        if (target == ENDED) {
            ending = STUCK;
            return;
        }
        workSize = frameWork[target];
        waitingSize = frameWaiting[target];
        push(value);
        for (int f = frameTop; f >= target; f--) {
            leave();
        }
    }

    // After the run no value waits any more, so the things that are reached
    // but not yet looked into can wait there.
    private int countReached() {
        int objects = 0;
        for (int i = 0; i < MOST_THINGS; i++) {
            thingReached[i] = false;
        }
        noteReached(result);
        for (int i = 0; i < MOST_THINGS && waitingSize > 0; i++) {
            long value = pop();
            int thing = numberOf(value);
            if (sortOf(value) == SORT_OBJECT) {
                objects++;
                noteFields(thing);
            } else {
                noteSlots(blockActivation[thing]);
            }
        }
        return objects;
    }

    private void noteReached(long value) {
        int sort = sortOf(value);
        if (sort != SORT_OBJECT && sort != SORT_BLOCK) {
            return;
        }
        int thing = numberOf(value);
        if (!thingReached[thing]) {
            thingReached[thing] = true;
            push(value);
        }
    }

    private void noteFields(int object) {
        for (int i = 0; i < MOST_FIELDS; i++) {
            noteReached(objectField[object * MOST_FIELDS + i]);
        }
    }

    private void noteSlots(int activation) {
        for (int i = 0; i < SLOTS; i++) {
            noteReached(activationSlot[activation * SLOTS + i]);
        }
    }
}
