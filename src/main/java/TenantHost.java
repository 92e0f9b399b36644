/**
 * A host for plug-ins that do not trust each other: their code is checked, runs in threads with
 * the rights of all tenants that stand on the stack, calls other tenants through capabilities that
 * can be revoked, is charged for what it does, and can be ended.
 */
public final class TenantHost {
    public static final int OK = 0, FORM = 1, STACK = 2, BUSY = 3, REFUSED = -1;

    private static final int NONE = -1;

    private static final int TENANTS = 4, THREADS = 6, FRAMES = 6, LOCALS = 4, VALUES = 8;
    private static final int GRANTS = 6, SLOTS = 4, FUNCTIONS = 4, BUNDLE = 64, NOTES = 8;
    private static final int PATHS = 84, ACTIONS = 4, SEGMENTS = 3;
    private static final int ALL_GRANTS = TENANTS * GRANTS;
    private static final int ALL_SLOTS = TENANTS * SLOTS;
    private static final int ALL_FUNCTIONS = TENANTS * FUNCTIONS;
    private static final int ALL_FRAMES = THREADS * FRAMES;
    private static final int ALL_LOCALS = ALL_FRAMES * LOCALS;
    private static final int ALL_VALUES = ALL_FRAMES * VALUES;

    /** The pending bundle lies in the row behind those of the tenants. */
    private static final int PENDING = TENANTS * BUNDLE;
    private static final int ALL_CODE = PENDING + BUNDLE;

    private static final int MOST_QUANTUM = 16, MOST_STEPS = 200, MOST_LIMIT = 1000000;
    private static final int FIRST_TICKS = 1000, FIRST_UNITS = 100, FIRST_THREADS = 3;

    /** Each pass but the last adds one of the heights 0..8 to one instruction or more. */
    private static final int MOST_PASSES = BUNDLE * (VALUES + 1) + 1;
    private static final int ALL_HEIGHTS = (1 << (VALUES + 1)) - 1;

    private static final int FUNC = 0, PUSH = 1, DUP = 2, DROP = 3, SWAP = 4, ADD = 5, SUB = 6;
    private static final int MUL = 7, LESS = 8, SAME = 9, LOAD = 10, STORE = 11, JUMP = 12;
    private static final int ZERO = 13, CALL = 14, PRIV = 15, SEND = 16, SPAWN = 17, GUARD = 18;
    private static final int ALLOC = 19, FREE = 20, RETURN = 21, THROW = 22, YIELD = 23;

    private static final int READ = 0, WRITE = 1, DELETE = 2;

    private static final int ANY_ONE = 4, ANY_REST = 5, ABSENT = 7;

    /** As tenant(t, 4) answers them; 0, as at first, is no bundle. */
    private static final int HAS_BUNDLE = 1, IS_KILLED = 2;

    private static final int EMPTY = 0, USABLE = 1, REVOKED = 2;

    private static final int PLAIN = 0, PRIVILEGED = 1, SENT = 2;

    private static final int WELL = 0, ACCESS = 1, QUOTA = 2, KILLED = 3, DEPTH = 6, THROWN = 10;
    private static final int SLOT_REVOKED = 4, SLOT_EMPTY = 5;

    /** What threadCode holds before a thread has an end code. */
    private static final int RUNNING = -1, NEVER_USED = -2;

    private final int quantum;
    private int turn = NONE;
    private int stepsLeft = 0;

    private int pendingCount = 0;
    private int wrongPlace = NONE;
    private final int[] heights = new int[BUNDLE];
    private final int[] codeOp = new int[ALL_CODE];
    private final int[] codeA = new int[ALL_CODE];
    private final int[] codeB = new int[ALL_CODE];
    private final int[] functionStart = new int[ALL_FUNCTIONS];
    private final int[] functionCount = new int[TENANTS];

    private final int[] tenantState = new int[TENANTS];
    private final int[] ticksUsed = new int[TENANTS];
    private final int[] unitsHeld = new int[TENANTS];
    private final int[] tickLimit = new int[TENANTS];
    private final int[] unitLimit = new int[TENANTS];
    private final int[] threadLimit = new int[TENANTS];

    private final int[] grantCount = new int[TENANTS];
    private final int[] grantActions = new int[ALL_GRANTS];
    private final int[] grantPattern = new int[ALL_GRANTS];

    private final int[] slotState = new int[ALL_SLOTS];
    private final int[] slotTenant = new int[ALL_SLOTS];
    private final int[] slotFunction = new int[ALL_SLOTS];

    private final int[] threadCode = new int[THREADS];
    private final int[] threadResult = new int[THREADS];
    private final int[] threadOwner = new int[THREADS];
    private final int[] threadInherits = new int[THREADS];
    private final int[] frameCount = new int[THREADS];

    private final int[] frameTenant = new int[ALL_FRAMES];
    private final int[] frameKind = new int[ALL_FRAMES];
    private final int[] frameNext = new int[ALL_FRAMES];
    private final int[] frameHeight = new int[ALL_FRAMES];
    private final int[] frameLocals = new int[ALL_LOCALS];
    private final int[] frameValues = new int[ALL_VALUES];

    private final int[] resources = new int[PATHS];
    private final int[] notes = new int[NOTES];

    public TenantHost(int quantum) {
        this.quantum = quantum < 1 ? 1 : quantum > MOST_QUANTUM ? MOST_QUANTUM : quantum;
        for (int t = 0; t < TENANTS; t++) {
            tickLimit[t] = FIRST_TICKS;
            unitLimit[t] = FIRST_UNITS;
            threadLimit[t] = FIRST_THREADS;
        }
        for (int k = 0; k < THREADS; k++) {
            threadCode[k] = NEVER_USED;
        }
        for (int k = 0; k < NOTES; k++) {
            notes[k] = NONE;
        }
    }

    public int grant(int tenant, int actions, int pattern) {
        if (!isTenant(tenant) || actions < 1 || actions >= 1 << ACTIONS || !isPattern(pattern)) {
            return REFUSED;
        }
        int k = grantCount[tenant];
        if (k >= GRANTS) {
            return REFUSED;
        }
        grantActions[tenant * GRANTS + k] = actions;
        grantPattern[tenant * GRANTS + k] = pattern;
        grantCount[tenant] = k + 1;
        return k;
    }

    public boolean withdraw(int tenant, int k) {
        if (!isTenant(tenant) || k < 0 || k >= grantCount[tenant]) {
            return false;
        }
        int last = tenant * GRANTS + grantCount[tenant] - 1;
        for (int i = tenant * GRANTS + k; i < last; i++) {
            grantActions[i] = grantActions[i + 1];
            grantPattern[i] = grantPattern[i + 1];
        }
        grantCount[tenant]--;
        return true;
    }

    public int code(int op, int a, int b) {
        if (pendingCount >= BUNDLE) {
            return REFUSED;
        }
        int at = PENDING + pendingCount;
        codeOp[at] = op;
        codeA[at] = a;
        codeB[at] = b;
        pendingCount++;
        return pendingCount;
    }

    public int deploy(int tenant) {
        wrongPlace = NONE;
        if (!isTenant(tenant)) {
            return REFUSED;
        }
        int answer = BUSY;
        if (framesOf(tenant) == 0) {
            answer = judgePending();
        }
        if (answer == OK) {
            install(tenant);
        }
        pendingCount = 0;
        return answer;
    }

    public int place() {
        return wrongPlace;
    }

    public boolean limits(int tenant, int ticks, int units, int threads) {
        if (!isTenant(tenant) || !isLimit(ticks) || !isLimit(units) || !isLimit(threads)) {
            return false;
        }
        tickLimit[tenant] = ticks;
        unitLimit[tenant] = units;
        threadLimit[tenant] = threads;
        return true;
    }

    public boolean capability(int tenant, int s, int to, int f) {
        if (!isTenant(tenant) || !isSlot(s) || !isTenant(to) || f < 0 || f >= FUNCTIONS) {
            return false;
        }
        int at = tenant * SLOTS + s;
        slotState[at] = USABLE;
        slotTenant[at] = to;
        slotFunction[at] = f;
        return true;
    }

    public boolean revoke(int tenant, int s) {
        if (!isTenant(tenant) || !isSlot(s) || slotState[tenant * SLOTS + s] != USABLE) {
            return false;
        }
        slotState[tenant * SLOTS + s] = REVOKED;
        return true;
    }

    public int start(int tenant, int function, int argument) {
        if (!isTenant(tenant) || !canEnter(tenant, function)) {
            return REFUSED;
        }
        return beginThread(tenant, function, argument, 0);
    }

    public int run(int n) {
        if (n < 0 || n > MOST_STEPS) {
            return 0;
        }
        int made = 0;
        for (; made < n && turn != NONE; made++) {
            int k = turn;
            stepsLeft--;
            int fault = faultBefore(k);
            if (fault == WELL) {
                fault = execute(k);
            }
            if (fault != WELL) {
                unwind(k, fault);
            }
            releaseUnitsOfKilled();
            passTurn();
        }
        return made;
    }

    public boolean kill(int tenant) {
        if (!isTenant(tenant) || tenantState[tenant] != HAS_BUNDLE) {
            return false;
        }
        tenantState[tenant] = IS_KILLED;
        releaseUnitsOfKilled();
        return true;
    }

    public int tenant(int t, int what) {
        if (!isTenant(t)) {
            return REFUSED;
        }
        switch (what) {
            case 0:
                return ticksUsed[t];
            case 1:
                return unitsHeld[t];
            case 2:
                return threadsOf(t);
            case 3:
                return framesOf(t);
            case 4:
                return tenantState[t];
            case 5:
                return functionCount[t];
            case 6:
                return grantCount[t];
            default:
                return REFUSED;
        }
    }

    public int thread(int k, int what) {
        if (k < 0 || k >= THREADS || threadCode[k] == NEVER_USED) {
            return REFUSED;
        }
        switch (what) {
            case 0:
                return frameCount[k];
            case 1:
                return threadCode[k];
            case 2:
                return threadResult[k];
            case 3:
                return threadCode[k] == RUNNING ? domainsOf(k) : 0;
            case 4:
                return turn == k ? 1 : 0;
            default:
                return REFUSED;
        }
    }

    public int resource(int path) {
        return isPath(path) ? resources[path] : 0;
    }

    public int audit(int k) {
        return k >= 0 && k < NOTES ? notes[k] : NONE;
    }

    private static boolean isTenant(int t) {
        return t >= 0 && t < TENANTS;
    }

    private static boolean isSlot(int s) {
        return s >= 0 && s < SLOTS;
    }

    private static boolean isPath(int path) {
        return path >= 0 && path < PATHS;
    }

    private static boolean isLimit(int value) {
        return value >= 0 && value <= MOST_LIMIT;
    }

    private static boolean isPattern(int pattern) {
        if (pattern < 0 || pattern >= 1 << (3 * SEGMENTS)) {
            return false;
        }
        boolean ended = false;
        for (int i = 0; i < SEGMENTS; i++) {
            int digit = (pattern >> (3 * i)) & 7;
            boolean absent = digit == ABSENT;
            if (digit == 6 || (ended && !absent) || (i == 0 && absent)) {
                return false;
            }
            ended = absent || digit == ANY_REST;
        }
        return true;
    }

    /** The path in the digits of a pattern, so that the two are compared digit by digit. */
    private static int digitsOf(int path) {
        if (path < 4) {
            return path + 8 * ABSENT + 64 * ABSENT;
        }
        if (path < 20) {
            int tail = path - 4;
            return tail / 4 + 8 * (tail % 4) + 64 * ABSENT;
        }
        int tail = path - 20;
        return tail / 16 + 8 * (tail / 4 % 4) + 64 * (tail % 4);
    }

    private static boolean standsFor(int pattern, int digits) {
        for (int i = 0; i < SEGMENTS; i++) {
            int wanted = (pattern >> (3 * i)) & 7;
            int digit = (digits >> (3 * i)) & 7;
            if (wanted == ANY_REST) {
                return digit != ABSENT;
            }
            boolean fits = wanted == ANY_ONE ? digit != ABSENT : digit == wanted;
            if (!fits) {
                return false;
            }
        }
        return true;
    }

    /** The path without its last segment, or NONE. */
    private static int pathAbove(int path) {
        if (path < 4) {
            return NONE;
        }
        return path < 20 ? (path - 4) / 4 : 4 + (path - 20) / 4;
    }

    private boolean may(int tenant, int action, int digits) {
        int first = tenant * GRANTS;
        for (int i = first; i < first + grantCount[tenant]; i++) {
            boolean acts = (grantActions[i] >> action & 1) == 1;
            if (acts && standsFor(grantPattern[i], digits)) {
                return true;
            }
        }
        return false;
    }

    private int judgePending() {
        wrongPlace = firstMalformed();
        if (wrongPlace != NONE) {
            return FORM;
        }
        spreadHeights();
        wrongPlace = firstUnsound();
        return wrongPlace != NONE ? STACK : OK;
    }

    private int firstMalformed() {
        if (pendingCount == 0 || codeOp[PENDING] != FUNC) {
            return 0;
        }
        int functions = pendingFunctions();
        int seen = 0;
        int start = 0;
        for (int i = 0; i < pendingCount; i++) {
            if (codeOp[PENDING + i] == FUNC) {
                seen++;
                start = i;
            }
            if (seen > FUNCTIONS || !hasGoodOperands(i, start, functions)) {
                return i;
            }
        }
        return NONE;
    }

    private int pendingFunctions() {
        int functions = 0;
        for (int i = 0; i < pendingCount; i++) {
            if (codeOp[PENDING + i] == FUNC) {
                functions++;
            }
        }
        return functions;
    }

    private boolean hasGoodOperands(int i, int start, int functions) {
        int op = codeOp[PENDING + i];
        int a = codeA[PENDING + i];
        int b = codeB[PENDING + i];
        switch (op) {
            case FUNC:
                return a >= 1 && a <= LOCALS;
            case LOAD:
            case STORE:
                return a >= 0 && a < codeA[PENDING + start];
            case JUMP:
            case ZERO:
                return isInsideFunction(a, start);
            case CALL:
            case PRIV:
            case SPAWN:
                return a >= 0 && a < functions;
            case SEND:
                return isSlot(a);
            case GUARD:
                return a >= 0 && a < ACTIONS && isPath(b);
            default:
                return op >= FUNC && op <= YIELD;
        }
    }

    private boolean isInsideFunction(int target, int start) {
        if (target <= start || target >= pendingCount) {
            return false;
        }
        for (int i = start + 1; i <= target; i++) {
            if (codeOp[PENDING + i] == FUNC) {
                return false;
            }
        }
        return true;
    }

    private static int popped(int op, int a) {
        switch (op) {
            case SWAP:
            case ADD:
            case SUB:
            case MUL:
            case LESS:
            case SAME:
                return 2;
            case DUP:
            case DROP:
            case STORE:
            case ZERO:
            case CALL:
            case PRIV:
            case SEND:
            case SPAWN:
            case ALLOC:
            case FREE:
            case RETURN:
            case THROW:
                return 1;
            case GUARD:
                return a == WRITE ? 1 : 0;
            default:
                return 0;
        }
    }

    private static int pushed(int op, int a) {
        switch (op) {
            case DUP:
            case SWAP:
            case SEND:
                return 2;
            case PUSH:
            case ADD:
            case SUB:
            case MUL:
            case LESS:
            case SAME:
            case LOAD:
            case CALL:
            case PRIV:
            case SPAWN:
            case ALLOC:
                return 1;
            case GUARD:
                return a == WRITE ? 0 : 1;
            default:
                return 0;
        }
    }

    private static boolean goesOn(int op) {
        return op != JUMP && op != RETURN && op != THROW;
    }

    /** Finds the heights of each instruction of the pending bundle, as the sum of 2^height. */
    private void spreadHeights() {
        for (int i = 0; i < pendingCount; i++) {
            heights[i] = codeOp[PENDING + i] == FUNC ? 1 : 0;
        }
        boolean grown = true;
        for (int pass = 0; pass < MOST_PASSES && grown; pass++) {
            grown = false;
            for (int i = 0; i < pendingCount; i++) {
                if (spreadFrom(i)) {
                    grown = true;
                }
            }
        }
    }

    private boolean spreadFrom(int i) {
        int op = codeOp[PENDING + i];
        int target = codeA[PENDING + i];
        int after = heightsAfter(i);
        boolean grown = false;
        if (goesOn(op) && i + 1 < pendingCount) {
            grown = (after & ~heights[i + 1]) != 0;
            heights[i + 1] |= after;
        }
        if (op == JUMP || op == ZERO) {
            grown = grown || (after & ~heights[target]) != 0;
            heights[target] |= after;
        }
        return grown;
    }

    /** The shifts drop the heights that do not fit: those below 0 and, by the mask, those above 8. */
    private int heightsAfter(int i) {
        int op = codeOp[PENDING + i];
        int a = codeA[PENDING + i];
        return heights[i] >> popped(op, a) << pushed(op, a) & ALL_HEIGHTS;
    }

    private int firstUnsound() {
        for (int i = 0; i < pendingCount; i++) {
            if (heights[i] != 0 && !isSoundAt(i)) {
                return i;
            }
        }
        return NONE;
    }

    private boolean isSoundAt(int i) {
        boolean single = (heights[i] & (heights[i] - 1)) == 0;
        if (!single || heightsAfter(i) == 0) {
            return false;
        }
        if (!goesOn(codeOp[PENDING + i])) {
            return true;
        }
        return i + 1 < pendingCount && codeOp[PENDING + i + 1] != FUNC;
    }

    private void install(int tenant) {
        int row = tenant * BUNDLE;
        int functions = 0;
        for (int i = 0; i < pendingCount; i++) {
            codeOp[row + i] = codeOp[PENDING + i];
            codeA[row + i] = codeA[PENDING + i];
            codeB[row + i] = codeB[PENDING + i];
            if (codeOp[row + i] == FUNC && functions < FUNCTIONS) {
                functionStart[tenant * FUNCTIONS + functions] = i;
                functions++;
            }
        }
        functionCount[tenant] = functions;
        tenantState[tenant] = HAS_BUNDLE;
        ticksUsed[tenant] = 0;
        unitsHeld[tenant] = 0;
    }

    private int threadsOf(int tenant) {
        int count = 0;
        for (int k = 0; k < THREADS; k++) {
            if (threadCode[k] == RUNNING && threadOwner[k] == tenant) {
                count++;
            }
        }
        return count;
    }

    private int framesOf(int tenant) {
        int count = 0;
        for (int k = 0; k < THREADS; k++) {
            int first = k * FRAMES;
            for (int frame = first; frame < first + frameCount[k]; frame++) {
                if (frameTenant[frame] == tenant) {
                    count++;
                }
            }
        }
        return count;
    }

    private int domainsOf(int k) {
        int set = 0;
        int first = k * FRAMES;
        for (int frame = first + frameCount[k] - 1; frame >= first; frame--) {
            set |= 1 << frameTenant[frame];
            if (frameKind[frame] == PRIVILEGED) {
                return set;
            }
        }
        return set | threadInherits[k];
    }

    private int freeThread() {
        for (int k = 0; k < THREADS; k++) {
            if (threadCode[k] != RUNNING) {
                return k;
            }
        }
        return NONE;
    }

    private boolean canEnter(int tenant, int function) {
        boolean there = function >= 0 && function < functionCount[tenant];
        return there && tenantState[tenant] == HAS_BUNDLE;
    }

    /** REFUSED is also the -1 that a SPAWN pushes. */
    private int beginThread(int tenant, int function, int argument, int inherits) {
        int k = freeThread();
        if (k == NONE || threadsOf(tenant) >= threadLimit[tenant]) {
            return REFUSED;
        }
        threadCode[k] = RUNNING;
        threadResult[k] = 0;
        threadOwner[k] = tenant;
        threadInherits[k] = inherits;
        frameCount[k] = 0;
        beginFrame(k, tenant, function, argument, PLAIN);
        if (turn == NONE) {
            turn = k;
            stepsLeft = quantum;
        }
        return k;
    }

    private void endThread(int k, int endCode, int result) {
        threadCode[k] = endCode;
        threadResult[k] = result;
        frameCount[k] = 0;
        stepsLeft = 0;
    }

    private int beginFrame(int k, int tenant, int function, int argument, int kind) {
        if (frameCount[k] >= FRAMES) {
            return DEPTH;
        }
        int frame = k * FRAMES + frameCount[k];
        frameCount[k]++;
        frameTenant[frame] = tenant;
        frameKind[frame] = kind;
        frameNext[frame] = functionStart[tenant * FUNCTIONS + function];
        frameHeight[frame] = 0;
        frameLocals[frame * LOCALS] = argument;
        for (int i = 1; i < LOCALS; i++) {
            frameLocals[frame * LOCALS + i] = 0;
        }
        return WELL;
    }

    private int topFrame(int k) {
        return k * FRAMES + frameCount[k] - 1;
    }

    /** Sound code never finds the values full; the bound only keeps the index safe. */
    private void push(int frame, int value) {
        int height = frameHeight[frame];
        if (height < VALUES) {
            frameValues[frame * VALUES + height] = value;
            frameHeight[frame] = height + 1;
        }
    }

    /** Sound code never finds the values empty; the bound only keeps the index safe. */
    private int pop(int frame) {
        int height = frameHeight[frame] - 1;
        if (height < 0) {
            return 0;
        }
        frameHeight[frame] = height;
        return frameValues[frame * VALUES + height];
    }

    private int faultBefore(int k) {
        int frame = topFrame(k);
        int tenant = frameTenant[frame];
        if (tenantState[tenant] == IS_KILLED && isPoll(tenant, frameNext[frame])) {
            return KILLED;
        }
        return ticksUsed[tenant] >= tickLimit[tenant] ? QUOTA : WELL;
    }

    private boolean isPoll(int tenant, int i) {
        switch (codeOp[tenant * BUNDLE + i]) {
            case FUNC:
            case CALL:
            case PRIV:
            case SEND:
            case SPAWN:
                return true;
            case JUMP:
            case ZERO:
                return codeA[tenant * BUNDLE + i] <= i;
            default:
                return false;
        }
    }

    /** Answers the exception that the instruction raises, or WELL. */
    private int execute(int k) {
        int frame = topFrame(k);
        int tenant = frameTenant[frame];
        int at = tenant * BUNDLE + frameNext[frame];
        int op = codeOp[at];
        int a = codeA[at];
        ticksUsed[tenant]++;
        frameNext[frame]++;
        switch (op) {
            case JUMP:
                frameNext[frame] = a;
                return WELL;
            case ZERO:
                frameNext[frame] = pop(frame) == 0 ? a : frameNext[frame];
                return WELL;
            case CALL:
                return callFunction(k, a, PLAIN);
            case PRIV:
                return callFunction(k, a, PRIVILEGED);
            case SEND:
                return sendToSlot(k, a);
            case SPAWN:
                spawnThread(k, a);
                return WELL;
            case GUARD:
                return guardPath(k, a, codeB[at]);
            case ALLOC:
                allocUnits(frame);
                return WELL;
            case FREE:
                freeUnits(frame);
                return WELL;
            case RETURN:
                returnValue(k);
                return WELL;
            case THROW:
                return THROWN + (pop(frame) & 15);
            case YIELD:
                stepsLeft = 0;
                return WELL;
            default:
                computeValues(frame, op, a);
                return WELL;
        }
    }

    private void computeValues(int frame, int op, int a) {
        switch (op) {
            case PUSH:
                push(frame, a);
                break;
            case LOAD:
                push(frame, frameLocals[frame * LOCALS + a]);
                break;
            case STORE:
                frameLocals[frame * LOCALS + a] = pop(frame);
                break;
            case DROP:
                pop(frame);
                break;
            case DUP:
                duplicateTop(frame);
                break;
            case SWAP:
                swapTop(frame);
                break;
            case ADD:
            case SUB:
            case MUL:
            case LESS:
            case SAME:
                combineTwo(frame, op);
                break;
            default:
                break;
        }
    }

    private void duplicateTop(int frame) {
        int value = pop(frame);
        push(frame, value);
        push(frame, value);
    }

    private void swapTop(int frame) {
        int top = pop(frame);
        int lower = pop(frame);
        push(frame, top);
        push(frame, lower);
    }

    private void combineTwo(int frame, int op) {
        int top = pop(frame);
        int lower = pop(frame);
        int result = 0;
        switch (op) {
            case ADD:
                result = lower + top;
                break;
            case SUB:
                result = lower - top;
                break;
            case MUL:
                result = lower * top;
                break;
            case LESS:
                result = lower < top ? 1 : 0;
                break;
            default:
                result = lower == top ? 1 : 0;
                break;
        }
        push(frame, result);
    }

    private int callFunction(int k, int function, int kind) {
        int frame = topFrame(k);
        int argument = pop(frame);
        return beginFrame(k, frameTenant[frame], function, argument, kind);
    }

    private int sendToSlot(int k, int s) {
        int frame = topFrame(k);
        int at = frameTenant[frame] * SLOTS + s;
        int to = slotTenant[at];
        int function = slotFunction[at];
        int argument = pop(frame);
        int answer = WELL;
        if (slotState[at] == EMPTY) {
            answer = SLOT_EMPTY;
        } else if (slotState[at] == REVOKED) {
            answer = SLOT_REVOKED;
        } else if (!canEnter(to, function)) {
            answer = KILLED;
        }
        if (answer == WELL) {
            return beginFrame(k, to, function, argument, SENT);
        }
        push(frame, 0);
        push(frame, answer);
        return WELL;
    }

    private void spawnThread(int k, int function) {
        int frame = topFrame(k);
        int argument = pop(frame);
        int inherits = domainsOf(k);
        int number = beginThread(frameTenant[frame], function, argument, inherits);
        push(frame, number);
    }

    private int guardPath(int k, int action, int path) {
        int frame = topFrame(k);
        int domains = domainsOf(k);
        int digits = digitsOf(path);
        boolean allowed = true;
        for (int t = 0; t < TENANTS; t++) {
            boolean concerned = (domains >> t & 1) == 1;
            if (concerned && !may(t, action, digits)) {
                allowed = false;
            }
        }
        int note = path + 128 * action + 512 * frameTenant[frame];
        noteGuard(allowed ? note + 2048 : note);
        if (!allowed) {
            return ACCESS;
        }
        actOnPath(frame, action, path);
        return WELL;
    }

    private void noteGuard(int note) {
        for (int i = NOTES - 1; i > 0; i--) {
            notes[i] = notes[i - 1];
        }
        notes[0] = note;
    }

    private void actOnPath(int frame, int action, int path) {
        switch (action) {
            case READ:
                push(frame, resources[path]);
                break;
            case WRITE:
                resources[path] = pop(frame);
                break;
            case DELETE:
                push(frame, resources[path]);
                resources[path] = 0;
                break;
            default:
                int count = countBehind(path);
                push(frame, count);
                break;
        }
    }

    private int countBehind(int path) {
        int count = 0;
        for (int i = 0; i < PATHS; i++) {
            int above = pathAbove(i);
            boolean behind = above == path || pathAbove(above) == path;
            if (behind && resources[i] != 0) {
                count++;
            }
        }
        return count;
    }

    private void allocUnits(int frame) {
        int tenant = frameTenant[frame];
        int n = pop(frame);
        long wanted = (long) unitsHeld[tenant] + n;
        boolean given = n >= 0 && wanted <= unitLimit[tenant];
        if (given) {
            unitsHeld[tenant] = (int) wanted;
        }
        push(frame, given ? 1 : 0);
    }

    private void freeUnits(int frame) {
        int tenant = frameTenant[frame];
        int n = pop(frame);
        if (n >= 0) {
            unitsHeld[tenant] = n > unitsHeld[tenant] ? 0 : unitsHeld[tenant] - n;
        }
    }

    private void returnValue(int k) {
        int frame = topFrame(k);
        int value = pop(frame);
        if (frameCount[k] <= 1) {
            endThread(k, WELL, value);
            return;
        }
        frameCount[k]--;
        push(frame - 1, value);
        if (frameKind[frame] == SENT) {
            push(frame - 1, WELL);
        }
    }

    private void unwind(int k, int fault) {
        int first = k * FRAMES;
        for (int frame = topFrame(k); frame > first; frame--) {
            frameCount[k]--;
            if (frameKind[frame] == SENT) {
                push(frame - 1, 0);
                push(frame - 1, fault);
                return;
            }
        }
        endThread(k, fault, 0);
    }

    private void releaseUnitsOfKilled() {
        for (int t = 0; t < TENANTS; t++) {
            if (tenantState[t] == IS_KILLED && framesOf(t) == 0) {
                unitsHeld[t] = 0;
            }
        }
    }

    private void passTurn() {
        if (stepsLeft > 0 || turn == NONE) {
            return;
        }
        int from = turn;
        turn = NONE;
        stepsLeft = quantum;
        for (int i = 1; i <= THREADS; i++) {
            int k = (from + i) % THREADS;
            if (threadCode[k] == RUNNING) {
                turn = k;
                return;
            }
        }
    }
}
