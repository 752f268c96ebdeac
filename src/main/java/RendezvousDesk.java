/** A desk for tasks that meet; the document ../shared/DOC.md says what each call answers. */
public final class RendezvousDesk {
    public static final int OVER = 0, STUCK = 1, LONG = 2, BAD = -1, FULL = -2;

    private static final int BODIES = 4, BODY_SIZE = 20, CELLS = 80;
    private static final int TASKS = 8, FRAMES = 8, FRAME_CELLS = 64;
    private static final int ENTRIES = 3, QUEUES = 24, QUEUE_CELLS = 192;
    private static final int KEPT_NOTES = 60;
    private static final int MOST_INSTRUCTIONS = 500, TURN_SIZE = 3;
    private static final int NONE = -1, ANY = -2;

    private static final int OP_PUT = 0, OP_SHOW = 1, OP_SET = 2, OP_ADD = 3, OP_GO = 4, OP_ZERO = 5,
        OP_TASK = 6, OP_BLOCK = 7, OP_LEAVE = 8, OP_CALL = 9, OP_LIMIT = 10, OP_LATE = 11, OP_DELAY = 12,
        OP_ACCEPT = 13, OP_DONE = 14, OP_SELECT = 15, OP_WHEN = 16, OP_IFX = 17, OP_ELSE = 18,
        OP_AFTER = 19, OP_TERMINATE = 20, OP_RAISE = 21, OP_HANDLE = 22, OP_OVER = 23, OP_ABORT = 24,
        OP_END = 25;

    // FALLING is seen inside only: a task whose frames go, so that no one wakes or ends it meanwhile.
    private static final int READY = 0, CALLING = 1, SERVED = 2, ACCEPTING = 3, SELECTING = 4, DELAYED = 5,
        LEAVING = 6, COMPLETED = 7, TERMINATED = 8, FALLING = 9;

    private static final int BLOCK = 0, MEETING = 1, HANDLER = 2;

    private static final int NO_PARTNER = 11, MISPLACED = 12, NO_ROOM = 13, ABORTED = 14;

    // No run comes near these: each only gives its loop an end that can be seen.
    private static final int STEP_BOUND = 1000000, FALL_BOUND = 1000;

    private final int[] ops = new int[CELLS];
    private final int[] firsts = new int[CELLS];
    private final int[] seconds = new int[CELLS];
    private final int[] lengths = new int[BODIES];

    private final int[] condition = new int[TASKS];
    private final int[] place = new int[TASKS];
    private final int[] xs = new int[TASKS];
    private final int[] ended = new int[TASKS];
    private final int[] bodyOf = new int[TASKS];
    private final int[] master = new int[TASKS];
    private final int[] masterBlock = new int[TASKS];
    private final int[] limits = new int[TASKS];
    private final int[] pending = new int[TASKS];
    private final boolean[] doomed = new boolean[TASKS];
    private final boolean[] terminable = new boolean[TASKS];
    private final int[] calledQueue = new int[TASKS];
    private final int[] wakeTime = new int[TASKS];
    private final int[] wakePlace = new int[TASKS];

    private final int[] depth = new int[TASKS];
    private final int[] frameKind = new int[FRAME_CELLS];
    private final int[] frameValue = new int[FRAME_CELLS];

    private final int[] queue = new int[QUEUE_CELLS];
    private final int[] queueLength = new int[QUEUES];
    private final int[] row = new int[TASKS];
    private final int[] noteTask = new int[KEPT_NOTES];
    private final int[] noteValue = new int[KEPT_NOTES];
    private final int[] fallen = new int[TASKS];
    private final boolean[] chosen = new boolean[TASKS];

    private int rowLength;
    private int noteCount;
    private int tasks;
    private int time;
    private int done;
    private int turns;
    private int doneInTurn;
    private boolean inTurn;

    public RendezvousDesk() {
    }

    public int add(int body, int op, int a, int b) {
        if (!within(body, 0, BODIES - 1) || !fits(op, a, b)) {
            return BAD;
        }
        int length = lengths[body];
        if (length >= BODY_SIZE) {
            return FULL;
        }
        int cell = body * BODY_SIZE + length;
        ops[cell] = op;
        firsts[cell] = a;
        seconds[cell] = b;
        lengths[body] = length + 1;
        return length + 1;
    }

    public int clear(int body) {
        if (!within(body, 0, BODIES - 1)) {
            return BAD;
        }
        int length = lengths[body];
        lengths[body] = 0;
        return length;
    }

    public int run(int most) {
        if (!within(most, 1, MOST_INSTRUCTIONS)) {
            return BAD;
        }
        beginRun();
        for (int step = 0; step < STEP_BOUND; step++) {
            if (condition[0] == TERMINATED) {
                return OVER;
            }
            if (rowLength == 0) {
                if (!endTogether() && !passTime()) {
                    return STUCK;
                }
                continue;
            }
            int t = row[0];
            beginTurn();
            if (pending[t] != 0) {
                raise(t);
            } else if (done >= most) {
                return LONG;
            } else {
                perform(t);
            }
            endTurn(t);
        }
        return LONG;
    }

    public int task(int t, int what) {
        if (!within(t, 0, tasks - 1)) {
            return -1;
        }
        switch (what) {
            case 0: return condition[t];
            case 1: return place[t];
            case 2: return xs[t];
            case 3: return ended[t];
            case 4: return bodyOf[t];
            case 5: return master[t];
            case 6: return depth[t];
            case 7: return limits[t];
            default: return -1;
        }
    }

    public int queued(int t, int entry, int k) {
        if (!within(t, 0, tasks - 1) || !within(entry, 0, ENTRIES - 1)) {
            return -1;
        }
        int q = t * ENTRIES + entry;
        return within(k, 0, queueLength[q] - 1) ? queue[q * TASKS + k] : -1;
    }

    public int noted(int k, int what) {
        if (!within(k, 0, KEPT_NOTES - 1) || k >= noteCount) {
            return 0;
        }
        switch (what) {
            case 0: return noteTask[k];
            case 1: return noteValue[k];
            default: return 0;
        }
    }

    public int state(int what) {
        switch (what) {
            case 0: return tasks;
            case 1: return time;
            case 2: return done;
            case 3: return turns;
            case 4: return noteCount;
            default: return BAD;
        }
    }

    public int ready(int k) {
        return within(k, 0, rowLength - 1) ? row[k] : -1;
    }

    private boolean within(int value, int least, int most) {
        return value >= least && value <= most;
    }

    private boolean fits(int op, int a, int b) {
        switch (op) {
            case OP_GO:
            case OP_ZERO:
            case OP_ELSE:
            case OP_AFTER:
            case OP_HANDLE:
                return within(a, 0, BODY_SIZE);
            case OP_WHEN:
            case OP_IFX:
                return within(a, 0, ENTRIES - 1) && within(b, 0, BODY_SIZE);
            case OP_TASK:
                return within(a, 0, BODIES - 1);
            case OP_CALL:
            case OP_LATE:
                return within(a, 0, TASKS - 1) && within(b, 0, ENTRIES - 1);
            case OP_ABORT:
                return within(a, 0, TASKS - 1);
            case OP_LIMIT:
            case OP_DELAY:
                return within(a, 0, 99);
            case OP_ACCEPT:
                return within(a, 0, ENTRIES - 1);
            case OP_RAISE:
                return within(a, 1, 9);
            default:
                return within(op, OP_PUT, OP_END);
        }
    }

    private void beginRun() {
        rowLength = 0;
        noteCount = 0;
        tasks = 0;
        time = 0;
        done = 0;
        turns = 0;
        inTurn = false;
        for (int q = 0; q < QUEUES; q++) {
            queueLength[q] = 0;
        }
        makeTask(0, NONE, NONE);
    }

    private void makeTask(int body, int maker, int block) {
        int t = tasks;
        tasks++;
        place[t] = 0;
        xs[t] = 0;
        ended[t] = -1;
        bodyOf[t] = body;
        master[t] = maker;
        masterBlock[t] = block;
        limits[t] = 0;
        pending[t] = 0;
        doomed[t] = false;
        depth[t] = 0;
        makeReady(t);
    }

    private void beginTurn() {
        if (!inTurn) {
            inTurn = true;
            turns++;
            doneInTurn = 0;
        }
    }

    /** What the third instruction raised belongs to its turn, so such a turn stays open. */
    private void endTurn(int t) {
        if (condition[t] != READY) {
            inTurn = false;
        } else if (doneInTurn >= TURN_SIZE && pending[t] == 0) {
            inTurn = false;
            leaveRow(t);
            makeReady(t);
        }
    }

    private void makeReady(int t) {
        condition[t] = READY;
        wakeTime[t] = NONE;
        row[rowLength] = t;
        rowLength++;
    }

    private void leaveRow(int t) {
        int kept = 0;
        for (int k = 0; k < rowLength; k++) {
            if (row[k] != t) {
                row[kept] = row[k];
                kept++;
            }
        }
        rowLength = kept;
    }

    private void leaveQueue(int t) {
        int q = calledQueue[t];
        int kept = 0;
        for (int k = 0; k < queueLength[q]; k++) {
            int other = queue[q * TASKS + k];
            if (other != t) {
                queue[q * TASKS + kept] = other;
                kept++;
            }
        }
        queueLength[q] = kept;
    }

    private void waitAs(int t, int how) {
        leaveRow(t);
        condition[t] = how;
    }

    private void wakeAfter(int t, int span, int at) {
        wakeTime[t] = time + span;
        wakePlace[t] = at;
    }

    private void note(int t, int value) {
        if (noteCount < KEPT_NOTES) {
            noteTask[noteCount] = t;
            noteValue[noteCount] = value;
        }
        noteCount++;
    }

    /** A place that stays the same means that the task waits there, raises something there or ended there. */
    private void perform(int t) {
        done++;
        doneInTurn++;
        int here = place[t];
        int next = here + 1;
        int cell = bodyOf[t] * BODY_SIZE + here;
        boolean inside = here < lengths[bodyOf[t]];
        int op = inside ? ops[cell] : OP_END;
        int a = inside ? firsts[cell] : 0;
        int b = inside ? seconds[cell] : 0;
        switch (op) {
            case OP_PUT: note(t, a); break;
            case OP_SHOW: note(t, xs[t]); break;
            case OP_SET: xs[t] = a; break;
            case OP_ADD: xs[t] += a; break;
            case OP_GO: next = a; break;
            case OP_ZERO: next = xs[t] == 0 ? a : next; break;
            case OP_TASK: next = doTask(t, a); break;
            case OP_BLOCK: next = doPutUp(t, BLOCK, 0); break;
            case OP_LEAVE: next = doLeave(t); break;
            case OP_CALL: next = doCall(t, a, b, false); break;
            case OP_LIMIT: limits[t] = a; break;
            case OP_LATE: next = doCall(t, a, b, true); break;
            case OP_DELAY: next = doDelay(t, a); break;
            case OP_ACCEPT: next = doAccept(t, a); break;
            case OP_DONE: next = doDone(t); break;
            case OP_SELECT: next = doSelect(t); break;
            case OP_RAISE: next = fail(t, a); break;
            case OP_HANDLE: next = doPutUp(t, HANDLER, a); break;
            case OP_OVER: next = doOver(t); break;
            case OP_ABORT: next = doAbort(t, a); break;
            case OP_END: next = doEnd(t); break;
            default: break;
        }
        place[t] = next;
    }

    private int fail(int t, int exception) {
        pending[t] = exception;
        return place[t];
    }

    private int doTask(int t, int body) {
        if (tasks >= TASKS) {
            return fail(t, NO_ROOM);
        }
        int block = NONE;
        for (int level = 0; level < depth[t]; level++) {
            if (frameKind[t * FRAMES + level] == BLOCK) {
                block = level;
            }
        }
        xs[t] = tasks;
        makeTask(body, t, block);
        return place[t] + 1;
    }

    private int doPutUp(int t, int kind, int value) {
        if (depth[t] >= FRAMES) {
            return fail(t, NO_ROOM);
        }
        putUp(t, kind, value);
        return place[t] + 1;
    }

    private void putUp(int t, int kind, int value) {
        int cell = t * FRAMES + depth[t];
        frameKind[cell] = kind;
        frameValue[cell] = value;
        depth[t]++;
    }

    private boolean hasOnTop(int t, int kind) {
        return depth[t] > 0 && frameKind[t * FRAMES + depth[t] - 1] == kind;
    }

    private int doLeave(int t) {
        if (!hasOnTop(t, BLOCK)) {
            return fail(t, MISPLACED);
        }
        if (hasLiving(t, depth[t] - 1)) {
            waitAs(t, LEAVING);
            return place[t];
        }
        depth[t]--;
        return place[t] + 1;
    }

    private int doOver(int t) {
        if (!hasOnTop(t, HANDLER)) {
            return fail(t, MISPLACED);
        }
        depth[t]--;
        return place[t] + 1;
    }

    private int doDelay(int t, int span) {
        if (span == 0) {
            return place[t] + 1;
        }
        waitAs(t, DELAYED);
        wakeAfter(t, span, place[t] + 1);
        return place[t];
    }

    private int doEnd(int t) {
        if (depth[t] > 0) {
            return fail(t, MISPLACED);
        }
        bringDown(t, 0);
        return place[t];
    }

    private boolean isThere(int t) {
        return t < tasks && condition[t] != COMPLETED && condition[t] != TERMINATED;
    }

    private int doCall(int t, int called, int entry, boolean late) {
        int here = place[t];
        if (!isThere(called)) {
            return fail(t, NO_PARTNER);
        }
        int at = placeToMeet(called, entry);
        if (at != NONE) {
            waitAs(t, SERVED);
            beginMeeting(called, t);
            place[called] = at;
            makeReady(called);
            return here;
        }
        if (late && limits[t] == 0) {
            return here + 2;
        }
        int q = called * ENTRIES + entry;
        queue[q * TASKS + queueLength[q]] = t;
        queueLength[q]++;
        calledQueue[t] = q;
        waitAs(t, CALLING);
        if (late) {
            wakeAfter(t, limits[t], here + 2);
        }
        return here;
    }

    /** Where a task that waits for a call of this entry goes on; NONE if it does not wait for one. */
    private int placeToMeet(int t, int entry) {
        int here = place[t];
        int start = bodyOf[t] * BODY_SIZE;
        if (condition[t] == ACCEPTING) {
            return firsts[start + here] == entry ? here + 1 : NONE;
        }
        if (condition[t] != SELECTING) {
            return NONE;
        }
        int end = endOfAlternatives(t);
        for (int k = here + 1; k < end; k++) {
            if (firsts[start + k] == entry && isOpen(t, k)) {
                return seconds[start + k];
            }
        }
        return NONE;
    }

    private int endOfAlternatives(int t) {
        int start = bodyOf[t] * BODY_SIZE;
        int length = lengths[bodyOf[t]];
        for (int k = place[t] + 1; k < length; k++) {
            if (!within(ops[start + k], OP_WHEN, OP_TERMINATE)) {
                return k;
            }
        }
        return length;
    }

    /** X stays as it is while a task is SELECTING, so this holds for the whole wait. */
    private boolean isOpen(int t, int k) {
        int op = ops[bodyOf[t] * BODY_SIZE + k];
        return op == OP_WHEN || op == OP_IFX && xs[t] != 0;
    }

    private void beginMeeting(int server, int caller) {
        condition[caller] = SERVED;
        wakeTime[caller] = NONE;
        putUp(server, MEETING, caller);
        xs[server] = xs[caller];
    }

    private void meetFirstOf(int t, int q) {
        int caller = queue[q * TASKS];
        leaveQueue(caller);
        beginMeeting(t, caller);
    }

    private int doAccept(int t, int entry) {
        if (depth[t] >= FRAMES) {
            return fail(t, NO_ROOM);
        }
        int q = t * ENTRIES + entry;
        if (queueLength[q] == 0) {
            waitAs(t, ACCEPTING);
            return place[t];
        }
        meetFirstOf(t, q);
        return place[t] + 1;
    }

    private int doDone(int t) {
        if (!hasOnTop(t, MEETING)) {
            return fail(t, MISPLACED);
        }
        depth[t]--;
        int caller = frameValue[t * FRAMES + depth[t]];
        xs[caller] = xs[t];
        if (doomed[caller]) {
            bringDown(caller, ABORTED);
        } else {
            place[caller]++;
            makeReady(caller);
        }
        return place[t] + 1;
    }

    private int doSelect(int t) {
        if (depth[t] >= FRAMES) {
            return fail(t, NO_ROOM);
        }
        int start = bodyOf[t] * BODY_SIZE;
        int end = endOfAlternatives(t);
        boolean someOpen = false;
        int other = NONE;
        for (int k = place[t] + 1; k < end; k++) {
            if (isOpen(t, k)) {
                int q = t * ENTRIES + firsts[start + k];
                if (queueLength[q] > 0) {
                    meetFirstOf(t, q);
                    return seconds[start + k];
                }
                someOpen = true;
            } else if (other == NONE && ops[start + k] >= OP_ELSE) {
                other = start + k;
            }
        }
        if (other == NONE && !someOpen) {
            return fail(t, MISPLACED);
        }
        return selectWithout(t, other);
    }

    /** No MEETING can begin; other is the cell of the ELSE, AFTER or TERMINATE that counts. */
    private int selectWithout(int t, int other) {
        int op = other == NONE ? NONE : ops[other];
        if (op == OP_ELSE || op == OP_AFTER && limits[t] == 0) {
            return firsts[other];
        }
        waitAs(t, SELECTING);
        terminable[t] = op == OP_TERMINATE;
        if (op == OP_AFTER) {
            wakeAfter(t, limits[t], firsts[other]);
        }
        return place[t];
    }

    private int doAbort(int t, int victim) {
        if (!isThere(victim)) {
            return place[t] + 1;
        }
        chooseDependents(victim, ANY);
        chosen[victim] = true;
        for (int u = 0; u < tasks; u++) {
            if (!chosen[u] || !isThere(u)) {
                continue;
            }
            if (condition[u] == SERVED) {
                doomed[u] = true;
            } else {
                bringDown(u, ABORTED);
            }
        }
        return condition[t] == READY ? place[t] + 1 : place[t];
    }

    /** A task has a greater number than its master, so one pass finds also those that depend not directly. */
    private void chooseDependents(int t, int block) {
        for (int u = 0; u < tasks; u++) {
            int m = master[u];
            boolean directly = m == t && (block == ANY || masterBlock[u] == block);
            chosen[u] = directly || m != NONE && chosen[m];
        }
    }

    private boolean hasLiving(int t, int block) {
        for (int u = 0; u < tasks; u++) {
            if (master[u] == t && masterBlock[u] == block && condition[u] != TERMINATED) {
                return true;
            }
        }
        return false;
    }

    /** What waits for tasks keeps its exception in pending, and so goes on with it at its turn. */
    private void raise(int t) {
        int exception = pending[t];
        for (int n = 0; n < FRAMES && depth[t] > 0; n++) {
            int top = t * FRAMES + depth[t] - 1;
            if (frameKind[top] == BLOCK && hasLiving(t, depth[t] - 1)) {
                waitAs(t, LEAVING);
                return;
            }
            depth[t]--;
            if (frameKind[top] == HANDLER) {
                pending[t] = 0;
                place[t] = frameValue[top];
                xs[t] = exception;
                return;
            }
            if (frameKind[top] == MEETING) {
                failMeeting(frameValue[top], exception);
            }
        }
        bringDown(t, exception);
    }

    private void failMeeting(int caller, int exception) {
        if (doomed[caller]) {
            bringDown(caller, ABORTED);
        } else {
            pending[caller] = exception;
            makeReady(caller);
        }
    }

    /**
     * Takes a task's FRAMES away and completes it. A doomed caller of one of its MEETINGs falls before
     * the next FRAME goes; the tasks in such a chain stand in fallen, the latest last.
     */
    private void bringDown(int t, int how) {
        withdraw(t);
        fallen[0] = t;
        int height = 1;
        for (int step = 0; step < FALL_BOUND && height > 0; step++) {
            int s = fallen[height - 1];
            if (depth[s] == 0) {
                height--;
                complete(s, height == 0 ? how : ABORTED);
                settle(s);
                continue;
            }
            int caller = takeFrame(s);
            if (caller == NONE) {
                continue;
            }
            if (doomed[caller]) {
                withdraw(caller);
                fallen[height] = caller;
                height++;
            } else {
                pending[caller] = NO_PARTNER;
                makeReady(caller);
            }
        }
    }

    private void withdraw(int t) {
        if (condition[t] == READY) {
            leaveRow(t);
        }
        if (condition[t] == CALLING) {
            leaveQueue(t);
        }
        condition[t] = FALLING;
        wakeTime[t] = NONE;
    }

    /** Takes the top FRAME of a falling task: the caller if it was a MEETING, else NONE. */
    private int takeFrame(int t) {
        depth[t]--;
        int top = t * FRAMES + depth[t];
        if (frameKind[top] == MEETING) {
            return frameValue[top];
        }
        for (int u = 0; u < tasks; u++) {
            if (frameKind[top] == BLOCK && master[u] == t && masterBlock[u] == depth[t]) {
                masterBlock[u] = NONE;
            }
        }
        return NONE;
    }

    private void complete(int t, int how) {
        ended[t] = how;
        condition[t] = COMPLETED;
        for (int q = t * ENTRIES; q < (t + 1) * ENTRIES; q++) {
            for (int k = 0; k < queueLength[q]; k++) {
                int caller = queue[q * TASKS + k];
                pending[caller] = NO_PARTNER;
                makeReady(caller);
            }
            queueLength[q] = 0;
        }
    }

    /** A task was completed: ends it, and its masters in turn, as far as nothing they wait for lives. */
    private void settle(int completed) {
        int t = completed;
        for (int n = 0; n < TASKS && t != NONE; n++) {
            if (condition[t] == LEAVING && !hasLiving(t, depth[t] - 1)) {
                depth[t]--;
                place[t] += pending[t] == 0 ? 1 : 0;
                makeReady(t);
                return;
            }
            if (condition[t] != COMPLETED || hasLiving(t, NONE)) {
                return;
            }
            condition[t] = TERMINATED;
            t = master[t];
        }
    }

    private boolean endTogether() {
        for (int t = 0; t < tasks; t++) {
            if (condition[t] != LEAVING && condition[t] != COMPLETED) {
                continue;
            }
            chooseDependents(t, condition[t] == LEAVING ? depth[t] - 1 : NONE);
            if (!chosenCanEnd()) {
                continue;
            }
            for (int u = 0; u < tasks; u++) {
                if (chosen[u] && condition[u] == SELECTING) {
                    bringDown(u, 0);
                }
            }
            return true;
        }
        return false;
    }

    private boolean chosenCanEnd() {
        for (int u = 0; u < tasks; u++) {
            boolean ends = condition[u] == SELECTING && terminable[u];
            if (chosen[u] && condition[u] != TERMINATED && !ends) {
                return false;
            }
        }
        return true;
    }

    private boolean passTime() {
        int least = NONE;
        for (int u = 0; u < tasks; u++) {
            if (wakeTime[u] != NONE && (least == NONE || wakeTime[u] < least)) {
                least = wakeTime[u];
            }
        }
        if (least == NONE) {
            return false;
        }
        time = least;
        for (int u = 0; u < tasks; u++) {
            if (wakeTime[u] == least) {
                if (condition[u] == CALLING) {
                    leaveQueue(u);
                }
                place[u] = wakePlace[u];
                makeReady(u);
            }
        }
        return true;
    }
}
