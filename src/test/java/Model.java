import java.util.ArrayList;
import java.util.List;

/**
 * The document's Terms once more, said with objects, lists and recursion, and so in another way than the
 * program. ModelTest compares the two.
 */
final class Model {
    static final int BLOCK = 0, MEETING = 1, HANDLER = 2;

    static final class Frame {
        final int kind;
        final Task caller;
        final int on;

        Frame(int kind, Task caller, int on) {
            this.kind = kind;
            this.caller = caller;
            this.on = on;
        }
    }

    static final class Task {
        final int number;
        final int body;
        final Task maker;
        Frame block;
        int state = 0;
        int place = 0;
        int x = 0;
        int limit = 0;
        int ended = -1;
        int raised = 0;
        boolean abortLater = false;
        boolean canTerminate = false;
        int until = -1;
        int untilPlace = 0;
        List<Task> inQueue = null;
        final List<Frame> frames = new ArrayList<>();
        final List<List<Task>> queues = new ArrayList<>();

        Task(int number, int body, Task maker) {
            this.number = number;
            this.body = body;
            this.maker = maker;
            for (int entry = 0; entry < 3; entry++) {
                queues.add(new ArrayList<>());
            }
        }

        Frame top() {
            return frames.isEmpty() ? null : frames.get(frames.size() - 1);
        }

        boolean hasOnTop(int kind) {
            return !frames.isEmpty() && top().kind == kind;
        }

        void pop() {
            frames.remove(frames.size() - 1);
        }

        boolean gone() {
            return state == 7 || state == 8;
        }
    }

    final List<List<int[]>> bodies;
    final List<Task> tasks = new ArrayList<>();
    final List<Task> row = new ArrayList<>();
    final List<int[]> notes = new ArrayList<>();
    int time = 0;
    int done = 0;
    int turns = 0;
    int result = -1;
    /** What happened how often, so that ModelTest can tell that its programs reach all of it. */
    final int[] seen = new int[Seen.values().length];

    enum Seen { MEET_BY_CALL, MEET_BY_ACCEPT, MEET_BY_SELECT, LATE_AT_ONCE, LATE_BY_TIME, AFTER_BY_TIME,
        LEAVE_WAITED, RAISE_WAITED, RAISED_IN_MEETING, FELL_IN_MEETING, ABORT_LATER, LATER_BY_DONE,
        LATER_BY_RAISE, LATER_BY_ABORT, LATER_IN_CHAIN, QUEUE_LOST, TOGETHER_ONE, TOGETHER_MORE,
        TOGETHER_LEAVING, TOGETHER_MEETING, ABORT_SELF, ABORT_MORE, BLOCK_TO_TASK, STUCK, OVER, LONG }

    Model(List<List<int[]>> bodies) {
        this.bodies = bodies;
    }

    private void saw(Seen what) {
        seen[what.ordinal()]++;
    }

    void run(int most) {
        Task first = new Task(0, 0, null);
        tasks.add(first);
        row.add(first);
        while (result < 0) {
            if (first.state == 8) {
                saw(Seen.OVER);
                result = 0;
            } else if (!row.isEmpty()) {
                turn(row.get(0), most);
            } else if (!together() && !later()) {
                saw(Seen.STUCK);
                result = 1;
            }
        }
    }

    private void turn(Task t, int most) {
        turns++;
        if (t.raised != 0) {
            int e = t.raised;
            t.raised = 0;
            raise(t, e);
        }
        for (int n = 0; n < 3 && t.state == 0; n++) {
            if (done == most) {
                saw(Seen.LONG);
                result = 2;
                return;
            }
            done++;
            instruction(t);
        }
        if (t.state == 0) {
            row.remove(t);
            row.add(t);
        }
    }

    private void ready(Task t) {
        t.state = 0;
        t.until = -1;
        row.add(t);
    }

    private void ready(Task t, int e) {
        t.raised = e;
        ready(t);
    }

    private void wait(Task t, int state) {
        row.remove(t);
        t.state = state;
        t.until = -1;
    }

    private List<Task> on(Task t, Frame block) {
        List<Task> found = new ArrayList<>();
        for (Task u : tasks) {
            if (u.maker == t && u.block == block) {
                found.add(u);
            }
        }
        return found;
    }

    private boolean allTerminated(List<Task> some) {
        return some.stream().allMatch(u -> u.state == 8);
    }

    /** All that depend on it, directly or not, by way of anything of theirs. */
    private List<Task> below(List<Task> some) {
        List<Task> found = new ArrayList<>();
        for (Task u : tasks) {
            for (Task v = u; v != null; v = v.maker) {
                if (some.contains(v)) {
                    found.add(u);
                    break;
                }
            }
        }
        return found;
    }

    private void instruction(Task t) {
        List<int[]> body = bodies.get(t.body);
        int[] i = t.place < body.size() ? body.get(t.place) : new int[] {25, 0, 0};
        int a = i[1];
        int b = i[2];
        boolean full = t.frames.size() == 8;
        switch (i[0]) {
            case 0 -> { notes.add(new int[] {t.number, a}); t.place++; }
            case 1 -> { notes.add(new int[] {t.number, t.x}); t.place++; }
            case 2 -> { t.x = a; t.place++; }
            case 3 -> { t.x += a; t.place++; }
            case 4 -> t.place = a;
            case 5 -> t.place = t.x == 0 ? a : t.place + 1;
            case 6 -> make(t, a);
            case 7 -> { if (full) raise(t, 13); else { t.frames.add(new Frame(BLOCK, null, 0)); t.place++; } }
            case 8 -> leave(t);
            case 9 -> call(t, a, b, false);
            case 10 -> { t.limit = a; t.place++; }
            case 11 -> call(t, a, b, true);
            case 12 -> { if (a == 0) t.place++; else { wait(t, 5); until(t, a, t.place + 1); } }
            case 13 -> { if (full) raise(t, 13); else accept(t, a); }
            case 14 -> done(t);
            case 15 -> { if (full) raise(t, 13); else select(t); }
            case 21 -> raise(t, a);
            case 22 -> { if (full) raise(t, 13); else { t.frames.add(new Frame(HANDLER, null, a)); t.place++; } }
            case 23 -> { if (!t.hasOnTop(HANDLER)) raise(t, 12); else { t.pop(); t.place++; } }
            case 24 -> abort(t, a);
            case 25 -> { if (!t.frames.isEmpty()) raise(t, 12); else { row.remove(t); completed(t, 0); } }
            default -> t.place++;
        }
    }

    private void until(Task t, int span, int place) {
        t.until = time + span;
        t.untilPlace = place;
    }

    private void make(Task t, int body) {
        if (tasks.size() == 8) {
            raise(t, 13);
            return;
        }
        Task u = new Task(tasks.size(), body, t);
        for (Frame f : t.frames) {
            u.block = f.kind == BLOCK ? f : u.block;
        }
        tasks.add(u);
        row.add(u);
        t.x = u.number;
        t.place++;
    }

    private void leave(Task t) {
        if (!t.hasOnTop(BLOCK)) {
            raise(t, 12);
        } else if (allTerminated(on(t, t.top()))) {
            t.pop();
            t.place++;
        } else {
            wait(t, 6);
        }
    }

    private int[] alternative(Task t, int k) {
        List<int[]> body = bodies.get(t.body);
        if (k >= body.size() || body.get(k)[0] < 16 || body.get(k)[0] > 20) {
            return null;
        }
        return body.get(k);
    }

    private boolean open(Task t, int[] alternative) {
        return alternative[0] == 16 || alternative[0] == 17 && t.x != 0;
    }

    private void call(Task t, int a, int entry, boolean late) {
        if (a >= tasks.size() || tasks.get(a).gone()) {
            raise(t, 11);
            return;
        }
        Task u = tasks.get(a);
        int at = -1;
        if (u.state == 3 && bodies.get(u.body).get(u.place)[1] == entry) {
            at = u.place + 1;
        } else if (u.state == 4) {
            for (int k = u.place + 1; at < 0 && alternative(u, k) != null; k++) {
                int[] one = alternative(u, k);
                at = open(u, one) && one[1] == entry ? one[2] : -1;
            }
        }
        if (at >= 0) {
            saw(Seen.MEET_BY_CALL);
            row.remove(t);
            meet(u, t, at);
            ready(u);
        } else if (late && t.limit == 0) {
            saw(Seen.LATE_AT_ONCE);
            t.place += 2;
        } else {
            wait(t, 1);
            t.inQueue = u.queues.get(entry);
            t.inQueue.add(t);
            if (late) {
                until(t, t.limit, t.place + 2);
            }
        }
    }

    private void meet(Task u, Task caller, int at) {
        caller.state = 2;
        caller.until = -1;
        if (caller.inQueue != null) {
            caller.inQueue.remove(caller);
            caller.inQueue = null;
        }
        u.frames.add(new Frame(MEETING, caller, 0));
        u.x = caller.x;
        u.place = at;
    }

    private void accept(Task t, int entry) {
        if (t.queues.get(entry).isEmpty()) {
            wait(t, 3);
        } else {
            saw(Seen.MEET_BY_ACCEPT);
            meet(t, t.queues.get(entry).get(0), t.place + 1);
        }
    }

    private void select(Task t) {
        boolean anyOpen = false;
        for (int k = t.place + 1; alternative(t, k) != null; k++) {
            int[] one = alternative(t, k);
            if (open(t, one)) {
                anyOpen = true;
                if (!t.queues.get(one[1]).isEmpty()) {
                    saw(Seen.MEET_BY_SELECT);
                    meet(t, t.queues.get(one[1]).get(0), one[2]);
                    return;
                }
            }
        }
        int[] counts = null;
        for (int k = t.place + 1; counts == null && alternative(t, k) != null; k++) {
            counts = alternative(t, k)[0] >= 18 ? alternative(t, k) : null;
        }
        if (counts == null && !anyOpen) {
            raise(t, 12);
        } else if (counts != null && (counts[0] == 18 || counts[0] == 19 && t.limit == 0)) {
            t.place = counts[1];
        } else {
            wait(t, 4);
            t.canTerminate = counts != null && counts[0] == 20;
            if (counts != null && counts[0] == 19) {
                until(t, t.limit, counts[1]);
            }
        }
    }

    private void done(Task t) {
        if (!t.hasOnTop(MEETING)) {
            raise(t, 12);
            return;
        }
        Task caller = t.top().caller;
        t.pop();
        caller.x = t.x;
        t.place++;
        if (caller.abortLater) {
            saw(Seen.LATER_BY_DONE);
            fall(caller, 14);
        } else {
            caller.place++;
            ready(caller);
        }
    }

    private void raise(Task t, int e) {
        while (!t.frames.isEmpty()) {
            Frame f = t.top();
            if (f.kind == BLOCK && !allTerminated(on(t, f))) {
                wait(t, 6);
                t.raised = e;
                saw(Seen.RAISE_WAITED);
                return;
            }
            t.pop();
            if (f.kind == HANDLER) {
                t.place = f.on;
                t.x = e;
                return;
            }
            if (f.kind == MEETING && f.caller.abortLater) {
                saw(Seen.LATER_BY_RAISE);
                fall(f.caller, 14);
            } else if (f.kind == MEETING) {
                saw(Seen.RAISED_IN_MEETING);
                ready(f.caller, e);
            }
        }
        row.remove(t);
        completed(t, e);
    }

    private void completed(Task t, int how) {
        t.state = 7;
        t.ended = how;
        t.raised = 0;
        for (List<Task> queue : t.queues) {
            for (Task caller : queue) {
                saw(Seen.QUEUE_LOST);
                caller.inQueue = null;
                ready(caller, 11);
            }
            queue.clear();
        }
        look(t);
    }

    /** Is a task that is COMPLETED or LEAVING still to wait? */
    private void look(Task t) {
        if (t == null) {
            return;
        }
        if (t.state == 7 && allTerminated(on(t, null))) {
            t.state = 8;
            look(t.maker);
        } else if (t.state == 6 && allTerminated(on(t, t.top()))) {
            t.pop();
            if (t.raised == 0) {
                saw(Seen.LEAVE_WAITED);
                t.place++;
            }
            ready(t);
        }
    }

    private void abort(Task t, int a) {
        if (a < tasks.size() && !tasks.get(a).gone()) {
            List<Task> all = below(List.of(tasks.get(a)));
            if (all.size() > 1) {
                saw(Seen.ABORT_MORE);
            }
            if (all.contains(t)) {
                saw(Seen.ABORT_SELF);
            }
            for (Task u : all) {
                if (u.state == 2) {
                    saw(Seen.ABORT_LATER);
                    u.abortLater = true;
                } else if (!u.gone()) {
                    fall(u, 14);
                }
            }
        }
        if (t.state == 0) {
            t.place++;
        }
    }

    private void fall(Task t, int how) {
        row.remove(t);
        if (t.inQueue != null) {
            t.inQueue.remove(t);
            t.inQueue = null;
        }
        t.state = -1;
        t.until = -1;
        t.abortLater = false;
        while (!t.frames.isEmpty()) {
            Frame f = t.top();
            t.pop();
            if (f.kind == BLOCK) {
                for (Task u : on(t, f)) {
                    saw(Seen.BLOCK_TO_TASK);
                    u.block = null;
                }
            } else if (f.kind == MEETING && f.caller.abortLater) {
                saw(Seen.LATER_BY_ABORT);
                if (f.caller.frames.stream().anyMatch(g -> g.kind == MEETING && g.caller.abortLater)) {
                    saw(Seen.LATER_IN_CHAIN);
                }
                fall(f.caller, 14);
            } else if (f.kind == MEETING) {
                saw(how == 0 ? Seen.TOGETHER_MEETING : Seen.FELL_IN_MEETING);
                ready(f.caller, 11);
            }
        }
        completed(t, how);
    }

    private boolean together() {
        for (Task t : tasks) {
            if (t.state != 6 && t.state != 7) {
                continue;
            }
            List<Task> all = below(on(t, t.state == 6 ? t.top() : null));
            if (all.stream().allMatch(u -> u.state == 8 || u.state == 4 && u.canTerminate)) {
                all.removeIf(u -> u.state == 8);
                saw(all.size() > 1 ? Seen.TOGETHER_MORE : Seen.TOGETHER_ONE);
                if (t.state == 6) {
                    saw(Seen.TOGETHER_LEAVING);
                }
                for (Task u : all) {
                    fall(u, 0);
                }
                for (Task u : all) {
                    if (u.state != 8) {
                        throw new IllegalStateException("ended together, but not TERMINATED");
                    }
                }
                return true;
            }
        }
        return false;
    }

    private boolean later() {
        int least = tasks.stream().filter(u -> u.until >= 0).mapToInt(u -> u.until).min().orElse(-1);
        if (least < 0) {
            return false;
        }
        time = least;
        for (Task u : tasks) {
            if (u.until == least) {
                if (u.state == 1) {
                    saw(Seen.LATE_BY_TIME);
                    u.inQueue.remove(u);
                    u.inQueue = null;
                }
                if (u.state == 4) {
                    saw(Seen.AFTER_BY_TIME);
                }
                u.place = u.untilPlace;
                ready(u);
            }
        }
        return true;
    }
}
