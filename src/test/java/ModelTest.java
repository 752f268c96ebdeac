import java.util.ArrayList;
import java.util.List;

/** Many made-up programs, each run by the program and by Model, all answers compared. */
public final class ModelTest {
    private static final Check CHECK = new Check("ModelTest");
    private static final int PROGRAMS = 150000;
    private static long seed = 20261115;

    public static void main(String[] args) {
        int[] seen = new int[Model.Seen.values().length];
        for (int n = 0; n < PROGRAMS; n++) {
            RendezvousDesk desk = new RendezvousDesk();
            List<List<int[]>> bodies = makeProgram(desk);
            for (int again = 0; again < 2; again++) {
                int most = again == 0 ? 500 : 1 + pick(60);
                Model model = new Model(bodies);
                model.run(most);
                if (!compare("program " + n + " most " + most + " ", desk, desk.run(most), model)) {
                    tell(bodies);
                    CHECK.end();
                }
                for (int k = 0; k < seen.length; k++) {
                    seen[k] += model.seen[k] > 0 ? 1 : 0;
                }
            }
        }
        for (Model.Seen what : Model.Seen.values()) {
            CHECK.due("a run with " + what, 1, seen[what.ordinal()] > 0 ? 1 : 0);
            if (args.length > 1) {
                System.out.println(what + " " + seen[what.ordinal()]);
            }
        }
        CHECK.end();
    }

    private static int pick(int bound) {
        seed = seed * 6364136223846793005L + 1442695040888963407L;
        return (int) ((seed >>> 33) % bound);
    }

    private static List<List<int[]>> makeProgram(RendezvousDesk desk) {
        List<List<int[]>> bodies = new ArrayList<>();
        boolean wild = pick(6) == 0;
        for (int body = 0; body < 4; body++) {
            List<int[]> made = wild ? makeWild() : makeLikely(body);
            for (int[] i : made) {
                CHECK.due("add", 1, desk.add(body, i[0], i[1], i[2]) > 0 ? 1 : 0);
            }
            bodies.add(made);
        }
        return bodies;
    }

    private static List<int[]> makeWild() {
        List<int[]> made = new ArrayList<>();
        int length = pick(21);
        while (made.size() < length) {
            made.add(any());
        }
        return made;
    }

    private static int[] any() {
        int op = pick(26);
        int a = pick(21);
        int b = pick(21);
        switch (op) {
            case 6 -> a = pick(4);
            case 9, 11 -> { a = pick(8); b = pick(3); }
            case 24 -> a = pick(8);
            case 10, 12 -> a = pick(4);
            case 13, 16, 17 -> a = pick(3);
            case 21 -> a = 1 + pick(9);
            default -> { }
        }
        return new int[] {op, a, b};
    }

    /** Wild rows seldom meet; these keep account of their frames, so that most of them come far. */
    private static List<int[]> makeLikely(int body) {
        List<int[]> made = new ArrayList<>();
        List<Integer> frames = new ArrayList<>();
        if (body == 0) {
            if (pick(2) == 0) {
                put(made, 7, 0, 0);
                frames.add(Model.BLOCK);
            }
            for (int n = 2 + pick(4); n > 0; n--) {
                put(made, 6, 1 + pick(3), 0);
            }
        }
        int length = made.size() + 1 + pick(17);
        while (made.size() < length) {
            grow(made, frames);
        }
        while (!frames.isEmpty() && pick(8) != 0) {
            close(made, frames);
        }
        if (pick(4) == 0) {
            put(made, 4, pick(3), 0);
        }
        return new ArrayList<>(made.subList(0, Math.min(20, made.size())));
    }

    private static void put(List<int[]> made, int op, int a, int b) {
        made.add(new int[] {op, a, b});
    }

    private static void close(List<int[]> made, List<Integer> frames) {
        int[] closing = {8, 14, 23};
        put(made, closing[frames.remove(frames.size() - 1)], 0, 0);
    }

    private static void grow(List<int[]> made, List<Integer> frames) {
        switch (pick(22)) {
            case 0, 1, 2, 3 -> put(made, 9, pick(5), pick(2));
            case 4 -> put(made, 11, pick(5), pick(2));
            case 5, 6, 7 -> {
                put(made, 13, pick(2), 0);
                frames.add(Model.MEETING);
            }
            case 8, 9 -> growSelect(made, frames);
            case 10 -> {
                put(made, 7, 0, 0);
                frames.add(Model.BLOCK);
            }
            case 11 -> {
                put(made, 22, Math.min(20, made.size() + 1 + pick(4)), 0);
                frames.add(Model.HANDLER);
            }
            case 12, 13, 14 -> {
                if (!frames.isEmpty()) {
                    close(made, frames);
                }
            }
            case 15 -> put(made, 6, 1 + pick(3), 0);
            case 16 -> put(made, 24, pick(6), 0);
            case 17 -> put(made, 12, pick(4), 0);
            case 18 -> put(made, 10, pick(4), 0);
            case 19 -> put(made, pick(2) == 0 ? 21 : 2, 1 + pick(9), 0);
            case 20 -> put(made, pick(4), pick(100), 0);
            default -> made.add(any());
        }
    }

    private static void growSelect(List<int[]> made, List<Integer> frames) {
        int count = 1 + pick(3);
        int last = pick(6);
        int behind = Math.min(20, made.size() + 1 + count + (last < 5 ? 1 : 0));
        put(made, 15, 0, 0);
        for (int n = 0; n < count; n++) {
            put(made, 16 + pick(2), pick(3), behind);
        }
        if (last < 5) {
            put(made, last < 2 ? 18 + last : 20, Math.min(20, behind + pick(3)), 0);
        }
        frames.add(Model.MEETING);
    }

    private static boolean compare(String run, RendezvousDesk desk, int result, Model model) {
        boolean same = one(run + "run", model.result, result);
        int[] states = {model.tasks.size(), model.time, model.done, model.turns, model.notes.size()};
        for (int what = 0; what < 5; what++) {
            same &= one(run + "state " + what, states[what], desk.state(what));
        }
        for (int t = 0; t < 8; t++) {
            for (int what = 0; what < 8; what++) {
                same &= one(run + "task " + t + " " + what, taskOf(model, t, what), desk.task(t, what));
            }
            for (int entry = 0; entry < 3; entry++) {
                for (int k = 0; k < 8; k++) {
                    int want = -1;
                    if (t < model.tasks.size() && k < model.tasks.get(t).queues.get(entry).size()) {
                        want = model.tasks.get(t).queues.get(entry).get(k).number;
                    }
                    same &= one(run + "queued " + t + " " + entry + " " + k, want, desk.queued(t, entry, k));
                }
            }
            int want = t < model.row.size() ? model.row.get(t).number : -1;
            same &= one(run + "ready " + t, want, desk.ready(t));
        }
        for (int k = 0; k < 62; k++) {
            boolean kept = k < 60 && k < model.notes.size();
            for (int what = 0; what < 2; what++) {
                same &= one(run + "noted " + k, kept ? model.notes.get(k)[what] : 0, desk.noted(k, what));
            }
        }
        return same;
    }

    private static boolean one(String call, int want, int got) {
        CHECK.due(call, want, got);
        return want == got;
    }

    private static int taskOf(Model model, int t, int what) {
        if (t >= model.tasks.size()) {
            return -1;
        }
        Model.Task u = model.tasks.get(t);
        int[] all = {u.state, u.place, u.x, u.ended, u.body, u.maker == null ? -1 : u.maker.number,
            u.frames.size(), u.limit};
        return all[what];
    }

    private static void tell(List<List<int[]>> bodies) {
        for (int body = 0; body < 4; body++) {
            for (int[] i : bodies.get(body)) {
                System.out.println("add(" + body + ", " + i[0] + ", " + i[1] + ", " + i[2] + ")");
            }
        }
    }
}
