import java.util.Arrays;

/** Counts the answers that are not as due, and tells them. */
final class Check {
    private final String name;
    private String about = "";
    private int wrong = 0;
    private int made = 0;

    Check(String name) {
        this.name = name;
    }

    /** Says what the next answers are about. */
    void about(String what) {
        about = what + ": ";
    }

    void due(String call, long want, long got) {
        made++;
        if (got != want) {
            wrong++;
            System.out.println(name + ": " + about + call + " answered " + got + ", due is " + want);
        }
    }

    void run(RendezvousDesk desk, int most, int want) {
        due("run(" + most + ")", want, desk.run(most));
    }

    /** STATE, PLACE, X, what it was completed with and FRAMES of a task. */
    void task(RendezvousDesk desk, int t, int... want) {
        int[] what = {0, 1, 2, 3, 6};
        for (int k = 0; k < want.length; k++) {
            due("task(" + t + ", " + what[k] + ")", want[k], desk.task(t, what[k]));
        }
    }

    /** All that was NOTED: task, int, task, int and so on. */
    void notes(RendezvousDesk desk, int... want) {
        due("state(4)", want.length / 2, desk.state(4));
        for (int k = 0; k < want.length; k++) {
            due("noted(" + k / 2 + ", " + k % 2 + ")", want[k], desk.noted(k / 2, k % 2));
        }
    }

    /** The whole row of READY tasks. */
    void row(RendezvousDesk desk, int... want) {
        int[] padded = Arrays.copyOf(want, want.length + 1);
        padded[want.length] = -1;
        for (int k = 0; k < padded.length; k++) {
            due("ready(" + k + ")", padded[k], desk.ready(k));
        }
    }

    /** The whole QUEUE of an entry. */
    void queue(RendezvousDesk desk, int t, int entry, int... want) {
        int[] padded = Arrays.copyOf(want, want.length + 1);
        padded[want.length] = -1;
        for (int k = 0; k < padded.length; k++) {
            due("queued(" + t + ", " + entry + ", " + k + ")", padded[k], desk.queued(t, entry, k));
        }
    }

    /** How many tasks, the TIME, instructions done and turns. */
    void counts(RendezvousDesk desk, int... want) {
        for (int what = 0; what < want.length; what++) {
            due("state(" + what + ")", want[what], desk.state(what));
        }
    }

    /** Every answer about the latest run, to compare before and after a call that may not change it. */
    static String all(RendezvousDesk desk) {
        StringBuilder all = new StringBuilder();
        for (int t = -1; t <= 8; t++) {
            for (int what = -1; what <= 8; what++) {
                all.append(desk.task(t, what)).append(' ');
            }
            for (int entry = -1; entry <= 3; entry++) {
                for (int k = -1; k <= 8; k++) {
                    all.append(desk.queued(t, entry, k)).append(' ');
                }
            }
            all.append(desk.ready(t)).append(' ').append(desk.state(t)).append(' ');
        }
        for (int k = -1; k <= 61; k++) {
            all.append(desk.noted(k, 0)).append(' ').append(desk.noted(k, 1)).append(' ');
        }
        return all.toString();
    }

    /** Every test ends here: a test that compared nothing has failed, too. */
    void end() {
        if (made == 0) {
            System.out.println(name + ": nothing was compared");
        }
        if (wrong != 0 || made == 0) {
            System.exit(1);
        }
    }
}
