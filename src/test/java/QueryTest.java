/** Promises 5 to 9 with wrong arguments and at their edges. */
public final class QueryTest {
    private static final int[] FAR = {-1, Integer.MIN_VALUE, Integer.MAX_VALUE};
    private static final Check CHECK = new Check("QueryTest");

    public static void main(String[] args) {
        taskAnswers();
        queuedAnswers();
        notedAnswers();
        stateAnswers();
        readyAnswers();
        answersAfterEachResult();
        CHECK.end();
    }

    private static void taskAnswers() {
        CHECK.about("task");
        RendezvousDesk desk = Script.desk("SET 6; LIMIT 9; BLOCK; TASK 3; LEAVE", "", "",
            "LIMIT 4; SET -3; HANDLE 0; ACCEPT 1");
        desk.run(500);
        int[][] due = {{6, 4, 1, -1, 0, -1, 1, 9}, {3, 3, -3, -1, 3, 0, 1, 4}};
        for (int t = 0; t < 2; t++) {
            for (int what = 0; what < 8; what++) {
                CHECK.due("task(" + t + ", " + what + ")", due[t][what], desk.task(t, what));
            }
            CHECK.due("task(" + t + ", 8)", -1, desk.task(t, 8));
            for (int far : FAR) {
                CHECK.due("task(" + t + ", " + far + ")", -1, desk.task(t, far));
            }
        }
        for (int what = 0; what < 8; what++) {
            CHECK.due("task(2, " + what + ")", -1, desk.task(2, what));
            CHECK.due("task(8, " + what + ")", -1, desk.task(8, what));
            for (int far : FAR) {
                CHECK.due("task(" + far + ", " + what + ")", -1, desk.task(far, what));
            }
        }
    }

    private static void queuedAnswers() {
        CHECK.about("queued");
        RendezvousDesk desk = Script.desk(
            "TASK 1; TASK 1; TASK 1; TASK 1; TASK 1; TASK 1; TASK 1; CALL 0 2", "CALL 0 2");
        CHECK.due("run", RendezvousDesk.STUCK, desk.run(500));
        CHECK.queue(desk, 0, 2, 1, 2, 3, 4, 5, 6, 0, 7);
        CHECK.queue(desk, 0, 0);
        CHECK.queue(desk, 0, 1);
        CHECK.due("queued(0, 3, 0)", -1, desk.queued(0, 3, 0));
        CHECK.due("queued(8, 0, 0)", -1, desk.queued(8, 0, 0));
        Script.write(desk, 0, "TASK 1; TASK 1; CALL 1 0");
        desk.run(500);
        CHECK.queue(desk, 1, 0, 0);
        CHECK.due("queued(0, 3, 0), with a caller of the next task", -1, desk.queued(0, 3, 0));
        CHECK.due("queued(2, -3, 0), with a caller of the task before", -1, desk.queued(2, -3, 0));
        Script.write(desk, 0, "TASK 1; TASK 1; TASK 1; TASK 1; TASK 1; TASK 1; TASK 1; CALL 0 2");
        desk.run(500);
        for (int far : FAR) {
            CHECK.due("queued of task " + far, -1, desk.queued(far, 2, 0));
            CHECK.due("queued of entry " + far, -1, desk.queued(0, far, 0));
            CHECK.due("queued " + far, -1, desk.queued(0, 2, far));
        }
        Script.write(desk, 0, "END");
        desk.run(500);
        for (int t = 0; t < 8; t++) {
            CHECK.queue(desk, t, 2);
        }
    }

    private static void notedAnswers() {
        CHECK.about("noted");
        RendezvousDesk desk = Script.desk("SHOW; ADD 1; GO 0");
        desk.run(183);
        CHECK.due("state(4)", 61, desk.state(4));
        for (int k = 0; k < 60; k++) {
            CHECK.due("noted(" + k + ", 1)", k, desk.noted(k, 1));
        }
        CHECK.due("noted(60, 1)", 0, desk.noted(60, 1));
        desk.run(500);
        CHECK.due("state(4)", 167, desk.state(4));
        CHECK.due("noted(59, 1)", 59, desk.noted(59, 1));
        CHECK.due("noted(60, 1)", 0, desk.noted(60, 1));
        for (int far : FAR) {
            CHECK.due("noted(" + far + ", 1)", 0, desk.noted(far, 1));
            CHECK.due("noted(5, " + far + ")", 0, desk.noted(5, far));
        }
        CHECK.due("noted(5, 2)", 0, desk.noted(5, 2));
        desk = Script.desk("TASK 1; TASK 1; PUT 3; PUT 0", "PUT 4");
        desk.run(500);
        CHECK.notes(desk, 0, 3, 1, 4, 2, 4, 0, 0);
        CHECK.due("noted(4, 0)", 0, desk.noted(4, 0));
        Script.write(desk, 0, "PUT 1");
        desk.run(500);
        CHECK.notes(desk, 0, 1);
        CHECK.due("noted(1, 0) after another run", 0, desk.noted(1, 0));
        CHECK.due("noted(1, 1) after another run", 0, desk.noted(1, 1));
    }

    private static void stateAnswers() {
        CHECK.about("state");
        RendezvousDesk desk = Script.desk("TASK 1; PUT 1; PUT 2; PUT 3; DELAY 6; DELAY 7", "END");
        desk.run(500);
        CHECK.counts(desk, 2, 13, 8, 5, 3);
        CHECK.due("state(5)", RendezvousDesk.BAD, desk.state(5));
        for (int far : FAR) {
            CHECK.due("state(" + far + ")", RendezvousDesk.BAD, desk.state(far));
        }
    }

    private static void readyAnswers() {
        CHECK.about("ready");
        RendezvousDesk desk = Script.desk("TASK 1; TASK 1; TASK 1; TASK 1; TASK 1; TASK 1; TASK 1; GO 7", "GO 0");
        desk.run(7);
        CHECK.row(desk, 2, 3, 0, 1);
        desk.run(41);
        for (int k = 0; k < 8; k++) {
            CHECK.due("ready(" + k + ") of eight", 1, desk.ready(k) >= 0 ? 1 : 0);
        }
        CHECK.due("ready(8)", -1, desk.ready(8));
        for (int far : FAR) {
            CHECK.due("ready(" + far + ")", -1, desk.ready(far));
        }
    }

    private static void answersAfterEachResult() {
        CHECK.about("the row is empty");
        RendezvousDesk desk = Script.desk("TASK 1; ACCEPT 0", "END");
        CHECK.due("run", RendezvousDesk.STUCK, desk.run(500));
        CHECK.row(desk);
        desk = Script.desk("TASK 1", "END");
        CHECK.due("run", RendezvousDesk.OVER, desk.run(500));
        CHECK.row(desk);
        CHECK.about("constants");
        CHECK.due("OVER", 0, RendezvousDesk.OVER);
        CHECK.due("STUCK", 1, RendezvousDesk.STUCK);
        CHECK.due("LONG", 2, RendezvousDesk.LONG);
        CHECK.due("BAD", -1, RendezvousDesk.BAD);
        CHECK.due("FULL", -2, RendezvousDesk.FULL);
    }
}
