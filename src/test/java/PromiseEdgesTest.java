/** The edges that the promises name, wrong arguments and refused calls: a method for each sentence. */
public final class PromiseEdgesTest {
    private static final int OVER = RendezvousDesk.OVER, STUCK = RendezvousDesk.STUCK, LONG = RendezvousDesk.LONG,
        BAD = RendezvousDesk.BAD, FULL = RendezvousDesk.FULL;
    private static final int LEAST = Integer.MIN_VALUE, MOST = Integer.MAX_VALUE;
    private static final Check CHECK = new Check("PromiseEdgesTest");

    public static void main(String[] args) {
        noInstructionsAndNoRun();
        addAnswersHowMany();
        addIsBadWithoutSuchABody();
        addIsBadWithoutSuchAnOp();
        addOfAWrongOperandAddsNothing();
        addOfAnyOperandWorks();
        addIsFullWithTwenty();
        addIsBadBeforeItIsFull();
        addLeavesWhatWasRun();
        clearAnswersHowManyItHad();
        clearIsBadWithoutSuchABody();
        clearLeavesWhatWasRun();
        runIsBadOutsideOneToFiveHundred();
        runBeginsWithTimeZeroAndNothingNoted();
        runAnswersTheSameAgain();
        taskStates();
        placeAtWhichItWaits();
        placeAtWhichItIsToRaise();
        placeAtWhichItWasCompleted();
        placeThatComesNext();
        whatItWasCompletedWith();
        onWhichItDepends();
        noSuchTask();
        noSuchWhatOfATask();
        queuedOutside();
        notedUpToSixty();
        notedOutside();
        stateCountsAllThatWasNoted();
        stateOutside();
        readyOutside();
        anAbortedCallerStaysAtItsCall();
        usedForFiveHundredAndTwelveCalls();
        CHECK.end();
    }

    private static void noInstructionsAndNoRun() {
        CHECK.about("a new object: no instructions");
        RendezvousDesk desk = new RendezvousDesk();
        for (int body = 0; body < 4; body++) {
            CHECK.due("clear(" + body + ")", 0, desk.clear(body));
        }
        CHECK.about("a new object: no run");
        for (int k = -1; k < 9; k++) {
            CHECK.due("ready(" + k + ")", -1, desk.ready(k));
            CHECK.due("noted(" + k + ", 0)", 0, desk.noted(k, 0));
            CHECK.due("noted(" + k + ", 1)", 0, desk.noted(k, 1));
            CHECK.due("state(" + k + ")", k >= 0 && k < 5 ? 0 : BAD, desk.state(k));
            for (int what = -1; what < 9; what++) {
                CHECK.due("task(" + k + ", " + what + ")", -1, desk.task(k, what));
                CHECK.due("queued(" + k + ", 0, " + what + ")", -1, desk.queued(k, 0, what));
            }
        }
        CHECK.about("a run without instructions");
        CHECK.run(desk, 1, OVER);
        CHECK.counts(desk, 1, 0, 1, 1);
        CHECK.task(desk, 0, 8, 0, 0, 0, 0);
    }

    private static void addAnswersHowMany() {
        CHECK.about("add answers how many the body has, of each body alone");
        RendezvousDesk desk = new RendezvousDesk();
        for (int n = 1; n <= 20; n++) {
            for (int body = 0; body < 4; body++) {
                CHECK.due("add(" + body + ", 0, 0, 0)", n, desk.add(body, 0, 0, 0));
            }
        }
    }

    private static void addIsBadWithoutSuchABody() {
        RendezvousDesk desk = new RendezvousDesk();
        for (int body : new int[] {-1, 4, LEAST, MOST}) {
            CHECK.about("add: BAD if there is no such body");
            CHECK.due("add(" + body + ", 0, 0, 0)", BAD, desk.add(body, 0, 0, 0));
        }
        addedNothing(desk);
    }

    private static void addIsBadWithoutSuchAnOp() {
        RendezvousDesk desk = new RendezvousDesk();
        for (int op : new int[] {-1, 26, LEAST, MOST}) {
            CHECK.about("add: BAD if there is no such op");
            CHECK.due("add(0, " + op + ", 1, 1)", BAD, desk.add(0, op, 1, 1));
        }
        addedNothing(desk);
        CHECK.about("add of the first and the last op");
        CHECK.due("add(1, 0, 1, 1)", 1, desk.add(1, 0, 1, 1));
        CHECK.due("add(1, 25, 1, 1)", 2, desk.add(1, 25, 1, 1));
    }

    /** Rows of op, the least a, the greatest a, the least b, the greatest b; LEAST to MOST is any. */
    private static void addOfAWrongOperandAddsNothing() {
        int[][] bounds = {{4, 0, 20, LEAST, MOST}, {5, 0, 20, LEAST, MOST}, {18, 0, 20, LEAST, MOST}, {19, 0, 20, LEAST, MOST},
            {22, 0, 20, LEAST, MOST}, {16, 0, 2, 0, 20}, {17, 0, 2, 0, 20}, {6, 0, 3, LEAST, MOST}, {9, 0, 7, 0, 2},
            {11, 0, 7, 0, 2}, {24, 0, 7, LEAST, MOST}, {10, 0, 99, LEAST, MOST}, {12, 0, 99, LEAST, MOST},
            {13, 0, 2, LEAST, MOST}, {21, 1, 9, LEAST, MOST}};
        for (int[] row : bounds) {
            CHECK.about("add: operands of " + row[0]);
            RendezvousDesk desk = new RendezvousDesk();
            for (int a : new int[] {LEAST, row[1] - 1, row[2] + 1, MOST}) {
                CHECK.due("add with a " + a, BAD, desk.add(0, row[0], a, 0));
            }
            if (row[3] != LEAST) {
                for (int b : new int[] {LEAST, row[3] - 1, row[4] + 1, MOST}) {
                    CHECK.due("add with b " + b, BAD, desk.add(0, row[0], row[1], b));
                }
            }
            addedNothing(desk);
            int count = 0;
            for (int a : new int[] {row[1], row[2]}) {
                for (int b : new int[] {row[3], row[4]}) {
                    count++;
                    CHECK.due("add with a " + a + " and b " + b, count, desk.add(0, row[0], a, b));
                }
            }
        }
    }

    private static void addedNothing(RendezvousDesk desk) {
        for (int body = 0; body < 4; body++) {
            CHECK.due("clear(" + body + ") after refused calls", 0, desk.clear(body));
        }
    }

    private static void addOfAnyOperandWorks() {
        for (int any : new int[] {LEAST, -1, 100, MOST}) {
            CHECK.about("others are any, or not looked at: " + any);
            RendezvousDesk desk = new RendezvousDesk();
            int count = 0;
            for (int op : new int[] {0, 2, 1, 3, 7, 8}) {
                count++;
                CHECK.due("add(0, " + op + ", ..)", count, desk.add(0, op, any, any));
            }
            CHECK.due("add HANDLE", 7, desk.add(0, 22, 8, any));
            CHECK.due("add OVER", 8, desk.add(0, 23, any, any));
            CHECK.due("add DELAY", 9, desk.add(0, 12, 2, any));
            CHECK.due("add TASK", 10, desk.add(0, 6, 1, any));
            CHECK.due("add ABORT", 11, desk.add(0, 24, 1, any));
            CHECK.due("add ZERO", 12, desk.add(0, 5, 20, any));
            CHECK.due("add GO", 13, desk.add(0, 4, 14, any));
            CHECK.due("add DONE", 14, desk.add(0, 14, any, any));
            CHECK.due("add SELECT", 15, desk.add(0, 15, any, any));
            CHECK.due("add TERMINATE", 16, desk.add(0, 20, any, any));
            CHECK.due("add END", 1, desk.add(1, 25, any, any));
            CHECK.run(desk, 500, STUCK);
            CHECK.notes(desk, 0, any, 0, any);
            CHECK.task(desk, 0, 4, 14, 1, -1, 0);
            CHECK.counts(desk, 2, 2);
        }
    }

    private static void addIsFullWithTwenty() {
        for (int body = 0; body < 4; body++) {
            CHECK.about("add: FULL if body " + body + " has 20");
            RendezvousDesk desk = Script.desk(body == 0 ? "" : "TASK " + body);
            for (int n = 1; n <= 20; n++) {
                CHECK.due("add " + n, n, desk.add(body, 0, n, 0));
            }
            CHECK.due("add 21", FULL, desk.add(body, 0, 21, 0));
            CHECK.due("add 21 again", FULL, desk.add(body, 25, 0, 0));
            CHECK.due("add to another one", 1, desk.add(body == 3 ? 2 : body + 1, 0, 99, 0));
            CHECK.run(desk, 500, OVER);
            CHECK.due("how many were NOTED", 20, desk.state(4));
            for (int n = 1; n <= 20; n++) {
                CHECK.due("noted(" + (n - 1) + ", 1)", n, desk.noted(n - 1, 1));
            }
            CHECK.due("clear", 20, desk.clear(body));
            CHECK.due("add after clear", 1, desk.add(body, 0, 0, 0));
        }
    }

    private static void addIsBadBeforeItIsFull() {
        CHECK.about("add: BAD is tested before FULL");
        RendezvousDesk desk = Script.desk("PUT 1; ".repeat(20));
        CHECK.due("a fitting one", FULL, desk.add(0, 4, 20, 0));
        CHECK.due("a wrong op", BAD, desk.add(0, 26, 0, 0));
        CHECK.due("a wrong a", BAD, desk.add(0, 4, 21, 0));
        CHECK.due("a wrong b", BAD, desk.add(0, 9, 0, 3));
        CHECK.due("a wrong body", BAD, desk.add(4, 0, 0, 0));
        CHECK.due("clear", 20, desk.clear(0));
    }

    private static RendezvousDesk afterARun() {
        RendezvousDesk desk = Script.desk("TASK 1; TASK 2; SET 6; LIMIT 9; DELAY 4; BLOCK; PUT 8; CALL 1 2; PUT 9",
            "ACCEPT 0; SELECT; WHEN 1 3; RAISE 3", "CALL 1 0; PUT 1");
        CHECK.run(desk, 500, STUCK);
        CHECK.counts(desk, 3, 4, 11, 6, 1);
        CHECK.queue(desk, 1, 2, 0);
        return desk;
    }

    private static void same(RendezvousDesk desk, String before) {
        CHECK.due("all answers stay", 1, Check.all(desk).equals(before) ? 1 : 0);
    }

    private static void addLeavesWhatWasRun() {
        CHECK.about("add: what was run stays");
        RendezvousDesk desk = afterARun();
        String before = Check.all(desk);
        for (int body = 0; body < 4; body++) {
            desk.add(body, 25, 0, 0);
            desk.add(body, 26, 0, 0);
        }
        same(desk, before);
    }

    private static void clearAnswersHowManyItHad() {
        for (int count : new int[] {0, 1, 19, 20}) {
            for (int body = 0; body < 4; body++) {
                CHECK.about("clear answers how many it had: " + count + " in body " + body);
                RendezvousDesk desk = Script.desk("PUT 1", "PUT 1", "PUT 1", "PUT 1");
                Script.write(desk, body, "PUT 2; ".repeat(count));
                CHECK.due("clear", count, desk.clear(body));
                CHECK.due("clear again", 0, desk.clear(body));
                for (int other = 0; other < 4; other++) {
                    CHECK.due("clear of " + other, other == body ? 0 : 1, desk.clear(other));
                }
            }
        }
        CHECK.about("a body that was cleared has no instructions");
        RendezvousDesk desk = Script.desk("PUT 1; PUT 2");
        desk.clear(0);
        CHECK.run(desk, 1, OVER);
        CHECK.notes(desk);
        desk.add(0, 0, 5, 0);
        CHECK.run(desk, 2, OVER);
        CHECK.notes(desk, 0, 5);
    }

    private static void clearIsBadWithoutSuchABody() {
        CHECK.about("clear: BAD without such a body");
        RendezvousDesk desk = Script.desk("PUT 1", "PUT 1", "PUT 1", "PUT 1");
        for (int body : new int[] {-1, 4, LEAST, MOST}) {
            CHECK.due("clear(" + body + ")", BAD, desk.clear(body));
        }
        for (int body = 0; body < 4; body++) {
            CHECK.due("clear(" + body + ")", 1, desk.clear(body));
        }
    }

    private static void clearLeavesWhatWasRun() {
        CHECK.about("clear: what was run stays");
        RendezvousDesk desk = afterARun();
        String before = Check.all(desk);
        for (int body = -1; body <= 4; body++) {
            desk.clear(body);
            same(desk, before);
        }
    }

    private static void runIsBadOutsideOneToFiveHundred() {
        int[] wrong = {0, -1, 501, LEAST, MOST};
        CHECK.about("run: BAD, and nothing changes, before any run");
        RendezvousDesk desk = Script.desk("PUT 3; GO 0");
        String none = Check.all(new RendezvousDesk());
        for (int most : wrong) {
            CHECK.run(desk, most, BAD);
            same(desk, none);
        }
        CHECK.about("run: the least and the greatest");
        CHECK.run(desk, 1, LONG);
        CHECK.due("instructions done", 1, desk.state(2));
        CHECK.run(desk, 500, LONG);
        CHECK.due("instructions done", 500, desk.state(2));
        CHECK.about("run: BAD, and nothing changes, after a run");
        desk = afterARun();
        String before = Check.all(desk);
        for (int most : wrong) {
            CHECK.run(desk, most, BAD);
            same(desk, before);
        }
        for (int body = 0; body < 3; body++) {
            CHECK.due("clear(" + body + ")", new int[] {9, 4, 2}[body], desk.clear(body));
        }
    }

    private static void runBeginsWithTimeZeroAndNothingNoted() {
        CHECK.about("a RUN, with the TIME 0 and nothing NOTED");
        RendezvousDesk desk = afterARun();
        Script.write(desk, 0, "END");
        CHECK.run(desk, 1, OVER);
        RendezvousDesk fresh = Script.desk("END");
        CHECK.run(fresh, 1, OVER);
        same(desk, Check.all(fresh));
        CHECK.about("a RUN, with empty QUEUES");
        desk = Script.desk("TASK 1; CALL 0 0", "CALL 0 0");
        CHECK.run(desk, 500, STUCK);
        CHECK.queue(desk, 0, 0, 0, 1);
        Script.write(desk, 0, "END");
        CHECK.run(desk, 1, OVER);
        same(desk, Check.all(fresh));
        CHECK.about("a RUN, in which no one is to be aborted");
        desk = Script.desk("TASK 1; TASK 2; DELAY 1; ABORT 2; ACCEPT 1", "ACCEPT 0; ACCEPT 1", "CALL 1 0; PUT 1");
        CHECK.run(desk, 500, STUCK);
        CHECK.task(desk, 2, 2, 0, 0, -1, 0);
        Script.write(desk, 0, "TASK 1; TASK 2");
        Script.write(desk, 1, "ACCEPT 0; DONE");
        CHECK.run(desk, 500, OVER);
        CHECK.task(desk, 2, 8, 2, 0, 0, 0);
        CHECK.notes(desk, 2, 1);
    }

    private static void runAnswersTheSameAgain() {
        CHECK.about("the same run again");
        RendezvousDesk desk = afterARun();
        String before = Check.all(desk);
        CHECK.run(desk, 7, LONG);
        CHECK.run(desk, 500, STUCK);
        same(desk, before);
    }

    private static void taskStates() {
        String[] ways = {"GO 0", "CALL 0 0", "CALL 2 0", "ACCEPT 0", "SELECT; WHEN 0 0", "DELAY 9", "BLOCK; TASK 3; LEAVE",
            "TASK 3", "END"};
        for (int state = 0; state <= 8; state++) {
            CHECK.about("STATE " + state);
            RendezvousDesk desk = Script.desk("TASK 1; TASK 2; GO 2", ways[state], "ACCEPT 0; GO 1", "GO 0");
            CHECK.run(desk, 100, LONG);
            CHECK.due("task(1, 0)", state, desk.task(1, 0));
        }
    }

    private static void placeAtWhichItWaits() {
        String[] waits = {"CALL 0 0", "CALL 2 0", "ACCEPT 0", "SELECT; WHEN 0 0", "DELAY 9", "LIMIT 9; LATE 0 0",
            "LIMIT 9; SELECT; AFTER 0", "BLOCK; TASK 3; LEAVE", "BLOCK; TASK 3; RAISE 1"};
        int[] places = {1, 1, 1, 1, 1, 2, 2, 3, 3};
        for (int n = 0; n < waits.length; n++) {
            CHECK.about("PLACE: the instruction at which it waits: " + waits[n]);
            RendezvousDesk desk = Script.desk("TASK 1; TASK 2; GO 2", "PUT 1; " + waits[n], "ACCEPT 0; GO 1", "GO 0");
            CHECK.run(desk, 100, LONG);
            CHECK.due("task(1, 1)", places[n], desk.task(1, 1));
        }
    }

    private static void placeAtWhichItIsToRaise() {
        for (String call : new String[] {"CALL", "LATE"}) {
            CHECK.about("PLACE: the instruction at which it is to raise something: " + call);
            RendezvousDesk desk = Script.desk("TASK 1; TASK 2; GO 2", "PUT 1; ACCEPT 0; RAISE 3",
                "LIMIT 9; " + call + " 1 0; PUT 1");
            CHECK.run(desk, 12, LONG);
            CHECK.task(desk, 1, 8, 2, 0, 3, 0);
            CHECK.task(desk, 2, 0, 1, 0, -1, 0);
            CHECK.row(desk, 0, 2);
        }
        CHECK.about("PLACE: the instruction at which it is to raise something, having waited for a BLOCK");
        RendezvousDesk desk = Script.desk("TASK 1; BLOCK; TASK 2; RAISE 4", "GO 0", "DELAY 0; DELAY 0; DELAY 0; END");
        CHECK.run(desk, 14, LONG);
        CHECK.task(desk, 0, 0, 3, 2, -1, 0);
    }

    private static void placeAtWhichItWasCompleted() {
        String[] ends = {"END", "RAISE 1", "CALL 7 0", "DONE", "ABORT 0", "GO 20", "PUT 2"};
        int[] places = {1, 1, 1, 1, 1, 20, 2};
        for (int n = 0; n < ends.length; n++) {
            CHECK.about("PLACE: the instruction at which it was completed: " + ends[n]);
            RendezvousDesk desk = Script.desk("PUT 1; " + ends[n]);
            CHECK.run(desk, 500, OVER);
            CHECK.due("task(0, 1)", places[n], desk.task(0, 1));
        }
        CHECK.about("PLACE: the SELECT at which it was completed by TERMINATE");
        RendezvousDesk desk = Script.desk("TASK 1", "PUT 1; SELECT; TERMINATE");
        CHECK.run(desk, 500, OVER);
        CHECK.due("task(1, 1)", 1, desk.task(1, 1));
    }

    private static void placeThatComesNext() {
        String[] rows = {"PUT 1; PUT 2", "GO 7", "ZERO 9", "HANDLE 4", "BLOCK", "SELECT; ELSE 6", "LATE 0 0", "TASK 1",
            "ABORT 5"};
        int[] places = {1, 7, 9, 1, 1, 6, 2, 1, 1};
        for (int n = 0; n < rows.length; n++) {
            CHECK.about("PLACE: else the one that comes next: " + rows[n]);
            RendezvousDesk desk = Script.desk(rows[n]);
            CHECK.run(desk, 1, LONG);
            CHECK.due("task(0, 1)", places[n], desk.task(0, 1));
        }
    }

    private static void whatItWasCompletedWith() {
        CHECK.about("what it was completed with");
        RendezvousDesk desk = Script.desk("TASK 1; TASK 2; TASK 3; DELAY 1; ABORT 3; RAISE 6", "END",
            "SELECT; TERMINATE", "ACCEPT 0");
        CHECK.run(desk, 6, LONG);
        int[] before = {-1, 0, -1, -1};
        for (int t = 0; t < 4; t++) {
            CHECK.due("task(" + t + ", 3)", before[t], desk.task(t, 3));
        }
        CHECK.run(desk, 500, OVER);
        int[] due = {6, 0, 0, 14};
        for (int t = 0; t < 4; t++) {
            CHECK.due("task(" + t + ", 3)", due[t], desk.task(t, 3));
        }
    }

    private static void onWhichItDepends() {
        CHECK.about("the task on which, or on a BLOCK of which, it depends, -1 for task 0");
        RendezvousDesk desk = Script.desk("TASK 1; BLOCK; TASK 2; ACCEPT 0", "TASK 3", "BLOCK; TASK 3; LEAVE", "END");
        CHECK.run(desk, 500, STUCK);
        int[] due = {-1, 0, 0, 1, 2};
        for (int t = 0; t < 5; t++) {
            CHECK.due("task(" + t + ", 5)", due[t], desk.task(t, 5));
        }
    }

    private static void noSuchTask() {
        CHECK.about("task: -1 if there is none");
        RendezvousDesk desk = afterARun();
        for (int t : new int[] {-1, 3, 7, 8, LEAST, MOST}) {
            for (int what = 0; what < 8; what++) {
                CHECK.due("task(" + t + ", " + what + ")", -1, desk.task(t, what));
            }
        }
        CHECK.about("task: a task of an earlier run alone");
        Script.write(desk, 0, "END");
        CHECK.run(desk, 500, OVER);
        for (int what = 0; what < 8; what++) {
            CHECK.due("task(1, " + what + ")", -1, desk.task(1, what));
        }
    }

    private static void noSuchWhatOfATask() {
        CHECK.about("task: -1 for others");
        RendezvousDesk desk = afterARun();
        for (int what : new int[] {-1, 8, LEAST, MOST}) {
            for (int t = 0; t < 3; t++) {
                CHECK.due("task(" + t + ", " + what + ")", -1, desk.task(t, what));
            }
        }
    }

    private static void queuedOutside() {
        CHECK.about("queued: -1 if there is none");
        RendezvousDesk desk = Script.desk("TASK 1; TASK 2; TASK 2; CALL 1 2", "ACCEPT 0", "CALL 1 2");
        CHECK.run(desk, 500, STUCK);
        CHECK.queue(desk, 1, 2, 2, 3, 0);
        for (int far : new int[] {-1, 3, 8, LEAST, MOST}) {
            CHECK.due("queued(1, 2, " + far + ")", -1, desk.queued(1, 2, far));
            CHECK.due("queued(1, " + far + ", 0)", -1, desk.queued(1, far, 0));
        }
        for (int t : new int[] {-1, 4, 7, 8, LEAST, MOST}) {
            CHECK.due("queued(" + t + ", 2, 0)", -1, desk.queued(t, 2, 0));
        }
        CHECK.due("queued(2, -1, 0), the QUEUE before", -1, desk.queued(2, -1, 0));
        CHECK.due("queued(0, 5, 0), the QUEUE behind", -1, desk.queued(0, 5, 0));
        CHECK.about("queued: there is no entry 3, nor a task 8");
        desk = Script.desk("TASK 1; ".repeat(7) + "CALL 1 0", "CALL 1 0");
        CHECK.run(desk, 500, STUCK);
        CHECK.due("queued(1, 0, 0)", 1, desk.queued(1, 0, 0));
        CHECK.due("queued(0, 3, 0)", -1, desk.queued(0, 3, 0));
        CHECK.due("queued(8, 0, 0)", -1, desk.queued(8, 0, 0));
        CHECK.due("queued(1, 0, 7)", 7, desk.queued(1, 0, 7));
        CHECK.due("queued(1, 0, 8)", -1, desk.queued(1, 0, 8));
        desk = Script.desk("TASK 1; TASK 2; TASK 2; CALL 1 2", "ACCEPT 0", "CALL 1 2");
        CHECK.run(desk, 500, STUCK);
        CHECK.about("queued: of an earlier run alone");
        Script.write(desk, 0, "TASK 1; ACCEPT 1");
        CHECK.run(desk, 500, STUCK);
        CHECK.queue(desk, 1, 2);
    }

    private static void notedUpToSixty() {
        CHECK.about("noted: the first 60 are kept");
        RendezvousDesk desk = Script.desk("TASK 1; ACCEPT 0", "ADD 1; SHOW; GO 0");
        CHECK.run(desk, 2 + 59 * 3, LONG);
        CHECK.due("state(4)", 59, desk.state(4));
        CHECK.due("noted(58, 1)", 59, desk.noted(58, 1));
        CHECK.due("noted(59, 0)", 0, desk.noted(59, 0));
        CHECK.due("noted(59, 1)", 0, desk.noted(59, 1));
        CHECK.run(desk, 2 + 60 * 3, LONG);
        CHECK.due("noted(59, 0)", 1, desk.noted(59, 0));
        CHECK.due("noted(59, 1)", 60, desk.noted(59, 1));
        CHECK.run(desk, 2 + 61 * 3, LONG);
        for (int k = 0; k < 60; k++) {
            CHECK.due("noted(" + k + ", 0)", 1, desk.noted(k, 0));
            CHECK.due("noted(" + k + ", 1)", k + 1, desk.noted(k, 1));
        }
        CHECK.due("noted(60, 0)", 0, desk.noted(60, 0));
        CHECK.due("noted(60, 1)", 0, desk.noted(60, 1));
        CHECK.run(desk, 500, LONG);
        CHECK.due("noted(59, 1)", 60, desk.noted(59, 1));
        CHECK.due("noted(60, 1)", 0, desk.noted(60, 1));
    }

    private static void notedOutside() {
        CHECK.about("noted: 0 if there is none, or for others");
        RendezvousDesk desk = Script.desk("TASK 1; ACCEPT 0", "PUT 7; PUT 8");
        CHECK.run(desk, 500, STUCK);
        CHECK.notes(desk, 1, 7, 1, 8);
        for (int k : new int[] {-1, 2, 59, 60, LEAST, MOST}) {
            CHECK.due("noted(" + k + ", 0)", 0, desk.noted(k, 0));
            CHECK.due("noted(" + k + ", 1)", 0, desk.noted(k, 1));
        }
        for (int what : new int[] {-1, 2, LEAST, MOST}) {
            CHECK.due("noted(0, " + what + ")", 0, desk.noted(0, what));
        }
        CHECK.about("noted: of an earlier run alone");
        Script.write(desk, 1, "PUT 5");
        CHECK.run(desk, 500, STUCK);
        CHECK.notes(desk, 1, 5);
        CHECK.due("noted(1, 0)", 0, desk.noted(1, 0));
        CHECK.due("noted(1, 1)", 0, desk.noted(1, 1));
    }

    private static void stateCountsAllThatWasNoted() {
        CHECK.about("state(4): how many ints were NOTED, also behind the first 60");
        RendezvousDesk desk = Script.desk("PUT 1; GO 0");
        for (int count : new int[] {59, 60, 61, 250}) {
            CHECK.run(desk, 2 * count, LONG);
            CHECK.due("state(4)", count, desk.state(4));
        }
    }

    private static void stateOutside() {
        CHECK.about("state: BAD for others");
        RendezvousDesk desk = afterARun();
        for (int what : new int[] {-1, 5, LEAST, MOST}) {
            CHECK.due("state(" + what + ")", BAD, desk.state(what));
        }
    }

    private static void readyOutside() {
        CHECK.about("ready: -1 if there is none");
        RendezvousDesk desk = Script.desk("TASK 1; TASK 1; GO 2", "GO 0");
        CHECK.run(desk, 3, LONG);
        CHECK.row(desk, 1, 2, 0);
        for (int k : new int[] {-1, 3, 7, 8, LEAST, MOST}) {
            CHECK.due("ready(" + k + ")", -1, desk.ready(k));
        }
        CHECK.about("ready: all eight");
        desk = Script.desk("TASK 1; ".repeat(7) + "GO 7", "GO 0");
        CHECK.run(desk, 7 + 3 * 9, LONG);
        boolean[] seen = new boolean[8];
        for (int k = 0; k < 8; k++) {
            int t = desk.ready(k);
            CHECK.due("ready(" + k + ") is another one", 1, t >= 0 && t < 8 && !seen[t] ? 1 : 0);
            seen[t < 0 ? 0 : t] = true;
        }
        CHECK.due("ready(8)", -1, desk.ready(8));
        CHECK.about("ready: none when the run is STUCK or OVER");
        desk = Script.desk("ACCEPT 0");
        CHECK.run(desk, 500, STUCK);
        CHECK.row(desk);
        Script.write(desk, 0, "END");
        CHECK.run(desk, 500, OVER);
        CHECK.row(desk);
    }

    private static void usedForFiveHundredAndTwelveCalls() {
        CHECK.about("an object is used for at most 512 calls");
        RendezvousDesk desk = new RendezvousDesk();
        for (int n = 0; n < 128; n++) {
            CHECK.due("add, call " + (4 * n + 1), n % 20 + 1, desk.add(0, 0, n, 0));
            CHECK.due("run, call " + (4 * n + 2), OVER, desk.run(500));
            CHECK.due("noted, call " + (4 * n + 3), n, desk.noted(n % 20, 1));
            CHECK.due("the fourth, call " + (4 * n + 4), n % 20 == 19 ? 20 : n % 20 + 1,
                n % 20 == 19 ? desk.clear(0) : desk.state(4));
        }
    }

    private static void anAbortedCallerStaysAtItsCall() {
        for (String call : new String[] {"CALL", "LATE"}) {
            CHECK.about("a caller that is aborted because its MEETING ends stays at its call: " + call);
            RendezvousDesk desk = Script.desk("TASK 1; TASK 2; DELAY 1; ABORT 2; ACCEPT 0", "ACCEPT 0; DELAY 5; SET 7; DONE",
                "LIMIT 9; SET 3; " + call + " 1 0; PUT 1");
            CHECK.run(desk, 500, STUCK);
            CHECK.about("with DONE its X has become that of the task all the same: " + call);
            CHECK.task(desk, 2, 8, 2, 7, 14, 0);
            CHECK.about("without DONE its X stays: " + call);
            Script.write(desk, 1, "ACCEPT 0; DELAY 5; SET 7; RAISE 2");
            CHECK.run(desk, 500, STUCK);
            CHECK.task(desk, 2, 8, 2, 3, 14, 0);
            CHECK.task(desk, 1, 8, 3, 7, 2, 0);
        }
    }
}
