/** The edges that the Terms name under MEETING: a method for each sentence. */
public final class MeetingEdgesTest {
    private static final int OVER = RendezvousDesk.OVER, STUCK = RendezvousDesk.STUCK, LONG = RendezvousDesk.LONG;
    private static final int LEAST = Integer.MIN_VALUE, MOST = Integer.MAX_VALUE;
    private static final String[] CALLS = {"CALL", "LATE", "LIMIT 5; LATE"};
    private static final Check CHECK = new Check("MeetingEdgesTest");

    public static void main(String[] args) {
        aCallOfATaskThatIsNotThere();
        aCallOfACompletedOne();
        aCallOfATerminatedOne();
        aCallOfTheLastTask();
        aCallOfItself();
        aCallOfOneThatDoesSomethingElse();
        theEndOfTheQueue();
        acceptingThisEntry();
        selectingWithTheFirstOpenOne();
        theTaskIsReadyBehindTheOthers();
        acceptTakesTheFirstOfTheQueue();
        acceptWaitsWithAnEmptyQueue();
        selectTakesTheFirstAlternativeWhoseQueueHasSome();
        theTaskGoesOn();
        xGoesToTheTaskAndBack();
        xStaysWithoutDone();
        theCallerIsBehindItsCall();
        onAtZero();
        aMeetingComesBeforeElse();
        justTheFirstOneCounts();
        elseIsAtOnce();
        afterWithLimitZero();
        afterWithTheLeastAndTheGreatestLimit();
        afterAndACallAtTheSameTime();
        nothingOpen();
        nothingOpenButAnother();
        somethingOpenIsWaitedFor();
        CHECK.end();
    }

    private static void aCallOfATaskThatIsNotThere() {
        for (String call : CALLS) {
            for (int a : new int[] {2, 7}) {
                CHECK.about("a call raises 11 if there is no task: " + call + " " + a);
                RendezvousDesk desk = Script.desk("TASK 1; HANDLE 6; " + call + " " + a + " 0; PUT 1; PUT 2; PUT 3; SHOW", "ACCEPT 0");
                CHECK.run(desk, 500, STUCK);
                CHECK.due("the last one NOTED", 11, desk.noted(desk.state(4) - 1, 1));
                CHECK.due("X", 11, desk.task(0, 2));
                CHECK.task(desk, 1, 3, 0, 0, -1, 0);
            }
            CHECK.about("a call raises 11 if there is no task, unhandled: " + call);
            RendezvousDesk desk = Script.desk("SET 3; " + call + " 1 0");
            CHECK.run(desk, 500, OVER);
            CHECK.task(desk, 0, 8, call.startsWith("LIMIT") ? 2 : 1, 3, 11, 0);
        }
    }

    private static void aCallOfACompletedOne() {
        for (String call : CALLS) {
            CHECK.about("a call raises 11 if the task is COMPLETED: " + call);
            RendezvousDesk desk = Script.desk("TASK 1; DELAY 1; " + call + " 1 0", "TASK 2", "ACCEPT 0");
            CHECK.run(desk, 500, STUCK);
            CHECK.task(desk, 1, 7, 1, 2, 0, 0);
            CHECK.task(desk, 0, 7, call.startsWith("LIMIT") ? 3 : 2, 1, 11, 0);
            CHECK.queue(desk, 1, 0);
        }
    }

    private static void aCallOfATerminatedOne() {
        for (String call : CALLS) {
            CHECK.about("a call raises 11 if the task is TERMINATED: " + call);
            RendezvousDesk desk = Script.desk("TASK 1; DELAY 1; " + call + " 1 0", "");
            CHECK.run(desk, 500, OVER);
            CHECK.task(desk, 0, 8, call.startsWith("LIMIT") ? 3 : 2, 1, 11, 0);
        }
    }

    private static void aCallOfTheLastTask() {
        CHECK.about("a call of task 7, of entry 2");
        RendezvousDesk desk = Script.desk("TASK 1; ".repeat(7) + "CALL 7 2", "ACCEPT 1");
        CHECK.run(desk, 500, STUCK);
        CHECK.task(desk, 0, 1, 7, 7, -1, 0);
        CHECK.queue(desk, 7, 2, 0);
        CHECK.queue(desk, 7, 1);
    }

    private static void aCallOfItself() {
        CHECK.about("a call of itself waits as any other");
        RendezvousDesk desk = Script.desk("SET 3; CALL 0 1; PUT 1");
        CHECK.run(desk, 500, STUCK);
        CHECK.task(desk, 0, 1, 1, 3, -1, 0);
        CHECK.queue(desk, 0, 1, 0);
    }

    private static void aCallOfOneThatDoesSomethingElse() {
        String[] others = {"DELAY 9; ACCEPT 1", "CALL 1 1", "ACCEPT 1", "SELECT; WHEN 1 0", "BLOCK; TASK 2; LEAVE",
            "TASK 2; CALL 2 1"};
        for (String other : others) {
            CHECK.about("the caller is put at the end of the QUEUE, the task being in " + other);
            RendezvousDesk desk = Script.desk("TASK 1; DELAY 1; CALL 1 0", other, "ACCEPT 1; ACCEPT 0");
            CHECK.run(desk, 500, STUCK);
            CHECK.task(desk, 0, 1, 2, 1, -1, 0);
            CHECK.queue(desk, 1, 0, 0);
        }
    }

    private static void theEndOfTheQueue() {
        CHECK.about("the caller is put at the end of the QUEUE");
        RendezvousDesk desk = Script.desk("TASK 1; TASK 2; TASK 2; CALL 1 0", "ACCEPT 1", "CALL 1 0");
        CHECK.run(desk, 500, STUCK);
        CHECK.queue(desk, 1, 0, 2, 3, 0);
        CHECK.about("all eight in one QUEUE");
        desk = Script.desk("TASK 1; ".repeat(7) + "CALL 3 2", "CALL 3 2");
        CHECK.run(desk, 500, STUCK);
        CHECK.queue(desk, 3, 2, 1, 2, 3, 4, 5, 6, 0, 7);
    }

    private static void acceptingThisEntry() {
        for (int called = 0; called < 3; called++) {
            for (int accepted = 0; accepted < 3; accepted++) {
                CHECK.about("a call of entry " + called + ", the task ACCEPTING " + accepted);
                RendezvousDesk desk = Script.desk("TASK 1; DELAY 1; CALL 1 " + called, "ACCEPT " + accepted + "; DELAY 9");
                boolean meet = called == accepted;
                CHECK.run(desk, 4, meet ? LONG : STUCK);
                CHECK.task(desk, 0, meet ? 2 : 1, 2, 1, -1, 0);
                CHECK.task(desk, 1, meet ? 0 : 3, meet ? 1 : 0, meet ? 1 : 0, -1, meet ? 1 : 0);
                CHECK.due("the QUEUE", meet ? -1 : 0, desk.queued(1, called, 0));
            }
        }
    }

    private static void selectingWithTheFirstOpenOne() {
        for (int x = 0; x < 2; x++) {
            CHECK.about("SELECTING with an OPEN alternative for it, the first one of these, X " + x);
            RendezvousDesk desk = Script.desk("TASK 1; DELAY 1; CALL 1 2",
                "SET " + x + "; SELECT; WHEN 1 6; IFX 2 7; WHEN 2 8; WHEN 2 6; ACCEPT 0; ACCEPT 0; ACCEPT 0");
            CHECK.run(desk, 500, STUCK);
            CHECK.task(desk, 1, 3, x == 0 ? 8 : 7, 1, -1, 1);
            CHECK.task(desk, 0, 2, 2, 1, -1, 0);
        }
        CHECK.about("SELECTING without an OPEN alternative for it");
        RendezvousDesk desk = Script.desk("TASK 1; DELAY 1; CALL 1 2", "SELECT; WHEN 1 5; IFX 2 5; TERMINATE; IFX 2 5");
        CHECK.run(desk, 500, STUCK);
        CHECK.task(desk, 0, 1, 2, 1, -1, 0);
        CHECK.queue(desk, 1, 2, 0);
        CHECK.about("the operand of an ELSE, AFTER or TERMINATE is no entry");
        desk = Script.desk("TASK 1; DELAY 1; CALL 1 0", "LIMIT 9; SELECT; WHEN 1 6; AFTER 0; ELSE 0; TERMINATE 0; DELAY 1");
        CHECK.run(desk, 5, LONG);
        CHECK.task(desk, 0, 1, 2, 1, -1, 0);
    }

    private static void theTaskIsReadyBehindTheOthers() {
        CHECK.about("the MEETING begins at once, and that task is READY, at the end of the row");
        RendezvousDesk desk = Script.desk("TASK 1; TASK 2; DELAY 1; CALL 1 0", "ACCEPT 0; DELAY 9", "DELAY 1; GO 1");
        CHECK.run(desk, 6, LONG);
        CHECK.row(desk, 2, 1);
        CHECK.task(desk, 0, 2, 3, 2, -1, 0);
        CHECK.task(desk, 1, 0, 1, 2, -1, 1);
    }

    private static void acceptTakesTheFirstOfTheQueue() {
        CHECK.about("ACCEPT begins one with the first of the QUEUE");
        RendezvousDesk desk = Script.desk("TASK 1; TASK 2; TASK 2; CALL 1 0", "DELAY 1; ACCEPT 0; ACCEPT 1", "CALL 1 0");
        CHECK.run(desk, 500, STUCK);
        CHECK.queue(desk, 1, 0, 3, 0);
        CHECK.task(desk, 2, 2, 0, 0, -1, 0);
        CHECK.task(desk, 3, 1, 0, 0, -1, 0);
        CHECK.task(desk, 1, 3, 2, 0, -1, 1);
        CHECK.about("ACCEPT of an entry whose QUEUE has one alone");
        desk = Script.desk("TASK 1; CALL 1 2", "DELAY 1; ACCEPT 2; ACCEPT 1");
        CHECK.run(desk, 500, STUCK);
        CHECK.queue(desk, 1, 2);
        CHECK.task(desk, 0, 2, 1, 1, -1, 0);
    }

    private static void acceptWaitsWithAnEmptyQueue() {
        CHECK.about("else they wait: the QUEUE of another entry does not matter");
        for (String wait : new String[] {"ACCEPT 1", "SELECT; WHEN 1 0"}) {
            RendezvousDesk desk = Script.desk("TASK 1; CALL 1 0", "DELAY 1; " + wait);
            CHECK.run(desk, 500, STUCK);
            CHECK.task(desk, 1, wait.startsWith("A") ? 3 : 4, 1, 0, -1, 0);
            CHECK.task(desk, 0, 1, 1, 1, -1, 0);
        }
    }

    private static void selectTakesTheFirstAlternativeWhoseQueueHasSome() {
        CHECK.about("SELECT: by the first OPEN alternative whose QUEUE has some");
        RendezvousDesk desk = Script.desk("TASK 1; TASK 2; CALL 1 0",
            "DELAY 1; SELECT; IFX 0 7; WHEN 1 7; WHEN 2 8; WHEN 0 7; ELSE 7; ACCEPT 1; ACCEPT 1", "CALL 1 2");
        CHECK.run(desk, 500, STUCK);
        CHECK.task(desk, 1, 3, 8, 0, -1, 1);
        CHECK.task(desk, 2, 2, 0, 0, -1, 0);
        CHECK.task(desk, 0, 1, 2, 2, -1, 0);
        CHECK.about("SELECT: the first of that QUEUE");
        desk = Script.desk("TASK 1; TASK 2; TASK 2; CALL 1 2", "DELAY 1; SELECT; WHEN 2 3; ACCEPT 1", "CALL 1 2");
        CHECK.run(desk, 500, STUCK);
        CHECK.queue(desk, 1, 2, 3, 0);
        CHECK.task(desk, 2, 2);
    }

    private static void theTaskGoesOn() {
        for (String meet : new String[] {"ACCEPT 0", "SELECT; WHEN 0 3"}) {
            CHECK.about("the task going on, in the same turn: " + meet);
            RendezvousDesk desk = Script.desk("TASK 1; CALL 1 0", "DELAY 1; " + meet + "; PUT 1; PUT 2; DELAY 9");
            CHECK.run(desk, 6, LONG);
            CHECK.due("how many were NOTED", 2, desk.state(4));
            CHECK.counts(desk, 2, 1, 6, 4);
        }
    }

    private static void xGoesToTheTaskAndBack() {
        CHECK.about("X of the task becomes that of the caller, and with DONE that of the caller that of the task");
        RendezvousDesk desk = Script.desk("TASK 1; SET " + LEAST + "; CALL 1 0; SHOW",
            "ACCEPT 0; SHOW; SET " + MOST + "; DONE; SET 3; SHOW");
        CHECK.run(desk, 500, OVER);
        CHECK.notes(desk, 1, LEAST, 1, 3, 0, MOST);
    }

    private static void xStaysWithoutDone() {
        CHECK.about("X of the caller stays until DONE");
        RendezvousDesk desk = Script.desk("TASK 1; SET 4; CALL 1 0", "ACCEPT 0; SET 8; DELAY 9; RAISE 1");
        CHECK.run(desk, 6, LONG);
        CHECK.task(desk, 0, 2, 2, 4, -1, 0);
        CHECK.run(desk, 500, OVER);
        CHECK.task(desk, 0, 8, 2, 4, 1, 0);
    }

    private static void theCallerIsBehindItsCall() {
        for (String call : CALLS) {
            CHECK.about("DONE: the caller is READY, behind its call: " + call);
            RendezvousDesk desk = Script.desk("TASK 1; DELAY 1; " + call + " 1 0; PUT 1", "ACCEPT 0; DONE; DELAY 1");
            int limit = call.startsWith("LIMIT") ? 1 : 0;
            CHECK.run(desk, 5 + limit, LONG);
            CHECK.task(desk, 0, 0, 3 + limit, 1, -1, 0);
            CHECK.row(desk, 1, 0);
            CHECK.run(desk, 500, OVER);
            CHECK.notes(desk, 0, 1);
        }
    }

    private static void onAtZero() {
        CHECK.about("it is at b: 0");
        RendezvousDesk desk = Script.desk("TASK 1; CALL 1 0", "SELECT; WHEN 0 0");
        CHECK.run(desk, 500, STUCK);
        CHECK.task(desk, 1, 4, 0, 1, -1, 1);
        CHECK.task(desk, 0, 2, 1, 1, -1, 0);
    }

    private static void aMeetingComesBeforeElse() {
        for (String other : new String[] {"ELSE 4", "AFTER 4", "TERMINATE"}) {
            CHECK.about("SELECT, if a MEETING can begin: " + other + " does not count");
            RendezvousDesk desk = Script.desk("TASK 1; CALL 1 0",
                "DELAY 1; SELECT; " + other + "; WHEN 0 5; ACCEPT 1; ACCEPT 2");
            CHECK.run(desk, 500, STUCK);
            CHECK.task(desk, 1, 3, 5, 1, -1, 1);
            CHECK.task(desk, 0, 2, 1, 1, -1, 0);
        }
    }

    private static void justTheFirstOneCounts() {
        String[] three = {"ELSE 6", "AFTER 7", "TERMINATE"};
        for (int first = 0; first < 3; first++) {
            for (int second = 0; second < 3; second++) {
                if (first == second) {
                    continue;
                }
                String row = three[first] + "; " + three[second] + "; " + three[3 - first - second];
                CHECK.about("just the first one counts: " + row);
                RendezvousDesk desk = Script.desk("TASK 1", "LIMIT 3; SELECT; WHEN 0 20; " + row + "; PUT 1; PUT 2");
                CHECK.run(desk, 500, OVER);
                CHECK.due("how many were NOTED", new int[] {2, 1, 0}[first], desk.state(4));
                CHECK.due("the TIME", first == 1 ? 3 : 0, desk.state(1));
                CHECK.task(desk, 1, 8, first == 2 ? 1 : 8, 0, 0, 0);
            }
        }
    }

    private static void elseIsAtOnce() {
        CHECK.about("ELSE: on at a, in the same turn");
        RendezvousDesk desk = Script.desk("LIMIT 9; SELECT; WHEN 0 20; ELSE 5; PUT 1; PUT 2");
        CHECK.run(desk, 3, LONG);
        CHECK.notes(desk, 0, 2);
        CHECK.counts(desk, 1, 0, 3, 2);
        CHECK.about("ELSE alone");
        desk = Script.desk("SELECT; ELSE 3; PUT 1; PUT 2");
        CHECK.run(desk, 3, OVER);
        CHECK.notes(desk, 0, 2);
    }

    private static void afterWithLimitZero() {
        CHECK.about("AFTER with LIMIT 0: on at a, in the same turn");
        RendezvousDesk desk = Script.desk("LIMIT 0; SELECT; WHEN 0 20; AFTER 5; PUT 1; PUT 2");
        CHECK.run(desk, 3, LONG);
        CHECK.notes(desk, 0, 2);
        CHECK.counts(desk, 1, 0, 3, 2);
    }

    private static void afterWithTheLeastAndTheGreatestLimit() {
        for (int limit : new int[] {1, 99}) {
            CHECK.about("AFTER: no longer than until the TIME is greater by LIMIT " + limit);
            RendezvousDesk desk = Script.desk("LIMIT " + limit + "; SELECT; WHEN 0 20; AFTER 5; PUT 1; PUT 2");
            CHECK.run(desk, 2, LONG);
            CHECK.counts(desk, 1, limit, 2, 2);
            CHECK.task(desk, 0, 0, 5, 0, -1, 0);
            CHECK.row(desk, 0);
            CHECK.run(desk, 500, OVER);
            CHECK.notes(desk, 0, 2);
        }
        CHECK.about("AFTER: greater than the TIME of the SELECT");
        RendezvousDesk desk = Script.desk("LIMIT 3; DELAY 4; SELECT; AFTER 4; PUT 2");
        CHECK.run(desk, 500, OVER);
        CHECK.counts(desk, 1, 7);
        CHECK.notes(desk, 0, 2);
    }

    private static void afterAndACallAtTheSameTime() {
        String server = "LIMIT 5; SELECT; WHEN 0 5; AFTER 4; ACCEPT 1; ACCEPT 2";
        CHECK.about("AFTER comes before a call at the same TIME");
        RendezvousDesk desk = Script.desk("TASK 1; DELAY 5; CALL 1 0", server);
        CHECK.run(desk, 500, STUCK);
        CHECK.task(desk, 0, 1, 2, 1, -1, 0);
        CHECK.task(desk, 1, 3, 4, 0, -1, 0);
        CHECK.about("AFTER is past once the MEETING has begun");
        desk = Script.desk("TASK 1; DELAY 4; CALL 1 0", server);
        CHECK.run(desk, 500, STUCK);
        CHECK.task(desk, 0, 2, 2, 1, -1, 0);
        CHECK.task(desk, 1, 3, 5, 1, -1, 1);
        CHECK.counts(desk, 2, 4);
    }

    private static void nothingOpen() {
        for (String none : new String[] {"SELECT", "SELECT; IFX 0 3", "SELECT; IFX 0 3; IFX 1 3; IFX 2 3"}) {
            CHECK.about("without any, and nothing OPEN: raises 12: " + none);
            RendezvousDesk desk = Script.desk("PUT 1; " + none);
            CHECK.run(desk, 2, OVER);
            CHECK.task(desk, 0, 8, 1, 0, 12, 0);
            CHECK.about("nothing OPEN raises 12, though there is a caller: " + none);
            desk = Script.desk("TASK 1; CALL 1 0", "DELAY 1; " + none);
            CHECK.run(desk, 500, OVER);
            CHECK.task(desk, 1, 8, 1, 0, 12, 0);
            CHECK.task(desk, 0, 8, 1, 1, 11, 0);
        }
    }

    private static void nothingOpenButAnother() {
        CHECK.about("nothing OPEN, but ELSE");
        RendezvousDesk desk = Script.desk("SELECT; IFX 0 3; ELSE 4; PUT 1; PUT 2");
        CHECK.run(desk, 500, OVER);
        CHECK.notes(desk, 0, 2);
        CHECK.about("nothing OPEN, but AFTER with LIMIT 0");
        desk = Script.desk("SELECT; IFX 0 3; AFTER 4; PUT 1; PUT 2");
        CHECK.run(desk, 500, OVER);
        CHECK.notes(desk, 0, 2);
        CHECK.counts(desk, 1, 0);
        CHECK.about("nothing OPEN, but AFTER");
        desk = Script.desk("LIMIT 6; SELECT; IFX 0 3; AFTER 5; PUT 1; PUT 2");
        CHECK.run(desk, 500, OVER);
        CHECK.notes(desk, 0, 2);
        CHECK.counts(desk, 1, 6);
        CHECK.about("nothing OPEN, but TERMINATE");
        desk = Script.desk("SELECT; IFX 0 3; TERMINATE; PUT 1");
        CHECK.run(desk, 500, STUCK);
        CHECK.task(desk, 0, 4, 0, 0, -1, 0);
    }

    private static void somethingOpenIsWaitedFor() {
        CHECK.about("without any, but something OPEN: SELECTING");
        for (String some : new String[] {"SELECT; IFX 0 3; WHEN 1 3", "SELECT; WHEN 2 3", "SET 1; SELECT; IFX 0 3"}) {
            RendezvousDesk desk = Script.desk(some);
            CHECK.run(desk, 500, STUCK);
            CHECK.due("the STATE", 4, desk.task(0, 0));
            CHECK.row(desk);
        }
    }
}
