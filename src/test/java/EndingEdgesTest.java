/** The edges that the Terms name under RAISED, COMPLETED and ABORT: a method for each sentence. */
public final class EndingEdgesTest {
    private static final int OVER = RendezvousDesk.OVER, STUCK = RendezvousDesk.STUCK, LONG = RendezvousDesk.LONG;
    private static final Check CHECK = new Check("EndingEdgesTest");

    public static void main(String[] args) {
        aHandlerAndThatWasAll();
        framesGoFromTheTop();
        theCallerOfAMeeting();
        throughTwoMeetings();
        manyCallersOfOneTask();
        aBlockWithoutTasks();
        aBlockWithACompletedTask();
        aBlockWhoseTasksAreTerminated();
        twoBlocksThatWait();
        aMeetingAboveABlockThatWaits();
        withoutFrames();
        callersInTheQueues();
        aCallerThatIsFreedIsLateNoMore();
        terminatedAtOnce();
        completedUntilTheLastOne();
        abortOfOneThatIsNotThere();
        abortOfATerminatedOne();
        abortOfACompletedOne();
        abortIsForAllThatDepend();
        abortIsForNoOneElse();
        abortGoesByNumbers();
        abortOfAServerAndThenItsCaller();
        abortOfACallerAndThenItsServer();
        aServedOneGoesOn();
        aServedOneIsAbortedTwice();
        aServedOneIsAbortedByDone();
        aServedOneIsAbortedBySomethingRaised();
        aServedOneIsAbortedByTheEndOfTheBody();
        aServedOneIsAbortedByAbort();
        aServedOneIsAbortedByEndingTogether();
        aServedOneHasCallersItself();
        abortLeavesTheQueue();
        abortLeavesTheRow();
        abortWithEightFrames();
        whatDependedOnItsBlocks();
        abortOfItself();
        abortOfItsOwnServer();
        CHECK.end();
    }

    private static void aHandlerAndThatWasAll() {
        CHECK.about("a HANDLER: on at its a, X is the exception, and that was all");
        RendezvousDesk desk = Script.desk("BLOCK; HANDLE 4; RAISE 2; PUT 1; ACCEPT 0");
        CHECK.run(desk, 500, STUCK);
        CHECK.task(desk, 0, 3, 4, 2, -1, 1);
        desk = Script.desk("HANDLE 1; HANDLE 4; RAISE 2; PUT 1; ACCEPT 0");
        CHECK.run(desk, 500, STUCK);
        CHECK.task(desk, 0, 3, 4, 2, -1, 1);
        CHECK.notes(desk);
        CHECK.about("a HANDLER above a MEETING: the caller does not see it");
        desk = Script.desk("TASK 1; CALL 1 0; SHOW", "ACCEPT 0; HANDLE 3; RAISE 6; DONE");
        CHECK.run(desk, 500, OVER);
        CHECK.notes(desk, 0, 6);
    }

    private static void framesGoFromTheTop() {
        CHECK.about("FRAMES go from the top on, to the first HANDLER");
        RendezvousDesk desk = Script.desk("BLOCK; HANDLE 5; BLOCK; BLOCK; RAISE 2; ACCEPT 0");
        CHECK.run(desk, 500, STUCK);
        CHECK.task(desk, 0, 3, 5, 2, -1, 1);
        CHECK.about("the HANDLER has gone: what it raises goes on");
        desk = Script.desk("HANDLE 4; HANDLE 3; RAISE 2; RAISE 7; ACCEPT 0");
        CHECK.run(desk, 500, STUCK);
        CHECK.task(desk, 0, 3, 4, 7, -1, 0);
        CHECK.about("all eight FRAMES go");
        desk = Script.desk("BLOCK; ".repeat(8) + "RAISE 3");
        CHECK.run(desk, 500, OVER);
        CHECK.task(desk, 0, 8, 8, 0, 3, 0);
    }

    private static void theCallerOfAMeeting() {
        CHECK.about("a MEETING: the caller is READY, and the same is to be raised there");
        RendezvousDesk desk = Script.desk("TASK 1; TASK 2; HANDLE 5; CALL 1 0; PUT 1; ACCEPT 2",
            "ACCEPT 0; SET 9; RAISE 6", "GO 0");
        CHECK.run(desk, 13, LONG);
        CHECK.task(desk, 0, 0, 3, 2, -1, 1);
        CHECK.task(desk, 1, 8, 2, 9, 6, 0);
        CHECK.row(desk, 2, 0);
        CHECK.about("a MEETING: the same is raised there when it comes to its turn");
        CHECK.run(desk, 16, LONG);
        CHECK.task(desk, 0, 0, 5, 6, -1, 0);
        CHECK.row(desk, 0, 2);
        CHECK.run(desk, 17, LONG);
        CHECK.task(desk, 0, 3, 5, 6, -1, 0);
        CHECK.notes(desk);
    }

    private static void throughTwoMeetings() {
        CHECK.about("the same is raised there, and goes on from there");
        RendezvousDesk desk = Script.desk("TASK 1; TASK 2; CALL 1 0", "ACCEPT 0; CALL 2 0", "ACCEPT 0; RAISE 6");
        CHECK.run(desk, 500, OVER);
        CHECK.task(desk, 0, 8, 2, 2, 6, 0);
        CHECK.task(desk, 1, 8, 1, 2, 6, 0);
        CHECK.task(desk, 2, 8, 1, 2, 6, 0);
    }

    private static void manyCallersOfOneTask() {
        CHECK.about("MEETINGs go from the top on: the latest caller is READY first");
        RendezvousDesk desk = Script.desk("TASK 1; TASK 2; TASK 2; TASK 2; ACCEPT 0",
            "DELAY 1; ACCEPT 0; ACCEPT 0; ACCEPT 0; RAISE 4", "HANDLE 2; CALL 1 0; SHOW");
        CHECK.run(desk, 500, STUCK);
        CHECK.notes(desk, 4, 4, 3, 4, 2, 4);
        CHECK.about("seven MEETINGs of one task");
        desk = Script.desk("TASK 1; TASK 2; TASK 2; TASK 2; TASK 2; TASK 2; TASK 2; CALL 1 0",
            "DELAY 1; ACCEPT 0; GO 1", "HANDLE 2; CALL 1 0; DELAY 1");
        CHECK.run(desk, 500, STUCK);
        CHECK.task(desk, 1, 3, 1, 0, -1, 7);
        for (int t = 2; t < 8; t++) {
            CHECK.task(desk, t, 2, 1, 0, -1, 1);
        }
    }

    private static void aBlockWithoutTasks() {
        CHECK.about("a BLOCK goes, if no task that depends on it is not TERMINATED: there is none");
        RendezvousDesk desk = Script.desk("TASK 1; BLOCK; RAISE 3", "ACCEPT 0");
        CHECK.run(desk, 500, STUCK);
        CHECK.task(desk, 0, 7, 2, 1, 3, 0);
        CHECK.counts(desk, 2, 0, 4, 2);
    }

    private static void aBlockWithACompletedTask() {
        CHECK.about("a BLOCK stays, LEAVING, if a task that depends on it is COMPLETED");
        RendezvousDesk desk = Script.desk("HANDLE 4; BLOCK; TASK 1; RAISE 3; SHOW", "TASK 2", "DELAY 5");
        CHECK.run(desk, 7, LONG);
        CHECK.task(desk, 0, 6, 3, 1, -1, 2);
        CHECK.task(desk, 1, 7, 1, 2, 0, 0);
        CHECK.about("it is READY then, and goes on with this");
        CHECK.run(desk, 8, LONG);
        CHECK.task(desk, 0, 0, 4, 3, -1, 0);
        CHECK.row(desk, 0);
        CHECK.run(desk, 500, OVER);
        CHECK.notes(desk, 0, 3);
    }

    private static void aBlockWhoseTasksAreTerminated() {
        CHECK.about("a BLOCK goes at once if its tasks are TERMINATED");
        RendezvousDesk desk = Script.desk("HANDLE 5; BLOCK; TASK 1; DELAY 1; RAISE 3; SHOW", "");
        CHECK.run(desk, 6, LONG);
        CHECK.task(desk, 0, 0, 5, 3, -1, 0);
        CHECK.counts(desk, 2, 1, 6, 4);
        CHECK.about("READY again, the BLOCK gone, before its turn comes");
        desk = Script.desk("TASK 1; BLOCK; TASK 2; RAISE 4", "GO 0", "DELAY 0; DELAY 0; DELAY 0; END");
        CHECK.run(desk, 14, LONG);
        CHECK.task(desk, 0, 0, 3, 2, -1, 0);
        CHECK.row(desk, 1, 0);
        CHECK.run(desk, 17, LONG);
        CHECK.task(desk, 0, 7, 3, 2, 4, 0);
        CHECK.row(desk, 1);
    }

    private static void twoBlocksThatWait() {
        CHECK.about("goes on with this: the next BLOCK waits, too");
        RendezvousDesk desk = Script.desk("HANDLE 6; BLOCK; TASK 1; BLOCK; TASK 2; RAISE 3; SHOW", "DELAY 5", "DELAY 2");
        CHECK.run(desk, 8, LONG);
        CHECK.task(desk, 0, 6, 5, 2, -1, 3);
        CHECK.counts(desk, 3, 2, 8);
        CHECK.run(desk, 9, LONG);
        CHECK.task(desk, 0, 6, 5, 2, -1, 2);
        CHECK.counts(desk, 3, 5, 9);
        CHECK.run(desk, 10, LONG);
        CHECK.task(desk, 0, 0, 6, 3, -1, 0);
        CHECK.run(desk, 500, OVER);
        CHECK.notes(desk, 0, 3);
    }

    private static void aMeetingAboveABlockThatWaits() {
        CHECK.about("the caller above goes free before the BLOCK waits, the one below after it");
        RendezvousDesk desk = Script.desk("TASK 1; TASK 2; TASK 3; ACCEPT 0",
            "ACCEPT 0; BLOCK; TASK 1; ACCEPT 1; RAISE 3", "HANDLE 2; CALL 1 0; SHOW", "HANDLE 2; CALL 1 1; SHOW");
        CHECK.run(desk, 500, STUCK);
        CHECK.notes(desk, 3, 3);
        CHECK.task(desk, 1, 6, 4, 0, -1, 2);
        CHECK.task(desk, 2, 2, 1, 0, -1, 1);
        CHECK.task(desk, 4, 3, 0, 0, -1, 0);
    }

    private static void withoutFrames() {
        String[] raising = {"RAISE 1", "RAISE 9", "CALL 7 0", "DONE", "TASK 0; GO 0"};
        int[] due = {1, 9, 11, 12, 13};
        for (int n = 0; n < due.length; n++) {
            CHECK.about("without FRAMES: the task is completed with this exception: " + raising[n]);
            RendezvousDesk desk = Script.desk(raising[n] + "; PUT 1");
            CHECK.run(desk, 500, OVER);
            CHECK.due("what it was completed with", due[n], desk.task(0, 3));
            CHECK.due("the PLACE", 0, desk.task(0, 1));
            CHECK.notes(desk);
        }
    }

    private static void callersInTheQueues() {
        CHECK.about("COMPLETED: callers in its QUEUES, by entries, are READY");
        RendezvousDesk desk = Script.desk("TASK 1; TASK 2; TASK 3; TASK 3; CALL 1 1", "DELAY 1", "CALL 1 2",
            "HANDLE 2; CALL 1 0; SHOW");
        CHECK.run(desk, 12, LONG);
        CHECK.row(desk, 3, 4, 0, 2);
        CHECK.task(desk, 4, 0, 1, 0, -1, 1);
        CHECK.task(desk, 0, 0, 4, 4, -1, 0);
        CHECK.task(desk, 2, 0, 0, 0, -1, 0);
        for (int entry = 0; entry < 3; entry++) {
            CHECK.queue(desk, 1, entry);
        }
        CHECK.about("COMPLETED: 11 is raised there when they come to their turn");
        CHECK.task(desk, 3, 0, 2, 11, -1, 0);
        CHECK.run(desk, 500, OVER);
        CHECK.notes(desk, 3, 11, 4, 11);
        CHECK.task(desk, 0, 8, 4, 4, 11, 0);
        CHECK.task(desk, 2, 8, 0, 0, 11, 0);
    }

    private static void aCallerThatIsFreedIsLateNoMore() {
        CHECK.about("a caller with a LIMIT: 11 is raised, and nothing is given up later");
        RendezvousDesk desk = Script.desk("TASK 1; LIMIT 9; HANDLE 5; LATE 1 0; PUT 1; DELAY 20; PUT 2; PUT 3", "DELAY 2");
        CHECK.run(desk, 500, OVER);
        CHECK.counts(desk, 2, 22);
        CHECK.notes(desk, 0, 2, 0, 3);
    }

    private static void terminatedAtOnce() {
        CHECK.about("TERMINATED at once if no task depends on it");
        RendezvousDesk desk = Script.desk("TASK 1; ACCEPT 0", "");
        CHECK.run(desk, 500, STUCK);
        CHECK.task(desk, 1, 8, 0, 0, 0, 0);
        CHECK.about("TERMINATED at once if all that depend on it are TERMINATED");
        desk = Script.desk("TASK 1; ACCEPT 0", "TASK 2; DELAY 1", "");
        CHECK.run(desk, 500, STUCK);
        CHECK.task(desk, 1, 8, 2, 2, 0, 0);
    }

    private static void completedUntilTheLastOne() {
        CHECK.about("COMPLETED until the last one is TERMINATED");
        RendezvousDesk desk = Script.desk("TASK 1; TASK 2", "DELAY 1", "DELAY 2");
        CHECK.run(desk, 6, LONG);
        CHECK.task(desk, 1, 8, 1, 0, 0, 0);
        CHECK.task(desk, 2, 0, 1, 0, -1, 0);
        CHECK.task(desk, 0, 7, 2, 2, 0, 0);
        CHECK.run(desk, 7, OVER);
        CHECK.task(desk, 0, 8, 2, 2, 0, 0);
        CHECK.about("COMPLETED until those are that depend on it through another");
        desk = Script.desk("TASK 1", "TASK 2", "TASK 3", "DELAY 1; DELAY 1");
        CHECK.run(desk, 8, LONG);
        for (int t = 0; t < 3; t++) {
            CHECK.task(desk, t, 7, 1, t + 1, 0, 0);
        }
        CHECK.run(desk, 9, OVER);
        for (int t = 0; t < 4; t++) {
            CHECK.due("the STATE of " + t, 8, desk.task(t, 0));
        }
        CHECK.about("eight, each made by the one before");
        desk = Script.desk("TASK 1", "TASK 1");
        CHECK.run(desk, 15, OVER);
        for (int t = 0; t < 8; t++) {
            CHECK.task(desk, t, 8, t == 7 ? 0 : 1, t == 7 ? 0 : t + 1, t == 7 ? 13 : 0, 0);
        }
    }

    private static void abortOfOneThatIsNotThere() {
        for (int a : new int[] {2, 7}) {
            CHECK.about("ABORT not of a task that is not there: " + a);
            RendezvousDesk desk = Script.desk("TASK 1; ABORT " + a + "; PUT 1; ACCEPT 0", "ACCEPT 0");
            CHECK.run(desk, 500, STUCK);
            CHECK.notes(desk, 0, 1);
            CHECK.task(desk, 0, 3, 3, 1, -1, 0);
            CHECK.task(desk, 1, 3, 0, 0, -1, 0);
        }
    }

    private static void abortOfATerminatedOne() {
        CHECK.about("ABORT not of a task that is TERMINATED");
        RendezvousDesk desk = Script.desk("TASK 1; DELAY 1; ABORT 1; PUT 1; ACCEPT 0", "RAISE 5");
        CHECK.run(desk, 500, STUCK);
        CHECK.notes(desk, 0, 1);
        CHECK.task(desk, 1, 8, 0, 0, 5, 0);
    }

    private static void abortOfACompletedOne() {
        CHECK.about("ABORT not of a task that is COMPLETED, nor then of what depends on it");
        RendezvousDesk desk = Script.desk("TASK 1; DELAY 1; ABORT 1; PUT 1; ACCEPT 0", "TASK 2; RAISE 5", "ACCEPT 0");
        CHECK.run(desk, 500, STUCK);
        CHECK.notes(desk, 0, 1);
        CHECK.task(desk, 1, 7, 1, 2, 5, 0);
        CHECK.task(desk, 2, 3, 0, 0, -1, 0);
    }

    private static void abortIsForAllThatDepend() {
        CHECK.about("ABORT is for all that depend on it or on its BLOCKs, directly or not");
        RendezvousDesk desk = Script.desk("TASK 1; DELAY 1; ABORT 1; ACCEPT 0",
            "TASK 2; BLOCK; TASK 2; BLOCK; TASK 3; ACCEPT 0",
            "TASK 3; ACCEPT 0", "ACCEPT 0");
        CHECK.run(desk, 500, STUCK);
        CHECK.counts(desk, 7, 1);
        for (int t = 1; t < 7; t++) {
            CHECK.due("the STATE of " + t, 8, desk.task(t, 0));
            CHECK.due("what " + t + " was completed with", 14, desk.task(t, 3));
            CHECK.due("FRAMES of " + t, 0, desk.task(t, 6));
        }
        CHECK.about("ABORT passes by one that is COMPLETED or TERMINATED, to what depends on it");
        desk = Script.desk("TASK 1; DELAY 1; ABORT 1; ACCEPT 0", "TASK 2; TASK 3; ACCEPT 0", "TASK 0; RAISE 2", "RAISE 3");
        CHECK.run(desk, 500, STUCK);
        CHECK.due("the one", 14, desk.task(1, 3));
        CHECK.due("the COMPLETED one", 2, desk.task(2, 3));
        CHECK.due("the TERMINATED one", 3, desk.task(3, 3));
        CHECK.due("the one below the COMPLETED one", 14, desk.task(4, 3));
        CHECK.about("ABORT of all eight");
        desk = Script.desk("BLOCK; " + "TASK 1; ".repeat(7) + "DELAY 1; ABORT 0", "BLOCK; ACCEPT 0");
        CHECK.run(desk, 500, OVER);
        for (int t = 0; t < 8; t++) {
            CHECK.task(desk, t, 8, t == 0 ? 9 : 1, t == 0 ? 7 : 0, 14, 0);
        }
    }

    private static void abortIsForNoOneElse() {
        CHECK.about("ABORT is not for those on which it depends, or that depend on others");
        RendezvousDesk desk = Script.desk("BLOCK; TASK 1; TASK 1; DELAY 1; ABORT 1; ACCEPT 0",
            "BLOCK; TASK 2; ACCEPT 0", "ACCEPT 0");
        CHECK.run(desk, 500, STUCK);
        int[] due = {-1, 14, -1, 14, -1};
        for (int t = 0; t < 5; t++) {
            CHECK.due("what " + t + " was completed with", due[t], desk.task(t, 3));
        }
        CHECK.about("ABORT is not for those of an earlier run's ABORT");
        String family = "BLOCK; TASK 1; TASK 1; DELAY 1; ABORT 1; ACCEPT 0";
        Script.write(desk, 0, "TASK 2; ABORT 0");
        CHECK.run(desk, 500, OVER);
        Script.write(desk, 0, family);
        CHECK.run(desk, 500, STUCK);
        for (int t = 0; t < 5; t++) {
            CHECK.due("what " + t + " was completed with", due[t], desk.task(t, 3));
        }
    }

    private static void abortGoesByNumbers() {
        CHECK.about("ABORT goes by numbers");
        RendezvousDesk desk = Script.desk("TASK 1; DELAY 1; TASK 3; TASK 3; DELAY 1; ABORT 1; ACCEPT 0",
            "TASK 2; TASK 2; ACCEPT 2",
            "ACCEPT 0; DELAY 50", "HANDLE 5; LATE 3 0; ACCEPT 1; LATE 2 0; ACCEPT 1; SHOW");
        CHECK.run(desk, 500, STUCK);
        CHECK.counts(desk, 6, 2);
        CHECK.notes(desk, 5, 11, 4, 11);
    }

    private static void abortOfAServerAndThenItsCaller() {
        CHECK.about("each that is not COMPLETED by then: its server's end made it READY");
        RendezvousDesk desk = Script.desk("TASK 1; DELAY 1; ABORT 1; GO 3", "TASK 2; TASK 3; ACCEPT 2", "ACCEPT 0; DELAY 50",
            "HANDLE 2; CALL 2 0; SHOW");
        CHECK.run(desk, 10, LONG);
        CHECK.task(desk, 2, 8, 1, 0, 14, 0);
        CHECK.task(desk, 3, 8, 1, 0, 14, 0);
        CHECK.task(desk, 1, 8, 2, 3, 14, 0);
        CHECK.row(desk, 0);
    }

    private static void abortOfACallerAndThenItsServer() {
        CHECK.about("a SERVED one whose MEETING ends in the same ABORT");
        RendezvousDesk desk = Script.desk("TASK 1; DELAY 1; ABORT 1; GO 3", "TASK 3; TASK 2; ACCEPT 2", "ACCEPT 0; DELAY 50",
            "HANDLE 2; CALL 3 0; SHOW");
        CHECK.run(desk, 10, LONG);
        CHECK.task(desk, 2, 8, 1, 0, 14, 0);
        CHECK.task(desk, 3, 8, 1, 0, 14, 0);
        CHECK.task(desk, 1, 8, 2, 3, 14, 0);
        CHECK.row(desk, 0);
    }

    private static void aServedOneGoesOn() {
        CHECK.about("ABORT: a SERVED one goes on");
        RendezvousDesk desk = Script.desk("TASK 1; TASK 2; DELAY 1; ABORT 2; ACCEPT 0", "ACCEPT 0; DELAY 5; ACCEPT 2",
            "HANDLE 2; CALL 1 0");
        CHECK.run(desk, 500, STUCK);
        CHECK.task(desk, 2, 2, 1, 0, -1, 1);
        CHECK.task(desk, 1, 3, 2, 0, -1, 1);
        CHECK.about("ABORT: what depends on a SERVED one does not");
        desk = Script.desk("TASK 1; TASK 2; DELAY 1; ABORT 2; ACCEPT 0", "ACCEPT 0; ACCEPT 2", "TASK 3; CALL 1 0",
            "ACCEPT 0");
        CHECK.run(desk, 500, STUCK);
        CHECK.task(desk, 2, 2, 1, 3, -1, 0);
        CHECK.task(desk, 3, 8, 0, 0, 14, 0);
    }

    private static void aServedOneIsAbortedTwice() {
        CHECK.about("ABORT of a SERVED one, twice");
        RendezvousDesk desk = Script.desk("TASK 1; TASK 2; DELAY 1; ABORT 2; ABORT 2; ACCEPT 0",
            "ACCEPT 0; DELAY 5; DONE; ACCEPT 2", "CALL 1 0");
        CHECK.run(desk, 500, STUCK);
        CHECK.task(desk, 2, 8, 0, 0, 14, 0);
        CHECK.task(desk, 1, 3, 3, 0, -1, 0);
        CHECK.task(desk, 0, 3, 5, 2, -1, 0);
    }

    private static void aServedOneIsAbortedByDone() {
        CHECK.about("when its MEETING ends by DONE it stays at its call, with the task's X");
        RendezvousDesk desk = Script.desk("TASK 1; TASK 2; DELAY 1; ABORT 2; ACCEPT 0",
            "ACCEPT 0; DELAY 5; SET 77; DONE; PUT 4",
            "BLOCK; HANDLE 3; CALL 1 0; PUT 5");
        CHECK.run(desk, 11, LONG);
        CHECK.task(desk, 2, 2, 2, 0, -1, 2);
        CHECK.row(desk, 1);
        CHECK.run(desk, 12, LONG);
        CHECK.task(desk, 2, 8, 2, 77, 14, 0);
        CHECK.task(desk, 1, 0, 4, 77, -1, 0);
        CHECK.row(desk, 1);
        CHECK.run(desk, 500, STUCK);
        CHECK.notes(desk, 1, 4);
    }

    private static void aServedOneIsAbortedBySomethingRaised() {
        CHECK.about("when its MEETING ends by something raised it is aborted, and keeps its X");
        RendezvousDesk desk = Script.desk("TASK 1; TASK 2; DELAY 1; ABORT 2; ACCEPT 0",
            "ACCEPT 0; DELAY 5; SET 77; RAISE 3", "HANDLE 2; CALL 1 0; SHOW");
        CHECK.run(desk, 500, STUCK);
        CHECK.task(desk, 2, 8, 1, 0, 14, 0);
        CHECK.task(desk, 1, 8, 3, 77, 3, 0);
        CHECK.notes(desk);
    }

    private static void aServedOneIsAbortedByTheEndOfTheBody() {
        CHECK.about("when its MEETING ends by an END that raises 12 it is aborted");
        RendezvousDesk desk = Script.desk("TASK 1; TASK 2; DELAY 1; ABORT 2; ACCEPT 0", "ACCEPT 0; DELAY 5", "CALL 1 0");
        CHECK.run(desk, 500, STUCK);
        CHECK.task(desk, 2, 8, 0, 0, 14, 0);
        CHECK.task(desk, 1, 8, 2, 0, 12, 0);
    }

    private static void aServedOneIsAbortedByAbort() {
        CHECK.about("when its MEETING ends by ABORT of its server it is aborted");
        RendezvousDesk desk = Script.desk("TASK 1; TASK 2; DELAY 1; ABORT 2; ABORT 1; ACCEPT 0",
            "ACCEPT 0; SET 77; DELAY 5", "HANDLE 2; CALL 1 0; SHOW");
        CHECK.run(desk, 500, STUCK);
        CHECK.task(desk, 2, 8, 1, 0, 14, 0);
        CHECK.task(desk, 1, 8, 2, 77, 14, 0);
        CHECK.notes(desk);
        CHECK.about("and is not if it was not to be");
        desk = Script.desk("TASK 1; TASK 2; DELAY 1; ABORT 1; ACCEPT 0", "ACCEPT 0; SET 77; DELAY 5",
            "HANDLE 2; CALL 1 0; SHOW");
        CHECK.run(desk, 500, STUCK);
        CHECK.task(desk, 2, 8, 3, 11, 0, 0);
        CHECK.notes(desk, 2, 11);
    }

    private static void aServedOneIsAbortedByEndingTogether() {
        CHECK.about("when its MEETING ends as its server ends with others it is aborted");
        RendezvousDesk desk = Script.desk("TASK 2; BLOCK; TASK 1; DELAY 1; ABORT 1; LEAVE; ACCEPT 0",
            "ACCEPT 0; SELECT; WHEN 1 0; TERMINATE",
            "HANDLE 2; CALL 2 0; SHOW");
        CHECK.run(desk, 500, STUCK);
        CHECK.task(desk, 1, 8, 1, 0, 14, 0);
        CHECK.task(desk, 2, 8, 1, 0, 0, 0);
        CHECK.task(desk, 0, 3, 6, 2, -1, 0);
        CHECK.notes(desk);
    }

    private static void aServedOneHasCallersItself() {
        CHECK.about("a SERVED one that is to be aborted can be called until then");
        RendezvousDesk desk = Script.desk("TASK 1; TASK 2; TASK 3; DELAY 1; ABORT 2; ACCEPT 0",
            "ACCEPT 0; DELAY 5; DONE; ACCEPT 2", "CALL 1 0",
            "DELAY 2; HANDLE 3; CALL 2 1; SHOW");
        CHECK.run(desk, 12, LONG);
        CHECK.queue(desk, 2, 1, 3);
        CHECK.task(desk, 2, 2, 0, 0, -1, 0);
        CHECK.run(desk, 500, STUCK);
        CHECK.notes(desk, 3, 11);
        CHECK.task(desk, 2, 8, 0, 0, 14, 0);
        CHECK.task(desk, 1, 3, 3, 0, -1, 0);
    }

    private static void abortLeavesTheQueue() {
        for (int victim = 2; victim <= 4; victim++) {
            CHECK.about("such a one leaves its QUEUE: " + victim);
            RendezvousDesk desk = Script.desk("TASK 1; TASK 2; TASK 2; TASK 2; DELAY 1; ABORT " + victim + "; ACCEPT 2",
                "ACCEPT 1", "CALL 1 0");
            CHECK.run(desk, 500, STUCK);
            CHECK.queue(desk, 1, 0, victim == 2 ? 3 : 2, victim == 4 ? 3 : 4);
            CHECK.task(desk, victim, 8, 0, 0, 14, 0);
        }
        CHECK.about("such a one leaves the QUEUE of itself");
        RendezvousDesk desk = Script.desk("TASK 1; DELAY 1; ABORT 1; ACCEPT 0", "CALL 1 2");
        CHECK.run(desk, 500, STUCK);
        CHECK.queue(desk, 1, 2);
        CHECK.task(desk, 1, 8, 0, 0, 14, 0);
    }

    private static void abortLeavesTheRow() {
        for (int victim = 1; victim <= 3; victim++) {
            CHECK.about("such a one leaves the row: " + victim);
            RendezvousDesk desk = Script.desk("TASK 1; TASK 2; TASK 2; ABORT " + victim + "; ACCEPT 0", "GO 0", "GO 0");
            CHECK.run(desk, 13, LONG);
            CHECK.row(desk, 0, victim == 1 ? 2 : 1, victim == 3 ? 2 : 3);
            CHECK.task(desk, victim, 8, 0, 0, 14, 0);
        }
    }

    private static void abortWithEightFrames() {
        CHECK.about("its FRAMES go from the top on, callers of MEETINGs being READY, with 11 raised");
        RendezvousDesk desk = Script.desk("TASK 1; TASK 2; TASK 2; DELAY 2; ABORT 1; ACCEPT 0",
            "BLOCK; HANDLE 9; ACCEPT 0; BLOCK; HANDLE 9; ACCEPT 0; BLOCK; BLOCK; DELAY 50", "HANDLE 2; CALL 1 0; SHOW");
        CHECK.run(desk, 17, LONG);
        CHECK.task(desk, 1, 5, 8, 0, -1, 8);
        CHECK.run(desk, 500, STUCK);
        CHECK.task(desk, 1, 8, 8, 0, 14, 0);
        CHECK.notes(desk, 3, 11, 2, 11);
        CHECK.counts(desk, 4, 2, 23, 10);
    }

    private static void whatDependedOnItsBlocks() {
        CHECK.about("what depended on its BLOCKs depends on it");
        RendezvousDesk desk = Script.desk("TASK 1; TASK 2; DELAY 1; ABORT 2; ACCEPT 0", "ACCEPT 0; DELAY 5; DONE; ACCEPT 1",
            "BLOCK; HANDLE 9; BLOCK; TASK 3; ACCEPT 0", "CALL 1 0");
        CHECK.run(desk, 13, LONG);
        CHECK.task(desk, 2, 7, 4, 3, 14, 0);
        CHECK.task(desk, 3, 2, 0, 0, -1, 0);
        CHECK.due("the master", 2, desk.task(3, 5));
        CHECK.run(desk, 500, STUCK);
        CHECK.task(desk, 2, 8, 4, 3, 14, 0);
        CHECK.task(desk, 3, 8, 0, 0, 14, 0);
    }

    private static void abortOfItself() {
        CHECK.about("ABORT of the task that does it");
        RendezvousDesk desk = Script.desk("TASK 1; TASK 2; ACCEPT 0", "ACCEPT 0; ABORT 1; PUT 1",
            "HANDLE 2; CALL 1 0; SHOW");
        CHECK.run(desk, 500, STUCK);
        CHECK.task(desk, 1, 8, 1, 0, 14, 0);
        CHECK.notes(desk, 2, 11);
        CHECK.about("ABORT of task 0 ends the run");
        desk = Script.desk("TASK 1; TASK 1; GO 2", "DELAY 0; ABORT 0; PUT 1");
        CHECK.run(desk, 500, OVER);
        CHECK.notes(desk);
        for (int t = 0; t < 3; t++) {
            CHECK.due("what " + t + " was completed with", 14, desk.task(t, 3));
            CHECK.due("the STATE of " + t, 8, desk.task(t, 0));
        }
        CHECK.task(desk, 1, 8, 1);
        CHECK.task(desk, 2, 8, 0);
        CHECK.row(desk);
    }

    private static void abortOfItsOwnServer() {
        CHECK.about("ABORT of the caller by its server, in the MEETING");
        RendezvousDesk desk = Script.desk("TASK 1; TASK 2; ACCEPT 0", "ACCEPT 0; ABORT 2; SET 5; DONE; SHOW; ACCEPT 1",
            "CALL 1 0; PUT 1");
        CHECK.run(desk, 500, STUCK);
        CHECK.task(desk, 2, 8, 0, 5, 14, 0);
        CHECK.task(desk, 1, 3, 5, 5, -1, 0);
        CHECK.notes(desk, 1, 5);
    }
}
