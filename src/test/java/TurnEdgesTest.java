/** The edges that the Terms name under TURNS, and promise 10 of state(3): a method for each sentence. */
public final class TurnEdgesTest {
    private static final int OVER = RendezvousDesk.OVER, STUCK = RendezvousDesk.STUCK, LONG = RendezvousDesk.LONG;
    private static final String SERVER = "SELECT; WHEN 0 4; IFX 1 4; TERMINATE; DONE; GO 0";
    private static final Check CHECK = new Check("TurnEdgesTest");

    public static void main(String[] args) {
        aTurnHasThreeInstructions();
        aTurnEndsWhenItIsNotReady();
        theTaskStandsFirstInItsTurn();
        ifItIsReadyThenItGoesToTheEnd();
        whatIsRaisedFirstIsNoInstruction();
        whatIsRaisedFirstMayEndTheTurn();
        whatAnInstructionRaisesIsOfItsTurn();
        endingTogetherOfAllKinds();
        endingTogetherTakesTheFirstByNumbers();
        endingTogetherGoesByNumbers();
        endingTogetherNeedsAll();
        endingTogetherNeedsATerminateThatCounts();
        endingTogetherAlsoNotDirectly();
        endingTogetherIsAsIfAborted();
        endingTogetherOfOneThatRaised();
        endingTogetherWaitsForReadyOnes();
        endingTogetherComesBeforeTime();
        theLeastTime();
        theSameTimeByNumbers();
        timeWaitsForReadyOnes();
        stuckWithoutAnyTime();
        overNotWhileCompleted();
        overWithTheLastInstructionAllowed();
        stuckWithTheLastInstructionAllowed();
        longBeforeAnotherInstruction();
        longCountsTheEndBehindTheLast();
        longAfterWhatIsNoInstruction();
        aTurnCountsWhenItBegins();
        CHECK.end();
    }

    private static void aTurnHasThreeInstructions() {
        CHECK.about("a turn: does instructions until it did 3");
        int[] turns = {1, 1, 1, 2, 2, 2, 3};
        for (int n = 0; n < turns.length; n++) {
            RendezvousDesk desk = Script.desk("PUT 1; ".repeat(n) + "END");
            CHECK.run(desk, 500, OVER);
            CHECK.counts(desk, 1, 0, n + 1, turns[n]);
        }
        CHECK.about("a turn of 3, then another's");
        RendezvousDesk desk = Script.desk("TASK 1; PUT 1; PUT 2; PUT 3; PUT 4", "PUT 5; PUT 6; PUT 7; PUT 8");
        CHECK.run(desk, 500, OVER);
        CHECK.notes(desk, 0, 1, 0, 2, 1, 5, 1, 6, 1, 7, 0, 3, 0, 4, 1, 8);
        CHECK.counts(desk, 2, 0, 11, 4);
    }

    private static void aTurnEndsWhenItIsNotReady() {
        CHECK.about("a turn: does instructions until it is not READY");
        RendezvousDesk desk = Script.desk("TASK 1; DELAY 1; PUT 1; PUT 2; PUT 3; PUT 4", "PUT 5");
        CHECK.run(desk, 500, OVER);
        CHECK.notes(desk, 1, 5, 0, 1, 0, 2, 0, 3, 0, 4);
        CHECK.counts(desk, 2, 1, 9, 4);
        CHECK.about("not READY with the third instruction: it does not go to the end");
        desk = Script.desk("PUT 1; PUT 2; ACCEPT 0");
        CHECK.run(desk, 500, STUCK);
        CHECK.counts(desk, 1, 0, 3, 1);
        CHECK.row(desk);
    }

    private static void theTaskStandsFirstInItsTurn() {
        CHECK.about("the first of the row stays there in its turn");
        RendezvousDesk desk = Script.desk("TASK 1; TASK 1; GO 2", "GO 0");
        CHECK.run(desk, 1, LONG);
        CHECK.row(desk, 0, 1);
        CHECK.run(desk, 2, LONG);
        CHECK.row(desk, 0, 1, 2);
    }

    private static void ifItIsReadyThenItGoesToTheEnd() {
        CHECK.about("if it is READY then, it goes to the end: behind those that got READY in its turn");
        RendezvousDesk desk = Script.desk("TASK 1; TASK 1; GO 2", "GO 0");
        CHECK.run(desk, 3, LONG);
        CHECK.row(desk, 1, 2, 0);
        CHECK.run(desk, 6, LONG);
        CHECK.row(desk, 2, 0, 1);
        CHECK.run(desk, 9, LONG);
        CHECK.row(desk, 0, 1, 2);
    }

    private static void whatIsRaisedFirstIsNoInstruction() {
        CHECK.about("having raised what is to be raised there, it does 3 instructions");
        RendezvousDesk desk = Script.desk("TASK 1; HANDLE 3; CALL 1 0; PUT 1; PUT 2; PUT 3; PUT 4", "ACCEPT 0; RAISE 2");
        CHECK.run(desk, 7, LONG);
        CHECK.counts(desk, 2, 0, 7, 3);
        CHECK.run(desk, 8, LONG);
        CHECK.notes(desk, 0, 1, 0, 2, 0, 3);
        CHECK.counts(desk, 2, 0, 8, 4);
        CHECK.run(desk, 10, OVER);
        CHECK.counts(desk, 2, 0, 10, 4);
    }

    private static void whatIsRaisedFirstMayEndTheTurn() {
        CHECK.about("a turn in which something is raised alone");
        RendezvousDesk desk = Script.desk("TASK 1; CALL 1 0", "ACCEPT 0; RAISE 3");
        CHECK.run(desk, 4, OVER);
        CHECK.counts(desk, 2, 0, 4, 3);
        CHECK.about("a turn in which something is raised, and a BLOCK waits");
        desk = Script.desk("TASK 1; BLOCK; TASK 2; CALL 1 0", "ACCEPT 0; RAISE 3", "ACCEPT 0");
        CHECK.run(desk, 500, STUCK);
        CHECK.task(desk, 0, 6, 3, 2, -1, 1);
        CHECK.counts(desk, 3, 0, 7, 6);
    }

    private static void whatAnInstructionRaisesIsOfItsTurn() {
        CHECK.about("an instruction that raises is one of the three");
        RendezvousDesk desk = Script.desk("HANDLE 2; RAISE 1; PUT 1; PUT 2");
        CHECK.run(desk, 3, LONG);
        CHECK.counts(desk, 1, 0, 3, 2);
        CHECK.notes(desk, 0, 1);
        CHECK.about("the third instruction raises: it is handled before the turn ends");
        desk = Script.desk("TASK 1; HANDLE 3; RAISE 4; SHOW", "PUT 1");
        CHECK.run(desk, 3, LONG);
        CHECK.task(desk, 0, 0, 3, 4, -1, 0);
        CHECK.row(desk, 1, 0);
        CHECK.counts(desk, 2, 0, 3, 2);
        CHECK.about("the third instruction raises, and the task is completed");
        desk = Script.desk("PUT 1; PUT 2; RAISE 4");
        CHECK.run(desk, 3, OVER);
        CHECK.counts(desk, 1, 0, 3, 1);
    }

    private static void endingTogetherOfAllKinds() {
        CHECK.about("ending together: one that is LEAVING");
        RendezvousDesk desk = Script.desk("BLOCK; TASK 1; TASK 2; LEAVE; PUT 1", SERVER, "");
        CHECK.run(desk, 500, OVER);
        CHECK.task(desk, 1, 8, 0, 0, 0, 0);
        CHECK.task(desk, 2, 8, 0, 0, 0, 0);
        CHECK.notes(desk, 0, 1);
        CHECK.about("ending together: one that is COMPLETED");
        desk = Script.desk("TASK 1; TASK 2; RAISE 5", SERVER, "");
        CHECK.run(desk, 500, OVER);
        CHECK.task(desk, 0, 8, 2, 2, 5, 0);
        CHECK.task(desk, 1, 8, 0, 0, 0, 0);
        CHECK.about("ending together: all eight");
        desk = Script.desk("BLOCK; " + "TASK 1; ".repeat(7) + "LEAVE; PUT 1", SERVER);
        CHECK.run(desk, 500, OVER);
        for (int t = 1; t < 8; t++) {
            CHECK.task(desk, t, 8, 0, 0, 0, 0);
        }
        CHECK.notes(desk, 0, 1);
        CHECK.about("ending together: not one that does something else");
        desk = Script.desk("TASK 1; ACCEPT 0", SERVER);
        CHECK.run(desk, 500, STUCK);
        CHECK.task(desk, 1, 4, 0, 0, -1, 0);
    }

    private static void endingTogetherTakesTheFirstByNumbers() {
        CHECK.about("ending together: the first one by numbers, and that one alone");
        RendezvousDesk desk = Script.desk("TASK 1; TASK 1; ACCEPT 0", "BLOCK; TASK 2; LEAVE; DELAY 3", SERVER);
        CHECK.run(desk, 11, LONG);
        CHECK.task(desk, 1, 0, 3, 3, -1, 0);
        CHECK.task(desk, 3, 8, 0, 0, 0, 0);
        CHECK.task(desk, 2, 6, 2, 4, -1, 1);
        CHECK.task(desk, 4, 4, 0, 0, -1, 0);
        CHECK.row(desk, 1);
        CHECK.run(desk, 500, STUCK);
        CHECK.task(desk, 4, 8, 0, 0, 0, 0);
        CHECK.task(desk, 2, 8, 4, 4, 0, 0);
        CHECK.about("ending together: the first one for which they all are");
        desk = Script.desk("BLOCK; TASK 1; TASK 2; LEAVE; PUT 1", "TASK 3", "DELAY 9", SERVER);
        CHECK.run(desk, 8, LONG);
        CHECK.counts(desk, 4, 9);
        CHECK.task(desk, 1, 8, 1, 3, 0, 0);
        CHECK.task(desk, 3, 8, 0, 0, 0, 0);
        CHECK.task(desk, 0, 6, 3, 2, -1, 1);
        CHECK.about("ending together: not all are if one of them is COMPLETED");
        desk = Script.desk("TASK 3; BLOCK; TASK 1; TASK 2; DELAY 2; LEAVE; PUT 1", "TASK 2",
            "DELAY 2; SELECT; WHEN 0 5; IFX 1 5; TERMINATE; DONE", "DELAY 1; HANDLE 4; CALL 3 1; END; CALL 4 0; PUT 5");
        CHECK.run(desk, 500, OVER);
        CHECK.notes(desk, 1, 5, 0, 1);
        CHECK.task(desk, 3, 8, 1, 0, 0, 0);
        CHECK.task(desk, 4, 8, 6, 11, 0, 0);
    }

    private static void endingTogetherGoesByNumbers() {
        CHECK.about("ending together: the latter ones, by numbers");
        RendezvousDesk desk = Script.desk("TASK 2; TASK 3; BLOCK; TASK 1; TASK 1; LEAVE; PUT 1", SERVER,
            "DELAY 1; HANDLE 3; CALL 4 1; SHOW", "DELAY 1; HANDLE 3; CALL 3 1; SHOW");
        CHECK.run(desk, 500, OVER);
        CHECK.notes(desk, 0, 1, 1, 11, 2, 11);
        desk = Script.desk("TASK 2; TASK 3; BLOCK; TASK 1; TASK 1; DELAY 2; LEAVE; PUT 1", SERVER,
            "DELAY 1; HANDLE 3; CALL 4 1; SHOW", "DELAY 1; HANDLE 3; CALL 3 1; SHOW");
        CHECK.run(desk, 500, OVER);
        CHECK.notes(desk, 2, 11, 1, 11, 0, 1);
    }

    private static void endingTogetherNeedsAll() {
        String[] others = {"ACCEPT 0", "SELECT; WHEN 0 4", "CALL 0 0", "BLOCK; TASK 3; LEAVE", "CALL 1 1"};
        for (String other : others) {
            CHECK.about("ending together: not if one of them is in " + other);
            RendezvousDesk desk = Script.desk("BLOCK; TASK 1; TASK 2; LEAVE; PUT 1", SERVER, other, "ACCEPT 0");
            CHECK.run(desk, 500, STUCK);
            CHECK.task(desk, 0, 6, 3, 2, -1, 1);
            CHECK.task(desk, 1, 4, 0, 0, -1, 0);
        }
        CHECK.about("ending together: not if one of them is DELAYED, but when that one has ended");
        RendezvousDesk desk = Script.desk("BLOCK; TASK 1; TASK 2; LEAVE; PUT 1", SERVER, "DELAY 7");
        CHECK.run(desk, 6, LONG);
        CHECK.counts(desk, 3, 7);
        CHECK.task(desk, 1, 4, 0, 0, -1, 0);
        CHECK.run(desk, 500, OVER);
        CHECK.task(desk, 1, 8, 0, 0, 0, 0);
    }

    private static void endingTogetherNeedsATerminateThatCounts() {
        CHECK.about("ending together: a TERMINATE behind an AFTER does not count");
        RendezvousDesk desk = Script.desk("BLOCK; TASK 1; LEAVE", "LIMIT 6; SELECT; WHEN 0 5; AFTER 5; TERMINATE; PUT 1");
        CHECK.run(desk, 500, OVER);
        CHECK.counts(desk, 2, 6);
        CHECK.notes(desk, 1, 1);
        CHECK.about("ending together: a TERMINATE behind another instruction is none of the SELECT");
        desk = Script.desk("BLOCK; TASK 1; LEAVE", "SELECT; WHEN 0 3; PUT 1; TERMINATE");
        CHECK.run(desk, 500, STUCK);
        CHECK.task(desk, 1, 4, 0, 0, -1, 0);
        CHECK.about("ending together: a TERMINATE of an earlier SELECT does not count");
        desk = Script.desk("TASK 1; CALL 1 0; BLOCK; LEAVE", "SELECT; WHEN 0 3; TERMINATE; DONE; SELECT; WHEN 1 0");
        CHECK.run(desk, 500, STUCK);
        CHECK.task(desk, 1, 4, 4, 1, -1, 0);
        CHECK.task(desk, 0, 7, 4, 1, 0, 0);
    }

    private static void endingTogetherAlsoNotDirectly() {
        CHECK.about("ending together: those that depend not directly, too");
        RendezvousDesk desk = Script.desk("BLOCK; TASK 2; LEAVE; PUT 1", SERVER, "BLOCK; TASK 1; SELECT; TERMINATE");
        CHECK.run(desk, 500, OVER);
        CHECK.task(desk, 1, 8, 2, 2, 0, 0);
        CHECK.task(desk, 2, 8, 0, 0, 0, 0);
        CHECK.notes(desk, 0, 1);
        CHECK.about("ending together: not if one that depends not directly does something else");
        desk = Script.desk("BLOCK; TASK 2; LEAVE; PUT 1", "ACCEPT 0", "TASK 1; SELECT; TERMINATE");
        CHECK.run(desk, 500, STUCK);
        CHECK.task(desk, 1, 4, 1, 2, -1, 0);
        CHECK.task(desk, 2, 3, 0, 0, -1, 0);
        CHECK.about("ending together: those of another BLOCK do not matter");
        desk = Script.desk("BLOCK; TASK 2; BLOCK; TASK 1; LEAVE; PUT 1; ACCEPT 0", SERVER, "ACCEPT 0");
        CHECK.run(desk, 500, STUCK);
        CHECK.task(desk, 2, 8, 0, 0, 0, 0);
        CHECK.task(desk, 1, 3, 0, 0, -1, 0);
        CHECK.notes(desk, 0, 1);
    }

    private static void endingTogetherIsAsIfAborted() {
        CHECK.about("ending together: completed as if aborted, but with 0: callers of MEETINGs and in QUEUES");
        RendezvousDesk desk = Script.desk("TASK 2; TASK 3; BLOCK; TASK 1; DELAY 2; LEAVE; PUT 1",
            "ACCEPT 0; BLOCK; HANDLE 0; SELECT; WHEN 1 0; TERMINATE", "DELAY 1; HANDLE 3; CALL 3 0; SHOW",
            "DELAY 1; HANDLE 3; CALL 3 2; SHOW");
        CHECK.run(desk, 500, OVER);
        CHECK.task(desk, 3, 8, 3, 0, 0, 0);
        CHECK.notes(desk, 1, 11, 2, 11, 0, 1);
        CHECK.due("the TIME", 2, desk.state(1));
    }

    private static void endingTogetherOfOneThatRaised() {
        CHECK.about("ending together: one that is LEAVING with something raised");
        RendezvousDesk desk = Script.desk("HANDLE 4; BLOCK; TASK 1; RAISE 2; SHOW", SERVER);
        CHECK.run(desk, 500, OVER);
        CHECK.notes(desk, 0, 2);
        CHECK.task(desk, 1, 8, 0, 0, 0, 0);
    }

    private static void endingTogetherWaitsForReadyOnes() {
        CHECK.about("ending together: not while one is READY");
        RendezvousDesk desk = Script.desk("TASK 2; BLOCK; TASK 1; LEAVE", SERVER, "GO 0");
        CHECK.run(desk, 100, LONG);
        CHECK.task(desk, 0, 6, 3, 2, -1, 1);
        CHECK.task(desk, 2, 4, 0, 0, -1, 0);
    }

    private static void endingTogetherComesBeforeTime() {
        CHECK.about("ending together: before the TIME passes");
        RendezvousDesk desk = Script.desk("TASK 2; BLOCK; TASK 1; LEAVE; PUT 1", SERVER, "DELAY 5; PUT 2");
        CHECK.run(desk, 7, LONG);
        CHECK.counts(desk, 3, 0);
        CHECK.notes(desk, 0, 1);
        CHECK.run(desk, 500, OVER);
        CHECK.notes(desk, 0, 1, 1, 2);
    }

    private static void theLeastTime() {
        CHECK.about("the TIME becomes the least at which something is to be given up, or a DELAY to end");
        String[] waits = {"DELAY 3; GO 5", "LIMIT 3; LATE 0 0; GO 5; GO 5", "LIMIT 3; SELECT; AFTER 5"};
        for (String wait : waits) {
            RendezvousDesk desk = Script.desk("TASK 1; TASK 2; DELAY 4; PUT 1", wait, "DELAY 5; PUT 2");
            int done = wait.startsWith("DELAY") ? 5 : 6;
            CHECK.run(desk, done, LONG);
            CHECK.counts(desk, 3, 3, done);
            CHECK.row(desk, 1);
            CHECK.run(desk, 500, OVER);
            CHECK.counts(desk, 3, 5);
            CHECK.notes(desk, 0, 1, 2, 2);
        }
    }

    private static void theSameTimeByNumbers() {
        CHECK.about("those are READY, by numbers");
        RendezvousDesk desk = Script.desk("TASK 1; TASK 2; TASK 3; DELAY 4; PUT 0", "DELAY 1; DELAY 3; PUT 1",
            "LIMIT 4; LATE 0 0; END; PUT 2", "LIMIT 4; SELECT; WHEN 0 0; AFTER 4; PUT 3");
        CHECK.run(desk, 10, LONG);
        CHECK.counts(desk, 4, 4, 10);
        CHECK.row(desk, 0, 1, 2, 3);
        CHECK.queue(desk, 0, 0);
    }

    private static void timeWaitsForReadyOnes() {
        CHECK.about("the TIME does not pass while one is READY");
        RendezvousDesk desk = Script.desk("TASK 1; DELAY 1", "GO 0");
        CHECK.run(desk, 500, LONG);
        CHECK.counts(desk, 2, 0, 500);
        CHECK.task(desk, 0, 5, 1, 1, -1, 0);
    }

    private static void stuckWithoutAnyTime() {
        CHECK.about("if there is none the run is STUCK");
        for (String wait : new String[] {"ACCEPT 0", "CALL 0 0", "SELECT; WHEN 0 0", "SELECT; TERMINATE"}) {
            RendezvousDesk desk = Script.desk("DELAY 3; " + wait);
            CHECK.run(desk, 500, STUCK);
            CHECK.counts(desk, 1, 3, 2, 2);
            CHECK.row(desk);
            CHECK.due("what it was completed with", -1, desk.task(0, 3));
        }
    }

    private static void overNotWhileCompleted() {
        CHECK.about("OVER when task 0 is TERMINATED, not when it is COMPLETED");
        RendezvousDesk desk = Script.desk("TASK 1", "ACCEPT 0");
        CHECK.run(desk, 500, STUCK);
        CHECK.task(desk, 0, 7, 1, 1, 0, 0);
        desk = Script.desk("TASK 1", "DELAY 9; PUT 1");
        CHECK.run(desk, 500, OVER);
        CHECK.notes(desk, 1, 1);
        CHECK.counts(desk, 2, 9, 5);
    }

    private static void overWithTheLastInstructionAllowed() {
        CHECK.about("OVER with the last instruction allowed");
        RendezvousDesk desk = Script.desk("PUT 1; PUT 2; PUT 3; END");
        CHECK.run(desk, 3, LONG);
        CHECK.run(desk, 4, OVER);
        CHECK.run(desk, 5, OVER);
        CHECK.counts(desk, 1, 0, 4, 2);
        desk = Script.desk("TASK 1; RAISE 1", "DELAY 1");
        CHECK.run(desk, 3, LONG);
        CHECK.run(desk, 4, OVER);
    }

    private static void stuckWithTheLastInstructionAllowed() {
        CHECK.about("STUCK with the last instruction allowed: another one would not be");
        RendezvousDesk desk = Script.desk("PUT 1; ACCEPT 0");
        CHECK.run(desk, 1, LONG);
        CHECK.run(desk, 2, STUCK);
        CHECK.counts(desk, 1, 0, 2, 1);
    }

    private static void longBeforeAnotherInstruction() {
        RendezvousDesk desk = Script.desk("SET 1; PUT 7; ADD 1; GO 1");
        for (int most = 1; most <= 10; most++) {
            CHECK.about("LONG if as many instructions were done as are allowed: " + most);
            CHECK.run(desk, most, LONG);
            CHECK.due("instructions done", most, desk.state(2));
            CHECK.due("how many were NOTED", (most + 1) / 3, desk.state(4));
            CHECK.row(desk, 0);
        }
        CHECK.about("LONG after 500");
        CHECK.run(desk, 500, LONG);
        CHECK.counts(desk, 1, 0, 500, 167);
    }

    private static void longCountsTheEndBehindTheLast() {
        CHECK.about("LONG: what a task does behind its last instruction counts as one, too");
        RendezvousDesk desk = Script.desk("PUT 1; PUT 2");
        CHECK.run(desk, 2, LONG);
        CHECK.task(desk, 0, 0, 2, 0, -1, 0);
        CHECK.run(desk, 3, OVER);
        CHECK.counts(desk, 1, 0, 3, 1);
    }

    private static void longAfterWhatIsNoInstruction() {
        CHECK.about("no instruction is left: the TIME passes");
        RendezvousDesk desk = Script.desk("DELAY 5; PUT 1");
        CHECK.run(desk, 1, LONG);
        CHECK.counts(desk, 1, 5, 1, 2);
        CHECK.task(desk, 0, 0, 1, 0, -1, 0);
        CHECK.about("no instruction is left: something is raised");
        desk = Script.desk("TASK 1; HANDLE 4; CALL 1 0; PUT 1; PUT 2", "ACCEPT 0; RAISE 3");
        CHECK.run(desk, 5, LONG);
        CHECK.task(desk, 0, 0, 4, 3, -1, 0);
        CHECK.counts(desk, 2, 0, 5, 3);
        CHECK.about("no instruction is left: they end together");
        desk = Script.desk("TASK 1", "SELECT; TERMINATE");
        CHECK.run(desk, 3, OVER);
        CHECK.counts(desk, 2, 0, 3, 2);
    }

    private static void aTurnCountsWhenItBegins() {
        CHECK.about("state(3): a turn counts when it begins, also one in which LONG comes before its first instruction");
        RendezvousDesk desk = Script.desk("PUT 1; PUT 2; PUT 3; PUT 4; PUT 5; PUT 6; PUT 7");
        int[] turns = {1, 1, 2, 2, 2, 3, 3};
        for (int most = 1; most <= 7; most++) {
            CHECK.run(desk, most, LONG);
            CHECK.counts(desk, 1, 0, most, turns[most - 1]);
        }
        CHECK.run(desk, 8, OVER);
        CHECK.counts(desk, 1, 0, 8, 3);
    }
}
