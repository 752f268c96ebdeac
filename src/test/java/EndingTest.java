/** Blocks, exceptions, completion, abortion and ending together, with what promises 5, 9 and 10 say of them. */
public final class EndingTest {
    private static final int OVER = RendezvousDesk.OVER, STUCK = RendezvousDesk.STUCK, LONG = RendezvousDesk.LONG;
    private static final Check CHECK = new Check("EndingTest");

    public static void main(String[] args) {
        leaveWaits();
        dependence();
        handlers();
        raisedThroughMeetings();
        raisedThroughBlocks();
        completedWaits();
        completedLosesCallers();
        abortOfNoOne();
        abortOfWaitingOnes();
        abortOfItself();
        abortTakesDependents();
        abortFreesCallers();
        abortOfServedOnes();
        abortHandsBlocksOver();
        abortLeavesOtherBlocks();
        abortOfALeavingServer();
        abortIsOfOneRun();
        abortInChains();
        endTogether();
        endTogetherNot();
        endTogetherInMeetings();
        endTogetherBeforeTime();
        CHECK.end();
    }

    private static void leaveWaits() {
        CHECK.about("LEAVE");
        RendezvousDesk desk = Script.desk("BLOCK; TASK 1; TASK 1; LEAVE; PUT 1", "DELAY 2; PUT 2");
        CHECK.due("run(6)", LONG, desk.run(6));
        CHECK.task(desk, 0, 6, 3, 2, -1, 1);
        CHECK.due("run(8)", LONG, desk.run(8));
        CHECK.task(desk, 1, 8, 2, 0, 0, 0);
        CHECK.task(desk, 0, 6, 3, 2, -1, 1);
        CHECK.due("run(10)", LONG, desk.run(10));
        CHECK.task(desk, 0, 0, 4, 2, -1, 0);
        CHECK.row(desk, 0);
        CHECK.due("run", OVER, desk.run(500));
        CHECK.notes(desk, 1, 2, 2, 2, 0, 1);
        CHECK.counts(desk, 3, 2, 12, 7);
        CHECK.about("LEAVE of an inner BLOCK");
        desk = Script.desk("BLOCK; TASK 1; BLOCK; LEAVE; PUT 1; LEAVE; PUT 2", "DELAY 1; PUT 3");
        CHECK.due("run", OVER, desk.run(500));
        CHECK.notes(desk, 0, 1, 1, 3, 0, 2);
    }

    private static void dependence() {
        CHECK.about("the topmost BLOCK, under other FRAMES");
        RendezvousDesk desk = Script.desk("BLOCK; BLOCK; HANDLE 9; TASK 1; OVER; LEAVE; PUT 1; LEAVE", "DELAY 1; PUT 3");
        CHECK.due("run", OVER, desk.run(500));
        CHECK.notes(desk, 1, 3, 0, 1);
        CHECK.about("not a BLOCK that comes later");
        desk = Script.desk("TASK 1; BLOCK; LEAVE; PUT 1", "DELAY 1; PUT 3");
        CHECK.due("run", OVER, desk.run(500));
        CHECK.notes(desk, 0, 1, 1, 3);
        CHECK.about("on whom they depend");
        desk = Script.desk("TASK 1; BLOCK; TASK 2; LEAVE", "TASK 2; END", "DELAY 1");
        CHECK.due("run", OVER, desk.run(500));
        int[][] due = {{0, -1, 0}, {1, 0, 1}, {2, 0, 2}, {3, 1, 2}};
        for (int[] one : due) {
            CHECK.due("the master of " + one[0], one[1], desk.task(one[0], 5));
            CHECK.due("the body of " + one[0], one[2], desk.task(one[0], 4));
        }
    }

    private static void handlers() {
        CHECK.about("HANDLE");
        RendezvousDesk desk = Script.desk("HANDLE 5; HANDLE 4; RAISE 9; PUT 1; RAISE 8; SHOW; RAISE 1");
        CHECK.due("run", OVER, desk.run(500));
        CHECK.notes(desk, 0, 8);
        CHECK.task(desk, 0, 8, 6, 8, 1, 0);
        CHECK.about("OVER");
        desk = Script.desk("HANDLE 6; HANDLE 5; OVER; RAISE 2; END; PUT 1; SHOW");
        CHECK.due("run", OVER, desk.run(500));
        CHECK.notes(desk, 0, 2);
        CHECK.about("a BLOCK goes above a HANDLER");
        desk = Script.desk("HANDLE 4; BLOCK; BLOCK; RAISE 5; SHOW");
        CHECK.due("run", OVER, desk.run(500));
        CHECK.notes(desk, 0, 5);
        CHECK.task(desk, 0, 8, 5, 5, 0, 0);
    }

    private static void raisedThroughMeetings() {
        CHECK.about("raised in a MEETING");
        RendezvousDesk desk = Script.desk("TASK 1; HANDLE 4; CALL 1 0; PUT 1; SHOW",
            "HANDLE 4; ACCEPT 0; ADD 1; RAISE 6; SHOW");
        CHECK.due("run(7)", LONG, desk.run(7));
        CHECK.task(desk, 0, 0, 2, 1, -1, 1);
        CHECK.task(desk, 1, 0, 4, 6, -1, 0);
        CHECK.row(desk, 1, 0);
        CHECK.due("run", OVER, desk.run(500));
        CHECK.notes(desk, 1, 6, 0, 6);
        CHECK.about("handled in a MEETING");
        desk = Script.desk("TASK 1; CALL 1 0; SHOW", "ACCEPT 0; HANDLE 3; RAISE 6; DONE");
        CHECK.due("run", OVER, desk.run(500));
        CHECK.notes(desk, 0, 6);
        CHECK.about("an END in a MEETING");
        desk = Script.desk("TASK 1; CALL 1 0", "ACCEPT 0");
        CHECK.due("run", OVER, desk.run(500));
        CHECK.task(desk, 0, 8, 1, 1, 12, 0);
        CHECK.task(desk, 1, 8, 1, 1, 12, 0);
        CHECK.about("two callers, the top one first");
        desk = Script.desk("TASK 1; TASK 2; CALL 1 0; PUT 1", "DELAY 1; ACCEPT 0; ACCEPT 1; RAISE 7", "CALL 1 1");
        CHECK.due("run(8)", OVER, desk.run(8));
        CHECK.task(desk, 0, 8, 2, 2, 7, 0);
        CHECK.task(desk, 2, 8, 0, 0, 7, 0);
        desk = Script.desk("TASK 1; TASK 2; HANDLE 5; CALL 1 0; PUT 1; SHOW",
            "DELAY 1; ACCEPT 0; ACCEPT 1; RAISE 7", "HANDLE 2; CALL 1 1; SHOW");
        CHECK.due("run(10)", LONG, desk.run(10));
        CHECK.row(desk, 2, 0);
        CHECK.due("run", OVER, desk.run(500));
        CHECK.notes(desk, 2, 7, 0, 7);
    }

    private static void raisedThroughBlocks() {
        CHECK.about("raised in a BLOCK");
        RendezvousDesk desk = Script.desk("HANDLE 5; BLOCK; TASK 1; BLOCK; RAISE 4; SHOW", "DELAY 2; PUT 1");
        CHECK.due("run(6)", LONG, desk.run(6));
        CHECK.counts(desk, 2, 2, 6, 4);
        CHECK.task(desk, 0, 6, 4, 1, -1, 2);
        CHECK.due("run(8)", LONG, desk.run(8));
        CHECK.task(desk, 0, 0, 5, 4, -1, 0);
        CHECK.counts(desk, 2, 2, 8, 5);
        CHECK.due("run", OVER, desk.run(500));
        CHECK.notes(desk, 1, 1, 0, 4);
        CHECK.about("the BLOCK has gone, the turn has not come");
        desk = Script.desk("TASK 1; BLOCK; TASK 2; RAISE 4", "GO 0", "DELAY 0; DELAY 0; DELAY 0; END");
        CHECK.due("run(14)", LONG, desk.run(14));
        CHECK.task(desk, 0, 0, 3, 2, -1, 0);
        CHECK.row(desk, 1, 0);
    }

    private static void completedWaits() {
        CHECK.about("COMPLETED");
        RendezvousDesk desk = Script.desk("TASK 1; RAISE 3", "TASK 2; END", "DELAY 5; PUT 1");
        CHECK.due("run(5)", LONG, desk.run(5));
        CHECK.task(desk, 0, 7, 1, 1, 3, 0);
        CHECK.task(desk, 1, 7, 1, 2, 0, 0);
        CHECK.task(desk, 2, 0, 1, 0, -1, 0);
        CHECK.due("run", OVER, desk.run(500));
        CHECK.task(desk, 0, 8, 1, 1, 3, 0);
        CHECK.task(desk, 1, 8, 1, 2, 0, 0);
        CHECK.counts(desk, 3, 5, 7, 4);
    }

    private static void completedLosesCallers() {
        CHECK.about("callers of one that ends");
        RendezvousDesk desk = Script.desk("TASK 1; TASK 2; TASK 3; HANDLE 6; CALL 1 1; PUT 1; SHOW",
            "DELAY 1; END", "HANDLE 2; CALL 1 2; SHOW", "HANDLE 2; CALL 1 1; SHOW");
        CHECK.due("run(11)", LONG, desk.run(11));
        CHECK.task(desk, 1, 8, 1, 0, 0, 0);
        CHECK.task(desk, 3, 0, 2, 11, -1, 0);
        CHECK.task(desk, 0, 0, 4, 3, -1, 1);
        CHECK.row(desk, 3, 0, 2);
        CHECK.queue(desk, 1, 1);
        CHECK.queue(desk, 1, 2);
        CHECK.due("run", OVER, desk.run(500));
        CHECK.notes(desk, 3, 11, 0, 11, 2, 11);
        CHECK.about("callers come before the one that waits for its end");
        desk = Script.desk("BLOCK; TASK 1; TASK 2; LEAVE", "DELAY 1; END", "HANDLE 2; CALL 1 0; GO 2");
        CHECK.due("run(8)", LONG, desk.run(8));
        CHECK.row(desk, 2);
        desk = Script.desk("TASK 2; BLOCK; TASK 1; LEAVE", "DELAY 1; END", "HANDLE 2; CALL 2 0; GO 2");
        CHECK.due("run(8)", LONG, desk.run(8));
        CHECK.row(desk, 1, 0);
    }

    private static void abortOfNoOne() {
        CHECK.about("ABORT of no one");
        RendezvousDesk desk = Script.desk("TASK 1; ABORT 7; DELAY 1; ABORT 1; PUT 1", "END");
        CHECK.due("run", OVER, desk.run(500));
        CHECK.notes(desk, 0, 1);
        CHECK.task(desk, 1, 8, 0, 0, 0, 0);
        CHECK.about("ABORT of a COMPLETED one");
        desk = Script.desk("TASK 1; DELAY 1; ABORT 1; PUT 1", "TASK 2; END", "DELAY 5; PUT 2");
        CHECK.due("run", OVER, desk.run(500));
        CHECK.notes(desk, 0, 1, 2, 2);
        CHECK.task(desk, 1, 8, 1, 2, 0, 0);
        CHECK.task(desk, 2, 8, 2, 0, 0, 0);
    }

    private static void abortOfWaitingOnes() {
        CHECK.about("ABORT of ones that wait");
        String[] waits = {"ACCEPT 0", "CALL 0 0", "SELECT; WHEN 0 0", "DELAY 9", "LIMIT 9; LATE 0 0",
            "LIMIT 9; SELECT; AFTER 0", "BLOCK; TASK 2; LEAVE", "HANDLE 0; CALL 1 0"};
        int[] places = {0, 0, 0, 0, 1, 1, 2, 1};
        for (int n = 0; n < waits.length; n++) {
            CHECK.about("ABORT in " + waits[n]);
            RendezvousDesk desk = Script.desk("TASK 1; DELAY 1; ABORT 1; ACCEPT 0", waits[n], "ACCEPT 0");
            CHECK.due("run", STUCK, desk.run(500));
            CHECK.task(desk, 1, 8, places[n], n == 6 ? 2 : 0, 14, 0);
            CHECK.task(desk, 0, 3, 3, 1, -1, 0);
            CHECK.queue(desk, 0, 0);
            CHECK.queue(desk, 1, 0);
            CHECK.counts(desk, n == 6 ? 3 : 2, 1);
        }
        CHECK.about("ABORT of a READY one");
        RendezvousDesk desk = Script.desk("TASK 1; TASK 1; ABORT 1; PUT 1", "PUT 2");
        CHECK.due("run(3)", LONG, desk.run(3));
        CHECK.row(desk, 2, 0);
        CHECK.task(desk, 1, 8, 0, 0, 14, 0);
        CHECK.task(desk, 0, 0, 3, 2, -1, 0);
        CHECK.about("ABORT of one that is to raise something");
        desk = Script.desk("TASK 1; TASK 2; DELAY 1; ABORT 2; ABORT 1; PUT 1", "HANDLE 2; CALL 2 0; SHOW", "ACCEPT 1");
        CHECK.due("run", OVER, desk.run(500));
        CHECK.task(desk, 1, 8, 1, 0, 14, 0);
        CHECK.notes(desk, 0, 1);
    }

    private static void abortOfItself() {
        CHECK.about("ABORT of itself");
        RendezvousDesk desk = Script.desk("SET 4; BLOCK; HANDLE 4; ABORT 0; PUT 1");
        CHECK.due("run", OVER, desk.run(500));
        CHECK.task(desk, 0, 8, 3, 4, 14, 0);
        CHECK.notes(desk);
        CHECK.counts(desk, 1, 0, 4, 2);
        CHECK.about("ABORT of the one that made it");
        desk = Script.desk("TASK 1; TASK 2; DELAY 9", "GO 0", "PUT 3; ABORT 0; PUT 4");
        CHECK.due("run", OVER, desk.run(500));
        CHECK.task(desk, 0, 8, 2, 2, 14, 0);
        CHECK.task(desk, 1, 8, 0, 0, 14, 0);
        CHECK.task(desk, 2, 8, 1, 0, 14, 0);
        CHECK.notes(desk, 2, 3);
        CHECK.row(desk);
    }

    private static void abortTakesDependents() {
        CHECK.about("ABORT of a family");
        RendezvousDesk desk = Script.desk("TASK 1; TASK 3; DELAY 1; ABORT 1; PUT 1; DELAY 9", "TASK 2; BLOCK; TASK 2; LEAVE",
            "TASK 3; ACCEPT 0", "DELAY 5; PUT 5");
        CHECK.due("run", OVER, desk.run(500));
        int[] due = {0, 14, 0, 14, 14, 14, 14};
        CHECK.due("how many", 7, desk.state(0));
        for (int t = 0; t < due.length; t++) {
            CHECK.due("how " + t + " ended", due[t], desk.task(t, 3));
            CHECK.due("the state of " + t, 8, desk.task(t, 0));
        }
        CHECK.notes(desk, 0, 1, 2, 5);
        CHECK.about("a family through a COMPLETED one");
        desk = Script.desk("TASK 1; DELAY 1; ABORT 1; PUT 1", "TASK 2; ACCEPT 0", "TASK 3; END", "DELAY 5; PUT 5");
        CHECK.due("run", OVER, desk.run(500));
        CHECK.task(desk, 1, 8, 1, 2, 14, 0);
        CHECK.task(desk, 2, 8, 1, 3, 0, 0);
        CHECK.task(desk, 3, 8, 0, 0, 14, 0);
        CHECK.notes(desk, 0, 1);
    }

    private static void abortFreesCallers() {
        CHECK.about("callers of an aborted one");
        RendezvousDesk desk = Script.desk("TASK 1; TASK 2; TASK 3; TASK 3; DELAY 2; ABORT 1; ACCEPT 0",
            "ACCEPT 0; BLOCK; HANDLE 9; ACCEPT 1; DELAY 9", "HANDLE 2; CALL 1 1; SHOW", "HANDLE 2; CALL 1 0; SHOW");
        CHECK.due("run(17)", LONG, desk.run(17));
        CHECK.task(desk, 1, 8, 4, 0, 14, 0);
        CHECK.row(desk, 0, 2, 3, 4);
        CHECK.task(desk, 2, 0, 1, 0, -1, 1);
        CHECK.due("run", STUCK, desk.run(500));
        CHECK.notes(desk, 2, 11, 3, 11, 4, 11);
        CHECK.counts(desk, 5, 2, 24, 12);
    }

    private static void abortOfServedOnes() {
        String caller = "HANDLE 3; CALL 1 0; PUT 5; PUT 6";
        CHECK.about("a SERVED one, by DONE");
        RendezvousDesk desk = Script.desk("TASK 1; TASK 2; DELAY 1; ABORT 2; DELAY 1; PUT 1",
            "ACCEPT 0; DELAY 5; SET 77; DONE; PUT 4", caller);
        CHECK.due("run(8)", LONG, desk.run(8));
        CHECK.task(desk, 2, 2, 1, 0, -1, 1);
        CHECK.due("run", OVER, desk.run(500));
        CHECK.task(desk, 2, 8, 1, 77, 14, 0);
        CHECK.notes(desk, 0, 1, 1, 4);
        CHECK.task(desk, 1, 8, 5, 77, 0, 0);
        CHECK.about("a SERVED one, by something raised");
        desk = Script.desk("TASK 1; TASK 2; DELAY 1; ABORT 2; DELAY 1; PUT 1", "ACCEPT 0; DELAY 5; SET 77; RAISE 2", caller);
        CHECK.due("run", OVER, desk.run(500));
        CHECK.task(desk, 2, 8, 1, 0, 14, 0);
        CHECK.task(desk, 1, 8, 3, 77, 2, 0);
        CHECK.about("a SERVED one, by ABORT");
        desk = Script.desk("TASK 1; TASK 2; DELAY 1; ABORT 2; ABORT 1; PUT 1", "ACCEPT 0; DELAY 5; SET 77", caller);
        CHECK.due("run", OVER, desk.run(500));
        CHECK.task(desk, 2, 8, 1, 0, 14, 0);
        CHECK.task(desk, 1, 8, 1, 0, 14, 0);
        CHECK.notes(desk, 0, 1);
        CHECK.about("what depends on a SERVED one is aborted at once");
        desk = Script.desk("TASK 1; TASK 2; DELAY 1; ABORT 2; ABORT 2; PUT 1", "ACCEPT 0; DELAY 5; DONE",
            "TASK 3; CALL 1 0", "DELAY 9");
        CHECK.due("run(9)", LONG, desk.run(9));
        CHECK.task(desk, 2, 2, 1, 3, -1, 0);
        CHECK.task(desk, 3, 8, 0, 0, 14, 0);
        CHECK.due("run", OVER, desk.run(500));
        CHECK.task(desk, 2, 8, 1, 3, 14, 0);
        CHECK.about("COMPLETED until a SERVED one ends");
        desk = Script.desk("TASK 1; TASK 2; DELAY 1; ABORT 2; PUT 1; ACCEPT 0", "ACCEPT 0; DELAY 5; DONE",
            "TASK 3; ACCEPT 0", "CALL 1 0");
        CHECK.due("run(10)", LONG, desk.run(10));
        CHECK.task(desk, 2, 7, 1, 3, 14, 0);
        CHECK.task(desk, 3, 2, 0, 0, -1, 0);
        CHECK.due("run", STUCK, desk.run(500));
        CHECK.task(desk, 2, 8, 1, 3, 14, 0);
        CHECK.task(desk, 3, 8, 0, 0, 14, 0);
    }

    private static void abortHandsBlocksOver() {
        CHECK.about("what depended on a BLOCK depends on the task");
        RendezvousDesk desk = Script.desk("TASK 1; TASK 2; DELAY 2; ABORT 2; BLOCK; LEAVE; PUT 1",
            "ACCEPT 0; DELAY 5; DONE; PUT 4", "HANDLE 9; BLOCK; TASK 3; BLOCK; LEAVE; LEAVE", "CALL 1 0");
        CHECK.due("run(17)", LONG, desk.run(17));
        CHECK.task(desk, 0, 7, 7, 2, 0, 0);
        CHECK.task(desk, 2, 7, 5, 3, 14, 0);
        CHECK.task(desk, 3, 2, 0, 0, -1, 0);
        CHECK.due("the master", 2, desk.task(3, 5));
        CHECK.counts(desk, 4, 5, 17);
        CHECK.due("run", OVER, desk.run(500));
        CHECK.task(desk, 3, 8, 0, 0, 14, 0);
        CHECK.notes(desk, 0, 1, 1, 4);
    }

    private static void abortLeavesOtherBlocks() {
        CHECK.about("the BLOCK of another task");
        RendezvousDesk desk = Script.desk("BLOCK; TASK 1; TASK 2; DELAY 1; ABORT 1; LEAVE; PUT 1", "BLOCK; TASK 2; LEAVE",
            "DELAY 5; PUT 2");
        CHECK.due("run", OVER, desk.run(500));
        CHECK.notes(desk, 2, 2, 0, 1);
        CHECK.task(desk, 1, 8, 2, 3, 14, 0);
        CHECK.task(desk, 3, 8, 0, 0, 14, 0);
    }

    private static void abortOfALeavingServer() {
        CHECK.about("its caller ends, and was the last in its BLOCK, while it is aborted itself");
        RendezvousDesk desk = Script.desk("TASK 1; DELAY 1; ABORT 2; ABORT 1; PUT 1; PUT 2",
            "BLOCK; TASK 2; ACCEPT 0; BLOCK; TASK 3; LEAVE; PUT 3", "CALL 1 0", "DELAY 9");
        CHECK.due("run(11)", LONG, desk.run(11));
        CHECK.task(desk, 1, 6, 5, 3, -1, 3);
        CHECK.task(desk, 2, 2, 0, 0, -1, 0);
        CHECK.due("run(12)", LONG, desk.run(12));
        CHECK.row(desk, 0);
        CHECK.task(desk, 1, 8, 5, 3, 14, 0);
        CHECK.task(desk, 2, 8, 0, 0, 14, 0);
        CHECK.task(desk, 3, 8, 0, 0, 14, 0);
        CHECK.due("run", OVER, desk.run(500));
        CHECK.notes(desk, 0, 1, 0, 2);
    }

    private static void abortIsOfOneRun() {
        CHECK.about("a SERVED one of an earlier run");
        RendezvousDesk desk = Script.desk("TASK 1; TASK 2; DELAY 1; ABORT 2; ACCEPT 1", "ACCEPT 0; ACCEPT 1",
            "CALL 1 0; PUT 1");
        CHECK.due("run", STUCK, desk.run(500));
        CHECK.task(desk, 2, 2, 0, 0, -1, 0);
        Script.write(desk, 0, "TASK 1; TASK 2");
        Script.write(desk, 1, "ACCEPT 0; DONE");
        CHECK.due("run", OVER, desk.run(500));
        CHECK.task(desk, 2, 8, 2, 0, 0, 0);
        CHECK.notes(desk, 2, 1);
    }

    private static void abortInChains() {
        CHECK.about("1 serves 2, 2 serves 3, 3 serves 4");
        RendezvousDesk desk = Script.desk("TASK 1; TASK 2; TASK 3; TASK 3; DELAY 1; ABORT 3; ABORT 2; ABORT 1; ACCEPT 2",
            "ACCEPT 0; DELAY 9", "ACCEPT 1; CALL 1 0", "LATE 3 1; GO 4; ACCEPT 1; CALL 2 1; END");
        CHECK.due("run(14)", LONG, desk.run(14));
        CHECK.task(desk, 1, 5, 1, 0, -1, 1);
        CHECK.task(desk, 2, 2, 1, 0, -1, 1);
        CHECK.task(desk, 3, 2, 3, 0, -1, 1);
        CHECK.task(desk, 4, 2, 0, 0, -1, 0);
        CHECK.due("run", STUCK, desk.run(500));
        CHECK.task(desk, 1, 8, 1, 0, 14, 0);
        CHECK.task(desk, 2, 8, 1, 0, 14, 0);
        CHECK.task(desk, 3, 8, 3, 0, 14, 0);
        CHECK.task(desk, 4, 8, 0, 0, 11, 0);
        CHECK.about("1 serves 4 and 2, 2 serves 3 and has 5 in a QUEUE");
        desk = Script.desk("TASK 1; TASK 2; TASK 3; TASK 3; TASK 3; DELAY 1; ABORT 2; ABORT 1; ACCEPT 2",
            "ACCEPT 2; ACCEPT 0; DELAY 9", "ACCEPT 1; CALL 1 0",
            "HANDLE 6; LATE 2 1; GO 6; LATE 1 2; GO 6; CALL 2 0; SHOW; END");
        CHECK.due("run(21)", LONG, desk.run(21));
        CHECK.task(desk, 2, 2, 1, 0, -1, 1);
        CHECK.queue(desk, 2, 0, 5);
        CHECK.due("run(22)", LONG, desk.run(22));
        CHECK.row(desk, 0, 3, 5, 4);
        CHECK.task(desk, 1, 8, 2, 0, 14, 0);
        CHECK.task(desk, 2, 8, 1, 0, 14, 0);
        CHECK.due("run", STUCK, desk.run(500));
        CHECK.notes(desk, 3, 11, 5, 11, 4, 11);
    }

    private static void endTogether() {
        CHECK.about("ending together, LEAVING");
        String server = "SELECT; WHEN 0 4; IFX 1 4; TERMINATE; DONE; GO 0";
        RendezvousDesk desk = Script.desk("BLOCK; TASK 1; TASK 1; LEAVE; PUT 1", server);
        CHECK.due("run", OVER, desk.run(500));
        CHECK.task(desk, 1, 8, 0, 0, 0, 0);
        CHECK.task(desk, 2, 8, 0, 0, 0, 0);
        CHECK.notes(desk, 0, 1);
        CHECK.about("ending together, COMPLETED");
        desk = Script.desk("TASK 1; TASK 1; RAISE 2", server);
        CHECK.due("run", OVER, desk.run(500));
        CHECK.task(desk, 0, 8, 2, 2, 2, 0);
        CHECK.task(desk, 1, 8, 0, 0, 0, 0);
        CHECK.about("ending together, raised");
        desk = Script.desk("HANDLE 4; BLOCK; TASK 1; RAISE 2; SHOW", server);
        CHECK.due("run", OVER, desk.run(500));
        CHECK.notes(desk, 0, 2);
        CHECK.about("with its own, in its BLOCK");
        desk = Script.desk("BLOCK; TASK 2; LEAVE; PUT 1", server, "BLOCK; TASK 1; HANDLE 0; SELECT; TERMINATE");
        CHECK.due("run", OVER, desk.run(500));
        CHECK.task(desk, 1, 8, 3, 2, 0, 0);
        CHECK.task(desk, 2, 8, 0, 0, 0, 0);
        CHECK.due("the master", 1, desk.task(2, 5));
        CHECK.about("a COMPLETED one below comes first");
        desk = Script.desk("BLOCK; TASK 2; TASK 1; LEAVE; PUT 1", server, "TASK 1; END");
        CHECK.due("run", OVER, desk.run(500));
        CHECK.notes(desk, 0, 1);
        CHECK.about("callers of a closed one");
        desk = Script.desk("TASK 2; BLOCK; TASK 1; LEAVE; PUT 1",
            server, "DELAY 0; DELAY 0; DELAY 0; HANDLE 5; CALL 2 1; SHOW");
        CHECK.due("run", OVER, desk.run(500));
        CHECK.notes(desk, 1, 11, 0, 1);
    }

    private static void endTogetherNot() {
        String server = "SELECT; WHEN 0 4; IFX 1 4; TERMINATE; DONE; GO 0";
        CHECK.about("one of them can not end");
        RendezvousDesk desk = Script.desk("BLOCK; TASK 1; TASK 2; LEAVE; PUT 1", server, "ACCEPT 0");
        CHECK.due("run", STUCK, desk.run(500));
        CHECK.task(desk, 0, 6, 3, 2, -1, 1);
        CHECK.task(desk, 1, 4, 0, 0, -1, 0);
        CHECK.about("its master goes on");
        desk = Script.desk("BLOCK; TASK 1; ACCEPT 0; LEAVE", server);
        CHECK.due("run", STUCK, desk.run(500));
        CHECK.task(desk, 1, 4, 0, 0, -1, 0);
        CHECK.about("of another BLOCK");
        desk = Script.desk("BLOCK; TASK 1; BLOCK; TASK 1; LEAVE; PUT 1; ACCEPT 0", server);
        CHECK.due("run", STUCK, desk.run(500));
        CHECK.task(desk, 1, 4, 0, 0, -1, 0);
        CHECK.task(desk, 2, 8, 0, 0, 0, 0);
        CHECK.notes(desk, 0, 1);
        CHECK.about("an ACCEPT or a SELECT without TERMINATE");
        desk = Script.desk("BLOCK; TASK 1; LEAVE", "SELECT; WHEN 0 0");
        CHECK.due("run", STUCK, desk.run(500));
        CHECK.task(desk, 1, 4, 0, 0, -1, 0);
    }

    private static void endTogetherInMeetings() {
        CHECK.about("ending in a MEETING");
        RendezvousDesk desk = Script.desk("TASK 2; BLOCK; TASK 1; LEAVE; PUT 1", "ACCEPT 0; SELECT; WHEN 1 0; TERMINATE",
            "DELAY 1; HANDLE 4; CALL 2 0; PUT 2; SHOW");
        CHECK.due("run", OVER, desk.run(500));
        CHECK.task(desk, 2, 8, 1, 0, 0, 0);
        CHECK.notes(desk, 1, 11, 0, 1);
    }

    private static void endTogetherBeforeTime() {
        CHECK.about("ending together comes before the TIME passes");
        RendezvousDesk desk = Script.desk("TASK 2; BLOCK; TASK 1; LEAVE; PUT 1", "SELECT; TERMINATE", "DELAY 5; PUT 2");
        CHECK.due("run", OVER, desk.run(500));
        CHECK.notes(desk, 0, 1, 1, 2);
        CHECK.about("not before all that is READY had its turns");
        desk = Script.desk("TASK 2; BLOCK; TASK 1; LEAVE; PUT 1", "SELECT; WHEN 0 3; TERMINATE; PUT 3; DONE",
            "DELAY 0; DELAY 0; DELAY 0; CALL 2 0");
        CHECK.due("run", OVER, desk.run(500));
        CHECK.notes(desk, 2, 3, 0, 1);
    }
}
