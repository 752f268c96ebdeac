/** Calls, accepts, choices and limits of time: what a run does with them, and promises 5 and 6 of it. */
public final class MeetingTest {
    private static final int OVER = RendezvousDesk.OVER, STUCK = RendezvousDesk.STUCK, LONG = RendezvousDesk.LONG;
    private static final Check CHECK = new Check("MeetingTest");

    public static void main(String[] args) {
        callOfNoOne();
        callThatFindsAnAccept();
        acceptThatFindsACall();
        queueInOrder();
        queueLeftFromTheMiddle();
        nestedMeetings();
        callOfItself();
        lateAtOnce();
        lateWithTime();
        selectTakesTheFirstOpenOne();
        selectWaitsForACall();
        selectClosedOnes();
        selectBeforeTheEnd();
        selectElseAfterTerminate();
        delays();
        timesByNumbers();
        CHECK.end();
    }

    private static void callOfNoOne() {
        CHECK.about("a call of no one");
        for (String call : new String[] {"CALL 1 0", "CALL 7 2", "LATE 1 0"}) {
            RendezvousDesk desk = Script.desk("HANDLE 3; " + call + "; PUT 1; SHOW");
            CHECK.due("run", OVER, desk.run(500));
            CHECK.notes(desk, 0, 11);
        }
        CHECK.about("a call of a TERMINATED one");
        RendezvousDesk desk = Script.desk("TASK 1; DELAY 1; CALL 1 0", "END");
        CHECK.due("run", OVER, desk.run(500));
        CHECK.task(desk, 0, 8, 2, 1, 11, 0);
        CHECK.about("a call of a COMPLETED one");
        desk = Script.desk("TASK 1; END", "TASK 2; END", "DELAY 3; DELAY 1; HANDLE 5; CALL 1 0; PUT 1; SHOW");
        CHECK.due("run(7)", LONG, desk.run(7));
        CHECK.task(desk, 0, 7, 1, 1, 0, 0);
        CHECK.task(desk, 1, 7, 1, 2, 0, 0);
        CHECK.due("run", OVER, desk.run(500));
        CHECK.notes(desk, 2, 11);
        CHECK.task(desk, 2, 8, 6, 11, 0, 0);
    }

    private static void callThatFindsAnAccept() {
        CHECK.about("ACCEPTING");
        RendezvousDesk desk = Script.desk("TASK 1; DELAY 1; SET 8; CALL 1 2; SHOW",
            "ACCEPT 2; SHOW; ADD 1; DONE; ADD 5; SHOW");
        CHECK.due("run(3)", LONG, desk.run(3));
        CHECK.task(desk, 1, 3, 0, 0, -1, 0);
        CHECK.due("run(5)", LONG, desk.run(5));
        CHECK.task(desk, 0, 2, 3, 8, -1, 0);
        CHECK.task(desk, 1, 0, 1, 8, -1, 1);
        CHECK.row(desk, 1);
        CHECK.queue(desk, 1, 2);
        CHECK.due("run(8)", LONG, desk.run(8));
        CHECK.task(desk, 0, 0, 4, 9, -1, 0);
        CHECK.task(desk, 1, 0, 4, 9, -1, 0);
        CHECK.row(desk, 0, 1);
        CHECK.due("run", OVER, desk.run(500));
        CHECK.notes(desk, 1, 8, 0, 9, 1, 14);
        CHECK.about("ACCEPTING another entry");
        desk = Script.desk("TASK 1; DELAY 1; CALL 1 1", "ACCEPT 2");
        CHECK.due("run", STUCK, desk.run(500));
        CHECK.task(desk, 0, 1, 2, 1, -1, 0);
        CHECK.task(desk, 1, 3, 0, 0, -1, 0);
        CHECK.queue(desk, 1, 1, 0);
        CHECK.queue(desk, 1, 2);
    }

    private static void acceptThatFindsACall() {
        CHECK.about("CALLING");
        RendezvousDesk desk = Script.desk("TASK 1; SET 4; CALL 1 0; SHOW", "PUT 1; ACCEPT 0; SHOW; SET 6; DONE");
        CHECK.due("run(4)", LONG, desk.run(4));
        CHECK.task(desk, 0, 1, 2, 4, -1, 0);
        CHECK.queue(desk, 1, 0, 0);
        CHECK.due("run(5)", LONG, desk.run(5));
        CHECK.task(desk, 0, 2, 2, 4, -1, 0);
        CHECK.task(desk, 1, 0, 2, 4, -1, 1);
        CHECK.queue(desk, 1, 0);
        CHECK.due("run", OVER, desk.run(500));
        CHECK.notes(desk, 1, 1, 1, 4, 0, 6);
        CHECK.counts(desk, 2, 0, 11, 4);
    }

    private static void queueInOrder() {
        CHECK.about("a QUEUE");
        RendezvousDesk desk = Script.desk("TASK 1; TASK 2; TASK 2; TASK 2; TASK 3; CALL 1 0",
            "DELAY 2; ACCEPT 0; DONE; ACCEPT 0; DONE; DELAY 1; ACCEPT 0; DONE; DELAY 1; ACCEPT 0; ACCEPT 1",
            "CALL 1 0; PUT 1", "CALL 1 1");
        desk.run(11);
        CHECK.queue(desk, 1, 0, 2, 3, 0, 4);
        CHECK.queue(desk, 1, 1, 5);
        CHECK.queue(desk, 1, 2);
        CHECK.due("run(14)", LONG, desk.run(14));
        CHECK.queue(desk, 1, 0, 0, 4);
        CHECK.row(desk, 2, 1);
        CHECK.due("run", OVER, desk.run(500));
        CHECK.task(desk, 0, 8, 6, 5, 0, 0);
        CHECK.notes(desk, 2, 1, 3, 1);
        CHECK.task(desk, 1, 8, 11, 0, 12, 0);
        CHECK.task(desk, 4, 8, 0, 0, 12, 0);
        CHECK.task(desk, 5, 8, 0, 0, 12, 0);
    }

    private static void queueLeftFromTheMiddle() {
        String caller = "CALL 1 0; PUT 1";
        CHECK.about("a caller is aborted");
        RendezvousDesk desk = Script.desk("TASK 1; TASK 2; TASK 2; TASK 2; DELAY 1; ABORT 3; ACCEPT 2", "ACCEPT 1", caller);
        CHECK.due("run", STUCK, desk.run(500));
        CHECK.queue(desk, 1, 0, 2, 4);
        CHECK.about("a caller gives up");
        desk = Script.desk("TASK 1; TASK 2; TASK 3; TASK 2; CALL 1 0",
            "ACCEPT 1", caller, "LIMIT 4; LATE 1 0; PUT 1; PUT 2");
        CHECK.due("run(9)", LONG, desk.run(9));
        CHECK.queue(desk, 1, 0, 2, 3, 0);
        CHECK.due("run", STUCK, desk.run(500));
        CHECK.queue(desk, 1, 0, 2, 0, 4);
        CHECK.notes(desk, 3, 2);
    }

    private static void nestedMeetings() {
        CHECK.about("MEETINGs in MEETINGs");
        RendezvousDesk desk = Script.desk("TASK 1; TASK 2; SET 10; CALL 1 0; SHOW",
            "ACCEPT 0; ADD 1; ACCEPT 1; ADD 1; DONE; SHOW; DONE", "SET 50; CALL 1 1; SHOW");
        CHECK.due("run", OVER, desk.run(500));
        CHECK.notes(desk, 1, 51, 2, 51, 0, 51);
        CHECK.about("a caller that serves");
        desk = Script.desk("TASK 1; TASK 2; SET 3; CALL 1 0; SHOW", "ACCEPT 0; ADD 1; CALL 2 0; DONE",
            "ACCEPT 0; ADD 10; DONE");
        CHECK.due("run", OVER, desk.run(500));
        CHECK.notes(desk, 0, 14);
    }

    private static void callOfItself() {
        CHECK.about("a call of itself");
        RendezvousDesk desk = Script.desk("SET 3; CALL 0 1");
        CHECK.due("run", STUCK, desk.run(500));
        CHECK.task(desk, 0, 1, 1, 3, -1, 0);
        CHECK.queue(desk, 0, 1, 0);
        desk = Script.desk("LIMIT 2; LATE 0 1; PUT 1; PUT 2");
        CHECK.due("run", OVER, desk.run(500));
        CHECK.notes(desk, 0, 2);
        CHECK.counts(desk, 1, 2, 4, 2);
        CHECK.queue(desk, 0, 1);
    }

    private static void lateAtOnce() {
        CHECK.about("LATE, LIMIT 0");
        RendezvousDesk desk = Script.desk("TASK 1; LATE 1 0; PUT 1; PUT 2; DELAY 1; LATE 1 0; PUT 3; PUT 4",
            "ACCEPT 0; DONE");
        CHECK.due("run", OVER, desk.run(500));
        CHECK.notes(desk, 0, 2, 0, 3, 0, 4);
        CHECK.queue(desk, 1, 0);
        CHECK.about("LATE as the last");
        desk = Script.desk("LATE 0 0");
        CHECK.due("run", OVER, desk.run(500));
        CHECK.task(desk, 0, 8, 2, 0, 0, 0);
    }

    private static void lateWithTime() {
        CHECK.about("LATE that is given up");
        RendezvousDesk desk = Script.desk("TASK 1; LIMIT 3; DELAY 1; LATE 1 0; PUT 1; PUT 2", "DELAY 9; ACCEPT 0");
        CHECK.due("run(5)", LONG, desk.run(5));
        CHECK.counts(desk, 2, 4, 5, 4);
        CHECK.task(desk, 0, 0, 5, 1, -1, 0);
        CHECK.queue(desk, 1, 0);
        CHECK.due("run", STUCK, desk.run(500));
        CHECK.notes(desk, 0, 2);
        CHECK.about("LATE in time");
        desk = Script.desk("TASK 1; LIMIT 3; LATE 1 0; PUT 1; PUT 2", "DELAY 2; ACCEPT 0; DELAY 9; DONE");
        CHECK.due("run(5)", LONG, desk.run(5));
        CHECK.task(desk, 0, 2, 2, 1, -1, 0);
        CHECK.due("run", OVER, desk.run(500));
        CHECK.notes(desk, 0, 1, 0, 2);
        CHECK.counts(desk, 2, 11);
        CHECK.about("LATE that is given up as the ACCEPT comes");
        desk = Script.desk("TASK 1; LIMIT 2; LATE 1 0; PUT 1; PUT 2", "DELAY 2; ACCEPT 0; DONE");
        CHECK.due("run", STUCK, desk.run(500));
        CHECK.notes(desk, 0, 2);
        CHECK.about("LATE whose partner ends");
        desk = Script.desk("TASK 1; LIMIT 9; HANDLE 5; LATE 1 0; PUT 1; SHOW", "DELAY 2");
        CHECK.due("run", OVER, desk.run(500));
        CHECK.notes(desk, 0, 11);
        CHECK.counts(desk, 2, 2);
    }

    private static void selectTakesTheFirstOpenOne() {
        String server = "DELAY 1; %s; SELECT; IFX 2 9; WHEN 1 10; WHEN 0 11; ELSE 12; PUT 7; PUT 1; PUT 2; PUT 3; PUT 4";
        for (int n = 0; n < 2; n++) {
            CHECK.about("SELECT with X " + n);
            RendezvousDesk desk = Script.desk("TASK 1; TASK 2; TASK 3; SET 9; CALL 1 2",
                String.format(server, "SET " + n), "SET 3; CALL 1 0", "SET 2; CALL 1 1");
            CHECK.due("run(12)", LONG, desk.run(12));
            CHECK.task(desk, 1, 0, n == 0 ? 10 : 9, n == 0 ? 2 : 9, -1, 1);
            CHECK.task(desk, n == 0 ? 3 : 0, 2);
            CHECK.task(desk, n == 0 ? 0 : 3, 1);
            CHECK.task(desk, 2, 1);
            CHECK.due("run(13)", LONG, desk.run(13));
            CHECK.notes(desk, 1, n == 0 ? 3 : 2);
        }
    }

    private static void selectWaitsForACall() {
        CHECK.about("SELECTING");
        RendezvousDesk desk = Script.desk("TASK 1; DELAY 1; SET 8; CALL 1 1; SHOW",
            "SET 1; SELECT; WHEN 0 9; IFX 1 6; WHEN 1 9; PUT 9; SHOW; SET 0; DONE; PUT 9");
        CHECK.due("run(4)", LONG, desk.run(4));
        CHECK.task(desk, 1, 4, 1, 1, -1, 0);
        CHECK.due("run(6)", LONG, desk.run(6));
        CHECK.task(desk, 1, 0, 6, 8, -1, 1);
        CHECK.task(desk, 0, 2, 3, 8, -1, 0);
        CHECK.due("run", OVER, desk.run(500));
        CHECK.notes(desk, 1, 8, 0, 0, 1, 9);
        CHECK.about("SELECTING with a closed one");
        desk = Script.desk("TASK 1; DELAY 1; SET 8; CALL 1 1", "SELECT; WHEN 0 9; IFX 1 5; IFX 1 6");
        CHECK.due("run", STUCK, desk.run(500));
        CHECK.task(desk, 1, 4, 0, 0, -1, 0);
        CHECK.queue(desk, 1, 1, 0);
        CHECK.about("what stands behind another instruction is none of its");
        desk = Script.desk("TASK 1; DELAY 1; CALL 1 1", "SELECT; WHEN 0 9; PUT 1; WHEN 1 5");
        CHECK.due("run", STUCK, desk.run(500));
        CHECK.task(desk, 1, 4, 0, 0, -1, 0);
    }

    private static void selectClosedOnes() {
        CHECK.about("nothing OPEN");
        for (String none : new String[] {"SELECT", "SELECT; IFX 0 3; IFX 1 3", "SELECT; PUT 5; WHEN 0 3; ELSE 3"}) {
            RendezvousDesk desk = Script.desk("PUT 1; " + none);
            CHECK.due("run", OVER, desk.run(500));
            CHECK.task(desk, 0, 8, 1, 0, 12, 0);
            CHECK.notes(desk, 0, 1);
        }
        CHECK.about("nothing OPEN, but TERMINATE");
        RendezvousDesk desk = Script.desk("TASK 1; ACCEPT 0", "SELECT; IFX 0 3; TERMINATE");
        CHECK.due("run", STUCK, desk.run(500));
        CHECK.task(desk, 1, 4, 0, 0, -1, 0);
        CHECK.about("nothing OPEN, but AFTER");
        desk = Script.desk("LIMIT 4; SELECT; IFX 0 3; AFTER 5; PUT 1; PUT 2");
        CHECK.due("run", OVER, desk.run(500));
        CHECK.notes(desk, 0, 2);
        CHECK.counts(desk, 1, 4);
    }

    private static void selectBeforeTheEnd() {
        CHECK.about("what an earlier body had behind the last instruction is none of its");
        RendezvousDesk desk = Script.desk("TASK 1; DELAY 1; CALL 1 1", "SELECT; WHEN 0 9; WHEN 1 3; ELSE 3; PUT 1; DONE");
        desk.run(500);
        Script.write(desk, 1, "SELECT; WHEN 0 9");
        CHECK.due("run", STUCK, desk.run(500));
        CHECK.task(desk, 1, 4, 0, 0, -1, 0);
        CHECK.queue(desk, 1, 1, 0);
        Script.write(desk, 0, "TASK 1; CALL 1 1");
        CHECK.due("run", STUCK, desk.run(500));
        CHECK.task(desk, 1, 4, 0, 0, -1, 0);
        CHECK.queue(desk, 1, 1, 0);
    }

    private static void selectElseAfterTerminate() {
        CHECK.about("ELSE");
        RendezvousDesk desk = Script.desk("LIMIT 4; SELECT; WHEN 0 9; ELSE 6; AFTER 5; PUT 1; PUT 2");
        CHECK.due("run", OVER, desk.run(500));
        CHECK.notes(desk, 0, 2);
        CHECK.counts(desk, 1, 0, 4, 2);
        CHECK.about("AFTER before ELSE");
        desk = Script.desk("LIMIT 4; SELECT; AFTER 6; WHEN 0 9; ELSE 5; PUT 1; PUT 2");
        CHECK.due("run(2)", LONG, desk.run(2));
        CHECK.task(desk, 0, 0, 6, 0, -1, 0);
        CHECK.counts(desk, 1, 4, 2, 2);
        CHECK.about("AFTER with LIMIT 0");
        desk = Script.desk("SELECT; WHEN 0 9; AFTER 4; PUT 1; PUT 2");
        CHECK.due("run", OVER, desk.run(500));
        CHECK.notes(desk, 0, 2);
        CHECK.counts(desk, 1, 0, 3, 1);
        CHECK.about("AFTER before TERMINATE");
        desk = Script.desk("TASK 1", "LIMIT 5; SELECT; WHEN 0 9; AFTER 5; TERMINATE; PUT 3");
        CHECK.due("run", OVER, desk.run(500));
        CHECK.notes(desk, 1, 3);
        CHECK.counts(desk, 2, 5);
        CHECK.about("TERMINATE before AFTER");
        desk = Script.desk("TASK 1", "LIMIT 5; SELECT; WHEN 0 9; TERMINATE; AFTER 5; PUT 3");
        CHECK.due("run", OVER, desk.run(500));
        CHECK.notes(desk);
        CHECK.counts(desk, 2, 0);
        CHECK.about("AFTER that a call forestalls");
        desk = Script.desk("TASK 1; DELAY 4; CALL 1 0; PUT 1", "LIMIT 5; SELECT; WHEN 0 4; AFTER 6; DELAY 9; DONE; PUT 3");
        CHECK.due("run", OVER, desk.run(500));
        CHECK.notes(desk, 1, 3, 0, 1);
        CHECK.counts(desk, 2, 13);
    }

    private static void delays() {
        CHECK.about("DELAY");
        RendezvousDesk desk = Script.desk("DELAY 0; PUT 1; DELAY 99; PUT 2; DELAY 1");
        CHECK.due("run(3)", LONG, desk.run(3));
        CHECK.counts(desk, 1, 99, 3, 2);
        CHECK.task(desk, 0, 0, 3, 0, -1, 0);
        CHECK.due("run", OVER, desk.run(500));
        CHECK.counts(desk, 1, 100, 6, 3);
        CHECK.about("where a DELAYED one is");
        desk = Script.desk("TASK 1; GO 1", "PUT 1; DELAY 3");
        CHECK.due("run", LONG, desk.run(50));
        CHECK.task(desk, 1, 5, 1, 0, -1, 0);
        CHECK.counts(desk, 2, 0, 50);
    }

    private static void timesByNumbers() {
        CHECK.about("several at one TIME");
        RendezvousDesk desk = Script.desk("TASK 2; TASK 1; TASK 3; DELAY 4; PUT 0", "DELAY 1; DELAY 3; PUT 1",
            "LIMIT 4; LATE 0 0; END; PUT 2", "LIMIT 4; SELECT; WHEN 0 0; AFTER 4; PUT 3");
        CHECK.due("run(10)", LONG, desk.run(10));
        CHECK.counts(desk, 4, 4, 10);
        CHECK.row(desk, 0, 1, 2, 3);
        CHECK.due("run", OVER, desk.run(500));
        CHECK.notes(desk, 0, 0, 1, 2, 2, 1, 3, 3);
    }
}
