/** Promise 4, the plain instructions, turns, and what promises 8 and 10 say of LONG and turns. */
public final class RunTest {
    private static final int OVER = RendezvousDesk.OVER, STUCK = RendezvousDesk.STUCK, LONG = RendezvousDesk.LONG,
        BAD = RendezvousDesk.BAD;
    private static final Check CHECK = new Check("RunTest");

    public static void main(String[] args) {
        plainInstructions();
        alternativesMetOtherwise();
        misplaced();
        noRoom();
        badRunsChangeNothing();
        eachRunBeginsAnew();
        turnsOfThree();
        longAtEachPoint();
        longComesBehindWhatIsNoInstruction();
        raisedInTheThirdInstruction();
        CHECK.end();
    }

    private static void plainInstructions() {
        CHECK.about("plain instructions");
        RendezvousDesk desk = Script.desk("PUT -7; SHOW; ZERO 4; PUT 1; SET 2147483647; ADD 1; SHOW; ZERO 0; GO 10; PUT 2");
        CHECK.due("run", OVER, desk.run(500));
        CHECK.notes(desk, 0, -7, 0, 0, 0, Integer.MIN_VALUE);
        CHECK.task(desk, 0, 8, 10, Integer.MIN_VALUE, 0, 0);
        CHECK.counts(desk, 1, 0, 9, 3);
        desk = Script.desk("LIMIT 99; END; PUT 1");
        CHECK.due("run", OVER, desk.run(500));
        CHECK.task(desk, 0, 8, 1, 0, 0, 0);
        CHECK.due("LIMIT", 99, desk.task(0, 7));
        CHECK.notes(desk);
        desk = Script.desk("GO 20; PUT 1");
        CHECK.due("run", OVER, desk.run(2));
        CHECK.task(desk, 0, 8, 20, 0, 0, 0);
    }

    private static void alternativesMetOtherwise() {
        CHECK.about("alternatives without a SELECT");
        RendezvousDesk desk = Script.desk("WHEN 0 0; IFX 0 0; ELSE 0; AFTER 0; TERMINATE; PUT 4");
        CHECK.due("run", OVER, desk.run(7));
        CHECK.notes(desk, 0, 4);
        CHECK.counts(desk, 1, 0, 7, 3);
    }

    private static void misplaced() {
        for (String bad : new String[] {"LEAVE", "DONE", "OVER", "BLOCK; DONE", "BLOCK; OVER", "HANDLE 9; LEAVE; PUT 1",
            "HANDLE 9; DONE; PUT 1", "BLOCK; END", "BLOCK"}) {
            CHECK.about("misplaced: " + bad);
            RendezvousDesk desk = Script.desk("PUT 1; " + bad);
            CHECK.due("run", OVER, desk.run(500));
            CHECK.notes(desk, 0, 1);
            if (bad.startsWith("HANDLE")) {
                CHECK.task(desk, 0, 8, 9, 12, 0, 0);
            } else {
                CHECK.task(desk, 0, 8, bad.contains(";") || bad.equals("BLOCK") ? 2 : 1, 0, 12, 0);
            }
        }
        CHECK.about("well placed");
        RendezvousDesk desk = Script.desk("BLOCK; HANDLE 5; OVER; LEAVE; PUT 1");
        CHECK.due("run", OVER, desk.run(500));
        CHECK.notes(desk, 0, 1);
        CHECK.task(desk, 0, 8, 5, 0, 0, 0);
    }

    private static void noRoom() {
        String eight = "BLOCK; HANDLE 12; BLOCK; BLOCK; BLOCK; BLOCK; BLOCK; BLOCK; ";
        for (String more : new String[] {"BLOCK", "ACCEPT 0", "SELECT; ELSE 11", "HANDLE 11"}) {
            CHECK.about("a ninth frame: " + more);
            RendezvousDesk desk = Script.desk(eight + more + "; PUT 1; PUT 2; PUT 3; PUT 4");
            desk.run(9);
            CHECK.task(desk, 0, 0, 12, 13, -1, 1);
        }
        CHECK.about("the eighth frame");
        RendezvousDesk desk = Script.desk("BLOCK; BLOCK; BLOCK; BLOCK; BLOCK; BLOCK; BLOCK; HANDLE 9; PUT 1; GO 8");
        desk.run(9);
        CHECK.task(desk, 0, 0, 9, 0, -1, 8);
        CHECK.about("a ninth task");
        desk = Script.desk("TASK 1; TASK 1; TASK 1; TASK 1; TASK 1; TASK 1; TASK 1; SHOW; HANDLE 10; TASK 1; SHOW");
        CHECK.due("run", OVER, desk.run(500));
        CHECK.notes(desk, 0, 7, 0, 13);
        CHECK.due("how many tasks", 8, desk.state(0));
        CHECK.task(desk, 7, 8, 0, 0, 0, 0);
    }

    private static void badRunsChangeNothing() {
        CHECK.about("bad runs");
        RendezvousDesk desk = Script.desk("PUT 5; DELAY 7; ACCEPT 2");
        for (int most : new int[] {0, -1, 501, Integer.MIN_VALUE, Integer.MAX_VALUE}) {
            CHECK.due("run(" + most + ") of a new one", BAD, desk.run(most));
            CHECK.counts(desk, 0, 0, 0, 0);
        }
        CHECK.due("run", STUCK, desk.run(500));
        desk.clear(0);
        for (int most : new int[] {0, -1, 501, Integer.MIN_VALUE, Integer.MAX_VALUE}) {
            CHECK.due("run(" + most + ")", BAD, desk.run(most));
        }
        CHECK.counts(desk, 1, 7, 3, 2);
        CHECK.notes(desk, 0, 5);
        CHECK.task(desk, 0, 3, 2, 0, -1, 0);
    }

    private static void eachRunBeginsAnew() {
        CHECK.about("a second run");
        RendezvousDesk desk = Script.desk("TASK 1; SET 5; LIMIT 3; BLOCK; PUT 9; CALL 0 0", "DELAY 8; PUT 1; CALL 0 0");
        for (int n = 0; n < 2; n++) {
            CHECK.due("run", STUCK, desk.run(500));
            CHECK.counts(desk, 2, 8, 9, 4);
            CHECK.notes(desk, 0, 9, 1, 1);
            CHECK.queue(desk, 0, 0, 0, 1);
            CHECK.task(desk, 0, 1, 5, 5, -1, 1);
            CHECK.task(desk, 1, 1, 2, 0, -1, 0);
        }
        Script.write(desk, 0, "SHOW");
        CHECK.due("run", OVER, desk.run(500));
        CHECK.counts(desk, 1, 0, 2, 1);
        CHECK.notes(desk, 0, 0);
        CHECK.task(desk, 0, 8, 1, 0, 0, 0);
        CHECK.task(desk, 1, -1, -1, -1, -1, -1);
        CHECK.due("LIMIT", 0, desk.task(0, 7));
        CHECK.queue(desk, 0, 0);
    }

    private static void turnsOfThree() {
        CHECK.about("turns");
        RendezvousDesk desk = Script.desk("TASK 1; TASK 1; PUT 1; PUT 2; PUT 3", "PUT 4; PUT 5; PUT 6; PUT 7");
        CHECK.due("run", OVER, desk.run(500));
        CHECK.notes(desk, 0, 1, 1, 4, 1, 5, 1, 6, 2, 4, 2, 5, 2, 6, 0, 2, 0, 3, 1, 7, 2, 7);
        CHECK.counts(desk, 3, 0, 16, 6);
    }

    private static void longAtEachPoint() {
        CHECK.about("LONG");
        RendezvousDesk desk = Script.desk("TASK 1; PUT 1; PUT 2; PUT 3", "PUT 4; PUT 5");
        CHECK.due("run(1)", LONG, desk.run(1));
        CHECK.counts(desk, 2, 0, 1, 1);
        CHECK.row(desk, 0, 1);
        CHECK.task(desk, 0, 0, 1, 1, -1, 0);
        CHECK.due("run(3)", LONG, desk.run(3));
        CHECK.counts(desk, 2, 0, 3, 2);
        CHECK.row(desk, 1, 0);
        CHECK.due("run(5)", LONG, desk.run(5));
        CHECK.counts(desk, 2, 0, 5, 2);
        CHECK.row(desk, 1, 0);
        CHECK.task(desk, 1, 0, 2, 0, -1, 0);
        CHECK.due("run(6)", LONG, desk.run(6));
        CHECK.counts(desk, 2, 0, 6, 3);
        CHECK.row(desk, 0);
        CHECK.task(desk, 1, 8, 2, 0, 0, 0);
        CHECK.due("run(7)", LONG, desk.run(7));
        CHECK.due("run(8)", OVER, desk.run(8));
        CHECK.counts(desk, 2, 0, 8, 3);
        CHECK.row(desk);
        desk = Script.desk("GO 0");
        CHECK.due("run(500)", LONG, desk.run(500));
        CHECK.counts(desk, 1, 0, 500, 167);
        desk = Script.desk("ACCEPT 0");
        CHECK.due("run(1)", STUCK, desk.run(1));
    }

    /** Raising at the begin of a turn, TIME that passes and ending together need no instruction. */
    private static void longComesBehindWhatIsNoInstruction() {
        CHECK.about("no instruction is left");
        RendezvousDesk desk = Script.desk("DELAY 5; PUT 1");
        CHECK.due("run", LONG, desk.run(1));
        CHECK.counts(desk, 1, 5, 1, 2);
        CHECK.row(desk, 0);
        CHECK.task(desk, 0, 0, 1, 0, -1, 0);
        desk = Script.desk("TASK 1; CALL 1 0", "ACCEPT 0; RAISE 3");
        CHECK.due("run(4)", OVER, desk.run(4));
        CHECK.task(desk, 0, 8, 1, 1, 3, 0);
        CHECK.counts(desk, 2, 0, 4, 3);
        desk = Script.desk("TASK 1; HANDLE 4; CALL 1 0; PUT 1; PUT 2", "ACCEPT 0; RAISE 3");
        CHECK.due("run(5)", LONG, desk.run(5));
        CHECK.task(desk, 0, 0, 4, 3, -1, 0);
        CHECK.counts(desk, 2, 0, 5, 3);
        desk = Script.desk("TASK 1", "SELECT; TERMINATE");
        CHECK.due("run(3)", OVER, desk.run(3));
        CHECK.counts(desk, 2, 0, 3, 2);
    }

    private static void raisedInTheThirdInstruction() {
        CHECK.about("the third instruction raises");
        RendezvousDesk desk = Script.desk("TASK 1; HANDLE 3; RAISE 4; SHOW", "PUT 1");
        CHECK.due("run(3)", LONG, desk.run(3));
        CHECK.task(desk, 0, 0, 3, 4, -1, 0);
        CHECK.row(desk, 1, 0);
        CHECK.counts(desk, 2, 0, 3, 2);
        desk = Script.desk("PUT 1; PUT 2; RAISE 4");
        CHECK.due("run(3)", OVER, desk.run(3));
        CHECK.counts(desk, 1, 0, 3, 1);
    }
}
