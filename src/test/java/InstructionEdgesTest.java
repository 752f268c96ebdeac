/** The edges that the Terms name of bodies, tasks and INSTRUCTIONS: a method for each sentence. */
public final class InstructionEdgesTest {
    private static final int OVER = RendezvousDesk.OVER, STUCK = RendezvousDesk.STUCK, LONG = RendezvousDesk.LONG;
    private static final int LEAST = Integer.MIN_VALUE, MOST = Integer.MAX_VALUE;
    private static final int[] INTS = {0, 1, -1, LEAST, MOST};
    private static final Check CHECK = new Check("InstructionEdgesTest");

    public static void main(String[] args) {
        aBodyHasUpToTwenty();
        aRunBeginsWithBodyZero();
        tasksGetNumbersAsTheyAreMade();
        xAndLimitAreZeroAtFirst();
        dependsOnTheTopmostBlock();
        dependsOnTheTaskWithoutBlock();
        behindTheLastIsAnEnd();
        onAtTwentyIsAnEnd();
        anyIntIsNoted();
        addWraps();
        zeroIsForZeroAlone();
        aNinthTaskRaises();
        leaveOfAnEmptyBlock();
        leaveWaitsForTerminated();
        limitOfZeroAndOfMost();
        limitStaysUntilAnother();
        lateWithLimitZero();
        lateWithTheLeastAndTheGreatestLimit();
        lateLeavesTheNextOut();
        lateThatMeetsLeavesNothingOut();
        delayOfZero();
        delayOfOneAndOfMost();
        alternativesMetOtherwiseDoNothing();
        alternativesStandRightBehind();
        alternativesUpToTheLast();
        ifxIsOpenUnlessZero();
        ifxIsLookedAtWhenSelectIsDone();
        raiseOfTheLeastAndTheGreatest();
        handleAtZero();
        misplacedWithoutFrames();
        misplacedUnderOtherFrames();
        wellPlaced();
        endWithFrames();
        aNinthFrame();
        aNinthFrameForACaller();
        theEighthFrame();
        CHECK.end();
    }

    private static String times(int n, String part) {
        return part.repeat(n);
    }

    private static void aBodyHasUpToTwenty() {
        for (int body = 0; body < 4; body++) {
            CHECK.about("rows of up to 20, numbered from 0: body " + body);
            RendezvousDesk desk = Script.desk(body == 0 ? "" : "TASK " + body);
            for (int n = 0; n < 20; n++) {
                desk.add(body, 0, 100 + n, 0);
            }
            int t = body == 0 ? 0 : 1;
            CHECK.run(desk, 500, OVER);
            CHECK.due("how many were NOTED", 20, desk.state(4));
            for (int n = 0; n < 20; n++) {
                CHECK.due("the task of " + n, t, desk.noted(n, 0));
                CHECK.due("the int of " + n, 100 + n, desk.noted(n, 1));
            }
            CHECK.task(desk, t, 8, 20, 0, 0, 0);
            CHECK.due("the body", body, desk.task(t, 4));
        }
        CHECK.about("numbered from 0");
        RendezvousDesk desk = Script.desk("PUT 1; PUT 2; GO 1");
        CHECK.run(desk, 1, LONG);
        CHECK.task(desk, 0, 0, 1);
        CHECK.run(desk, 4, LONG);
        CHECK.notes(desk, 0, 1, 0, 2, 0, 2);
    }

    private static void aRunBeginsWithBodyZero() {
        CHECK.about("a RUN begins with TASK 0 of body 0, which is empty");
        RendezvousDesk desk = Script.desk("", "PUT 1", "PUT 2", "PUT 3");
        CHECK.run(desk, 1, OVER);
        CHECK.counts(desk, 1, 0, 1, 1);
        CHECK.notes(desk);
        CHECK.task(desk, 0, 8, 0, 0, 0, 0);
        CHECK.due("the body", 0, desk.task(0, 4));
    }

    private static void tasksGetNumbersAsTheyAreMade() {
        CHECK.about("TASKS get numbers as they are made");
        RendezvousDesk desk = Script.desk("TASK 1; TASK 2; ACCEPT 0", "TASK 3; ACCEPT 0", "", "");
        CHECK.run(desk, 500, STUCK);
        CHECK.counts(desk, 4);
        int[] masters = {-1, 0, 0, 1};
        for (int t = 0; t < 4; t++) {
            CHECK.due("the body of " + t, t, desk.task(t, 4));
            CHECK.due("the master of " + t, masters[t], desk.task(t, 5));
        }
        CHECK.due("X of 0", 2, desk.task(0, 2));
        CHECK.due("X of 1", 3, desk.task(1, 2));
    }

    private static void xAndLimitAreZeroAtFirst() {
        CHECK.about("X and LIMIT are 0 at first");
        RendezvousDesk desk = Script.desk("SET 5; LIMIT 7; TASK 1; ACCEPT 0", "ACCEPT 0");
        CHECK.run(desk, 500, STUCK);
        CHECK.due("X of 1", 0, desk.task(1, 2));
        CHECK.due("LIMIT of 1", 0, desk.task(1, 7));
        CHECK.due("LIMIT of 0", 7, desk.task(0, 7));
        CHECK.run(desk, 1, LONG);
        CHECK.due("LIMIT of 0 in another run", 0, desk.task(0, 7));
        Script.write(desk, 0, "SHOW");
        CHECK.run(desk, 500, OVER);
        CHECK.notes(desk, 0, 0);
    }

    private static void dependsOnTheTopmostBlock() {
        CHECK.about("DEPENDS ON the topmost BLOCK: the inner one");
        RendezvousDesk desk = Script.desk("BLOCK; BLOCK; TASK 1; LEAVE; PUT 1; LEAVE; PUT 2", "DELAY 1; PUT 3");
        CHECK.run(desk, 500, OVER);
        CHECK.notes(desk, 1, 3, 0, 1, 0, 2);
        CHECK.about("DEPENDS ON the topmost BLOCK: the outer one, as the inner one is made later");
        desk = Script.desk("BLOCK; TASK 1; BLOCK; LEAVE; PUT 1; LEAVE; PUT 2", "DELAY 1; PUT 3");
        CHECK.run(desk, 500, OVER);
        CHECK.notes(desk, 0, 1, 1, 3, 0, 2);
        CHECK.about("DEPENDS ON the topmost BLOCK: the outer one, as the inner one has gone");
        desk = Script.desk("BLOCK; BLOCK; LEAVE; TASK 1; LEAVE; PUT 1", "DELAY 1; PUT 3");
        CHECK.run(desk, 500, OVER);
        CHECK.notes(desk, 1, 3, 0, 1);
    }

    private static void dependsOnTheTaskWithoutBlock() {
        CHECK.about("DEPENDS ON that task itself if it had no BLOCK: a HANDLER is none");
        RendezvousDesk desk = Script.desk("HANDLE 7; TASK 1; OVER; BLOCK; LEAVE; PUT 1", "DELAY 1; PUT 3");
        CHECK.run(desk, 500, OVER);
        CHECK.notes(desk, 0, 1, 1, 3);
        CHECK.about("DEPENDS ON that task itself if it had no BLOCK: a MEETING is none");
        desk = Script.desk("TASK 1; CALL 1 0; PUT 1", "ACCEPT 0; TASK 2; DONE; BLOCK; LEAVE; PUT 2", "DELAY 9; PUT 3");
        CHECK.run(desk, 500, OVER);
        CHECK.notes(desk, 0, 1, 1, 2, 2, 3);
        CHECK.due("the master", 1, desk.task(2, 5));
    }

    private static void behindTheLastIsAnEnd() {
        CHECK.about("behind the last one is an END");
        RendezvousDesk desk = Script.desk("PUT 1");
        CHECK.run(desk, 1, LONG);
        CHECK.task(desk, 0, 0, 1, 0, -1, 0);
        CHECK.run(desk, 2, OVER);
        CHECK.task(desk, 0, 8, 1, 0, 0, 0);
        CHECK.counts(desk, 1, 0, 2, 1);
        desk = Script.desk("END; PUT 1");
        CHECK.run(desk, 1, OVER);
        CHECK.task(desk, 0, 8, 0, 0, 0, 0);
        CHECK.about("behind the last of twenty is an END");
        desk = Script.desk("GO 19; " + times(18, "PUT 1; ") + "PUT 7");
        CHECK.run(desk, 3, OVER);
        CHECK.notes(desk, 0, 7);
        CHECK.task(desk, 0, 8, 20, 0, 0, 0);
    }

    private static void onAtTwentyIsAnEnd() {
        String[] bodies = {"GO 20; PUT 1", "ZERO 20; PUT 1", "SELECT; ELSE 20; PUT 1", "SELECT; AFTER 20; PUT 1",
            "LIMIT 1; SELECT; AFTER 20; PUT 1"};
        for (String body : bodies) {
            CHECK.about("on at 20 is behind the last one: " + body);
            RendezvousDesk desk = Script.desk(body);
            CHECK.run(desk, 500, OVER);
            CHECK.task(desk, 0, 8, 20, 0, 0, 0);
            CHECK.notes(desk);
        }
        CHECK.about("HANDLE on at 20");
        RendezvousDesk desk = Script.desk("HANDLE 20; RAISE 1; PUT 1");
        CHECK.run(desk, 3, OVER);
        CHECK.task(desk, 0, 8, 20, 1, 0, 0);
        CHECK.about("WHEN on at 20: an END with a FRAME");
        desk = Script.desk("TASK 1; CALL 1 0", "SELECT; WHEN 0 20");
        CHECK.run(desk, 500, OVER);
        CHECK.task(desk, 1, 8, 20, 1, 12, 0);
        CHECK.task(desk, 0, 8, 1, 1, 12, 0);
    }

    private static void anyIntIsNoted() {
        for (int x : INTS) {
            CHECK.about("the int " + x);
            RendezvousDesk desk = Script.desk("PUT " + x + "; SHOW; SET " + x + "; SHOW");
            CHECK.run(desk, 500, OVER);
            CHECK.notes(desk, 0, x, 0, 0, 0, x);
            CHECK.due("X", x, desk.task(0, 2));
        }
    }

    private static void addWraps() {
        CHECK.about("ADD wraps");
        int[][] sums = {{MOST, 1, LEAST}, {LEAST, -1, MOST}, {LEAST, LEAST, 0}, {MOST, MOST, -2}, {-1, 1, 0}, {5, 0, 5}};
        for (int[] sum : sums) {
            RendezvousDesk desk = Script.desk("SET " + sum[0] + "; ADD " + sum[1] + "; SHOW");
            CHECK.run(desk, 500, OVER);
            CHECK.notes(desk, 0, sum[2]);
        }
    }

    private static void zeroIsForZeroAlone() {
        for (int x : INTS) {
            CHECK.about("ZERO if X is 0: " + x);
            RendezvousDesk desk = Script.desk("SET " + x + "; ZERO 3; PUT 1");
            CHECK.run(desk, 500, OVER);
            CHECK.due("how many were NOTED", x == 0 ? 0 : 1, desk.state(4));
        }
        CHECK.about("ZERO after a wrap to 0");
        RendezvousDesk desk = Script.desk("SET " + LEAST + "; ADD " + LEAST + "; ZERO 4; PUT 1; PUT 2");
        CHECK.run(desk, 500, OVER);
        CHECK.notes(desk, 0, 2);
    }

    private static void aNinthTaskRaises() {
        String seven = times(7, "TASK 1; ");
        CHECK.about("TASK raises 13 if there are 8");
        RendezvousDesk desk = Script.desk(seven + "TASK 1", "ACCEPT 0");
        CHECK.run(desk, 500, STUCK);
        CHECK.counts(desk, 8);
        CHECK.task(desk, 0, 7, 7, 7, 13, 0);
        CHECK.task(desk, 7, 3, 0, 0, -1, 0);
        CHECK.about("TASK raises 13 if there are 8: TERMINATED ones are there, too");
        desk = Script.desk(seven + "DELAY 1; HANDLE 11; TASK 1; PUT 9; SHOW", "");
        CHECK.run(desk, 500, OVER);
        CHECK.counts(desk, 8, 1);
        CHECK.notes(desk, 0, 13);
        CHECK.about("TASK raises 13 if there are 8: whoever makes it");
        desk = Script.desk("TASK 1", "TASK 1; ACCEPT 0");
        CHECK.run(desk, 500, STUCK);
        CHECK.counts(desk, 8);
        CHECK.task(desk, 6, 3, 1, 7, -1, 0);
        CHECK.task(desk, 7, 8, 0, 0, 13, 0);
    }

    private static void leaveOfAnEmptyBlock() {
        CHECK.about("LEAVE of a BLOCK in which no task was made");
        RendezvousDesk desk = Script.desk("BLOCK; LEAVE; PUT 1");
        CHECK.run(desk, 2, LONG);
        CHECK.task(desk, 0, 0, 2, 0, -1, 0);
        CHECK.counts(desk, 1, 0, 2, 1);
        CHECK.run(desk, 4, OVER);
        CHECK.about("LEAVE of a BLOCK whose tasks are TERMINATED");
        desk = Script.desk("BLOCK; TASK 1; DELAY 1; LEAVE; PUT 1", "");
        CHECK.run(desk, 5, LONG);
        CHECK.task(desk, 0, 0, 4, 1, -1, 0);
        CHECK.counts(desk, 2, 1, 5, 3);
    }

    private static void leaveWaitsForTerminated() {
        CHECK.about("LEAVE: COMPLETED is not TERMINATED");
        RendezvousDesk desk = Script.desk("BLOCK; TASK 1; LEAVE; PUT 1", "TASK 2", "DELAY 5; PUT 2");
        CHECK.run(desk, 7, LONG);
        CHECK.task(desk, 0, 6, 2, 1, -1, 1);
        CHECK.task(desk, 1, 7, 1, 2, 0, 0);
        CHECK.row(desk, 2);
        CHECK.about("LEAVE: as soon as the last one is TERMINATED");
        CHECK.run(desk, 8, LONG);
        CHECK.task(desk, 0, 0, 3, 1, -1, 0);
        CHECK.task(desk, 1, 8, 1, 2, 0, 0);
        CHECK.row(desk, 0);
        CHECK.run(desk, 10, OVER);
        CHECK.notes(desk, 2, 2, 0, 1);
    }

    private static void limitOfZeroAndOfMost() {
        CHECK.about("LIMIT is a");
        RendezvousDesk desk = Script.desk("LIMIT 99; LIMIT 0; LIMIT 1");
        int[] due = {99, 0, 1};
        for (int n = 0; n < 3; n++) {
            CHECK.run(desk, n + 1, LONG);
            CHECK.due("task(0, 7)", due[n], desk.task(0, 7));
            CHECK.due("X", 0, desk.task(0, 2));
        }
    }

    private static void limitStaysUntilAnother() {
        String[] others = {"PUT 1", "SHOW", "SET 1", "ADD 1", "GO 3", "ZERO 3", "TASK 2", "BLOCK", "LEAVE", "CALL 1 0", "LATE 1 0",
            "LATE 0 0", "DELAY 1", "ACCEPT 0", "DONE", "SELECT; AFTER 9", "SELECT; ELSE 9", "WHEN 0 1", "IFX 0 1", "ELSE 1",
            "AFTER 1", "TERMINATE", "RAISE 1", "HANDLE 1", "OVER", "ABORT 1", "ABORT 0", "END"};
        for (String other : others) {
            CHECK.about("LIMIT stays until another one: " + other);
            RendezvousDesk desk = Script.desk("TASK 1; LIMIT 7; " + other, "ACCEPT 0; DONE", "");
            desk.run(500);
            CHECK.due("task(0, 7)", 7, desk.task(0, 7));
            CHECK.due("task(1, 7)", 0, desk.task(1, 7));
        }
    }

    private static void lateWithLimitZero() {
        CHECK.about("LATE given up if the MEETING has not begun at once (LIMIT 0)");
        RendezvousDesk desk = Script.desk("TASK 1; LATE 1 0; PUT 1; PUT 2", "DELAY 5; ACCEPT 0");
        CHECK.run(desk, 3, LONG);
        CHECK.notes(desk, 0, 2);
        CHECK.queue(desk, 1, 0);
        CHECK.counts(desk, 2, 0, 3, 2);
        CHECK.about("LATE with LIMIT 0 again");
        desk = Script.desk("TASK 1; LIMIT 3; LIMIT 0; LATE 1 0; PUT 1; PUT 2", "DELAY 5; ACCEPT 0");
        CHECK.run(desk, 500, STUCK);
        CHECK.notes(desk, 0, 2);
        CHECK.counts(desk, 2, 5);
    }

    private static void lateWithTheLeastAndTheGreatestLimit() {
        for (int limit : new int[] {1, 99}) {
            CHECK.about("LATE given up when the TIME is greater by LIMIT " + limit);
            RendezvousDesk desk = Script.desk("TASK 1; LIMIT " + limit + "; LATE 1 0; PUT 1; PUT 2", "ACCEPT 1");
            CHECK.run(desk, 4, LONG);
            CHECK.counts(desk, 2, limit, 4, 3);
            CHECK.task(desk, 0, 0, 4, 1, -1, 0);
            CHECK.row(desk, 0);
            CHECK.queue(desk, 1, 0);
            CHECK.about("LATE given up though the ACCEPT comes at the same TIME, LIMIT " + limit);
            Script.write(desk, 1, "DELAY " + limit + "; ACCEPT 0; DONE");
            CHECK.run(desk, 500, STUCK);
            CHECK.notes(desk, 0, 2);
            CHECK.task(desk, 1, 3, 1, 0, -1, 0);
            CHECK.about("LATE not given up before, LIMIT " + limit);
            Script.write(desk, 1, "DELAY " + (limit - 1) + "; ACCEPT 0; DONE");
            CHECK.run(desk, 500, OVER);
            CHECK.notes(desk, 0, 1, 0, 2);
            CHECK.counts(desk, 2, limit - 1);
        }
        CHECK.about("LATE: greater than the TIME at which it called");
        RendezvousDesk desk = Script.desk("LIMIT 3; DELAY 4; LATE 0 0; PUT 1; PUT 2");
        CHECK.run(desk, 500, OVER);
        CHECK.counts(desk, 1, 7);
        CHECK.notes(desk, 0, 2);
    }

    private static void lateLeavesTheNextOut() {
        CHECK.about("LATE as the last one: the next one is the END behind it");
        RendezvousDesk desk = Script.desk("LATE 0 0");
        CHECK.run(desk, 2, OVER);
        CHECK.task(desk, 0, 8, 2, 0, 0, 0);
        desk = Script.desk("LIMIT 2; LATE 0 0");
        CHECK.run(desk, 3, OVER);
        CHECK.task(desk, 0, 8, 3, 0, 0, 0);
        CHECK.about("LATE as the twentieth");
        desk = Script.desk("GO 19; " + times(18, "PUT 1; ") + "LATE 0 0");
        CHECK.run(desk, 3, OVER);
        CHECK.task(desk, 0, 8, 21, 0, 0, 0);
        desk = Script.desk("LIMIT 1; GO 19; " + times(17, "PUT 1; ") + "LATE 0 0");
        CHECK.run(desk, 4, OVER);
        CHECK.task(desk, 0, 8, 21, 0, 0, 0);
        CHECK.about("LATE before an instruction of any kind");
        for (String next : new String[] {"GO 0", "RAISE 1", "END", "ABORT 0", "LEAVE"}) {
            desk = Script.desk("LATE 0 0; " + next + "; PUT 2");
            CHECK.run(desk, 3, OVER);
            CHECK.notes(desk, 0, 2);
        }
    }

    private static void lateThatMeetsLeavesNothingOut() {
        CHECK.about("LATE with LIMIT 0 that meets at once");
        RendezvousDesk desk = Script.desk("TASK 1; DELAY 1; LATE 1 0; PUT 1; PUT 2", "ACCEPT 0; DONE");
        CHECK.run(desk, 500, OVER);
        CHECK.notes(desk, 0, 1, 0, 2);
        CHECK.about("LATE is not given up once it is SERVED");
        desk = Script.desk("TASK 1; LIMIT 1; LATE 1 0; PUT 1; PUT 2", "ACCEPT 0; DELAY 50; DONE");
        CHECK.run(desk, 500, OVER);
        CHECK.notes(desk, 0, 1, 0, 2);
        CHECK.counts(desk, 2, 50);
    }

    private static void delayOfZero() {
        CHECK.about("DELAY of 0 does not wait");
        RendezvousDesk desk = Script.desk("TASK 1; DELAY 0; PUT 1", "PUT 2");
        CHECK.run(desk, 3, LONG);
        CHECK.notes(desk, 0, 1);
        CHECK.counts(desk, 2, 0, 3, 2);
    }

    private static void delayOfOneAndOfMost() {
        for (int span : new int[] {1, 99}) {
            CHECK.about("DELAY until the TIME is greater by " + span);
            RendezvousDesk desk = Script.desk("TASK 1; DELAY " + span + "; PUT 1", "GO 0");
            CHECK.run(desk, 20, LONG);
            CHECK.task(desk, 0, 5, 1, 1, -1, 0);
            CHECK.counts(desk, 2, 0);
            Script.write(desk, 1, "DELAY " + span + "; DELAY " + span);
            CHECK.run(desk, 3, LONG);
            CHECK.counts(desk, 2, span, 3, 3);
            CHECK.task(desk, 0, 0, 2, 1, -1, 0);
            CHECK.row(desk, 0, 1);
            CHECK.run(desk, 500, OVER);
            CHECK.counts(desk, 2, 2 * span);
        }
    }

    private static void alternativesMetOtherwiseDoNothing() {
        CHECK.about("alternatives met otherwise do nothing");
        RendezvousDesk desk = Script.desk("SET 1; GO 3; SELECT; WHEN 0 0; IFX 0 0; ELSE 0; AFTER 0; TERMINATE; PUT 4");
        CHECK.run(desk, 9, OVER);
        CHECK.notes(desk, 0, 4);
        CHECK.counts(desk, 1, 0, 9, 3);
        CHECK.about("alternatives met otherwise do nothing, though there is a caller");
        desk = Script.desk("TASK 1; DELAY 1; SET 1; WHEN 0 0; IFX 0 0; ACCEPT 1", "CALL 0 0");
        CHECK.run(desk, 500, STUCK);
        CHECK.task(desk, 0, 3, 5, 1, -1, 0);
        CHECK.queue(desk, 0, 0, 1);
        for (String wait : new String[] {"DELAY 9", "ACCEPT 1", "CALL 1 1", "CALL 2 1", "SELECT; WHEN 1 9; PUT 1"}) {
            CHECK.about("alternatives behind another instruction do nothing for a call: " + wait);
            desk = Script.desk("TASK 1; TASK 2; DELAY 1; CALL 1 0; ACCEPT 0",
                "SET 1; " + wait + "; WHEN 0 9; IFX 0 9; ELSE 9",
                "ACCEPT 1; ACCEPT 2");
            CHECK.run(desk, 8, wait.startsWith("DELAY") ? LONG : STUCK);
            CHECK.task(desk, 0, 1, 3, 2, -1, 0);
            CHECK.queue(desk, 1, 0, 0);
        }
        CHECK.about("a SELECT that is not done yet does nothing for a call");
        desk = Script.desk("TASK 1; CALL 1 0", "SELECT; WHEN 0 9");
        CHECK.run(desk, 2, LONG);
        CHECK.task(desk, 0, 1, 1, 1, -1, 0);
        CHECK.task(desk, 1, 0, 0, 0, -1, 0);
        CHECK.queue(desk, 1, 0, 0);
    }

    private static void alternativesStandRightBehind() {
        CHECK.about("alternatives stand right behind SELECT: not behind another instruction");
        for (String gap : new String[] {"PUT 1", "SELECT", "RAISE 1", "DONE"}) {
            RendezvousDesk desk = Script.desk("SELECT; WHEN 0 5; " + gap + "; ELSE 5; WHEN 1 5; PUT 2");
            CHECK.run(desk, 500, STUCK);
            CHECK.task(desk, 0, 4, 0, 0, -1, 0);
            Script.write(desk, 0, "SELECT; " + gap + "; ELSE 4; WHEN 1 4; PUT 2");
            CHECK.run(desk, 500, OVER);
            CHECK.task(desk, 0, 8, 0, 0, 12, 0);
        }
    }

    private static void alternativesUpToTheLast() {
        CHECK.about("all of 16 to 20 are alternatives, in any order");
        RendezvousDesk desk = Script.desk("TASK 1; DELAY 1; SET 6; CALL 1 2",
            "SELECT; IFX 1 9; WHEN 0 9; TERMINATE; ELSE 9; AFTER 9; WHEN 2 8; PUT 9; SHOW; DONE");
        CHECK.run(desk, 500, OVER);
        CHECK.notes(desk, 1, 6);
        for (int body = 1; body < 4; body++) {
            CHECK.about("nineteen alternatives in body " + body);
            desk = Script.desk("TASK " + body + "; DELAY 1; CALL 1 2");
            Script.write(desk, body, "SELECT; " + times(18, "IFX 2 0; ") + "WHEN 2 20");
            CHECK.run(desk, 4, LONG);
            CHECK.task(desk, 1, 0, 20, 1, -1, 1);
        }
        CHECK.about("SELECT as the twentieth has none");
        desk = Script.desk("GO 19; " + times(18, "PUT 1; ") + "SELECT");
        desk.add(1, 18, 0, 0);
        CHECK.run(desk, 500, OVER);
        CHECK.task(desk, 0, 8, 19, 0, 12, 0);
    }

    private static void ifxIsOpenUnlessZero() {
        for (int x : INTS) {
            CHECK.about("IFX is OPEN only if X is not 0, with a QUEUE: " + x);
            RendezvousDesk desk = Script.desk("TASK 1; CALL 1 0",
                "DELAY 1; SET " + x + "; SELECT; IFX 0 6; ELSE 5; ACCEPT 1; ACCEPT 2");
            CHECK.run(desk, 500, STUCK);
            CHECK.due("the caller", x == 0 ? 1 : 2, desk.task(0, 0));
            CHECK.due("the place", x == 0 ? 5 : 6, desk.task(1, 1));
            CHECK.about("IFX is OPEN only if X is not 0, with a call: " + x);
            desk = Script.desk("TASK 1; DELAY 1; CALL 1 0", "SET " + x + "; SELECT; IFX 0 5; WHEN 1 4; PUT 1; ACCEPT 2");
            CHECK.run(desk, 500, STUCK);
            CHECK.due("the caller", x == 0 ? 1 : 2, desk.task(0, 0));
            CHECK.due("the place", x == 0 ? 1 : 5, desk.task(1, 1));
        }
    }

    private static void ifxIsLookedAtWhenSelectIsDone() {
        CHECK.about("IFX: X of the task when SELECT is done, not of the caller");
        RendezvousDesk desk = Script.desk("TASK 1; DELAY 1; SET 7; CALL 1 0", "SELECT; IFX 0 3; WHEN 1 3");
        CHECK.run(desk, 500, STUCK);
        CHECK.task(desk, 0, 1, 3, 7, -1, 0);
        CHECK.task(desk, 1, 4, 0, 0, -1, 0);
        desk = Script.desk("TASK 1; DELAY 1; SET 0; CALL 1 0", "SET 5; SELECT; IFX 0 4; PUT 9; SHOW; ACCEPT 1");
        CHECK.run(desk, 500, STUCK);
        CHECK.notes(desk, 1, 0);
        CHECK.task(desk, 0, 2, 3, 0, -1, 0);
        CHECK.about("WHEN always is OPEN");
        desk = Script.desk("TASK 1; DELAY 1; CALL 1 0", "SET 0; SELECT; WHEN 0 3; ACCEPT 1");
        CHECK.run(desk, 500, STUCK);
        CHECK.task(desk, 0, 2);
    }

    private static void raiseOfTheLeastAndTheGreatest() {
        for (int exception : new int[] {1, 9}) {
            CHECK.about("RAISE " + exception);
            RendezvousDesk desk = Script.desk("SET 50; RAISE " + exception);
            CHECK.run(desk, 2, OVER);
            CHECK.task(desk, 0, 8, 1, 50, exception, 0);
            desk = Script.desk("HANDLE 2; RAISE " + exception + "; SHOW");
            CHECK.run(desk, 500, OVER);
            CHECK.notes(desk, 0, exception);
        }
    }

    private static void handleAtZero() {
        CHECK.about("HANDLE on at 0");
        RendezvousDesk desk = Script.desk("ZERO 2; GO 20; HANDLE 0; RAISE 5");
        CHECK.run(desk, 6, OVER);
        CHECK.task(desk, 0, 8, 20, 5, 0, 0);
    }

    private static void misplacedWithoutFrames() {
        for (String op : new String[] {"LEAVE", "DONE", "OVER"}) {
            CHECK.about("raises 12 without FRAMES: " + op);
            RendezvousDesk desk = Script.desk(op + "; PUT 1");
            CHECK.run(desk, 1, OVER);
            CHECK.task(desk, 0, 8, 0, 0, 12, 0);
        }
    }

    private static void misplacedUnderOtherFrames() {
        for (String pair : new String[] {"BLOCK; DONE", "BLOCK; OVER", "HANDLE 3; LEAVE", "HANDLE 3; DONE"}) {
            CHECK.about("raises 12 if the FRAME at the top is none such: " + pair);
            RendezvousDesk desk = Script.desk("HANDLE 4; " + pair + "; PUT 1; SHOW");
            CHECK.run(desk, 3, LONG);
            boolean inner = pair.startsWith("HANDLE");
            CHECK.task(desk, 0, 0, inner ? 3 : 4, 12, -1, inner ? 1 : 0);
        }
        for (String op : new String[] {"LEAVE", "OVER"}) {
            CHECK.about("raises 12 if the FRAME at the top is a MEETING: " + op);
            RendezvousDesk desk = Script.desk("TASK 1; CALL 1 0", "BLOCK; HANDLE 9; ACCEPT 0; " + op + "; PUT 1");
            CHECK.run(desk, 7, OVER);
            CHECK.task(desk, 0, 8, 1, 1, 12, 0);
            CHECK.task(desk, 1, 8, 9, 12, 12, 0);
        }
        CHECK.about("raises 12 though there is such a FRAME below");
        String[] rows = {"BLOCK; HANDLE 4; LEAVE", "HANDLE 4; BLOCK; OVER"};
        for (int n = 0; n < 2; n++) {
            RendezvousDesk desk = Script.desk(rows[n] + "; PUT 1; SHOW; PUT 2");
            CHECK.run(desk, 4, LONG);
            CHECK.notes(desk, 0, 12);
            CHECK.task(desk, 0, 0, 5, 12, -1, n == 0 ? 1 : 0);
        }
        RendezvousDesk desk = Script.desk("TASK 1; CALL 1 0", "ACCEPT 0; BLOCK; DONE; PUT 1");
        CHECK.run(desk, 5, OVER);
        CHECK.task(desk, 0, 8, 1, 1, 12, 0);
        CHECK.task(desk, 1, 8, 2, 1, 12, 0);
    }

    private static void wellPlaced() {
        CHECK.about("the FRAME at the top goes, and that one alone");
        RendezvousDesk desk = Script.desk("BLOCK; BLOCK; HANDLE 9; HANDLE 9; OVER; OVER; LEAVE; LEAVE");
        int[] frames = {1, 2, 3, 4, 3, 2, 1, 0};
        for (int n = 0; n < 8; n++) {
            CHECK.run(desk, n + 1, LONG);
            CHECK.task(desk, 0, 0, n + 1, 0, -1, frames[n]);
        }
        CHECK.run(desk, 9, OVER);
        desk = Script.desk("TASK 1; TASK 2; CALL 1 0", "DELAY 1; ACCEPT 0; ACCEPT 1; DONE; ACCEPT 2", "CALL 1 1; ACCEPT 0");
        CHECK.run(desk, 500, STUCK);
        CHECK.task(desk, 1, 3, 4, 0, -1, 1);
        CHECK.task(desk, 0, 2, 2, 2, -1, 0);
        CHECK.task(desk, 2, 3, 1, 0, -1, 0);
    }

    private static void endWithFrames() {
        for (String end : new String[] {"", "; END"}) {
            CHECK.about("END raises 12 if there are FRAMES, a BLOCK" + end);
            RendezvousDesk desk = Script.desk("BLOCK" + end);
            CHECK.run(desk, 2, OVER);
            CHECK.task(desk, 0, 8, 1, 0, 12, 0);
            CHECK.about("END raises 12 if there are FRAMES, a HANDLER" + end);
            desk = Script.desk("HANDLE 9" + end);
            CHECK.run(desk, 3, OVER);
            CHECK.task(desk, 0, 8, 9, 12, 0, 0);
            CHECK.about("END raises 12 if there are FRAMES, a MEETING" + end);
            desk = Script.desk("TASK 1; CALL 1 0", "ACCEPT 0" + end);
            CHECK.run(desk, 4, OVER);
            CHECK.task(desk, 1, 8, 1, 1, 12, 0);
            CHECK.task(desk, 0, 8, 1, 1, 12, 0);
        }
    }

    private static void aNinthFrame() {
        for (String op : new String[] {"BLOCK", "HANDLE 9", "ACCEPT 0", "SELECT; ELSE 9", "SELECT; WHEN 0 9", "SELECT"}) {
            CHECK.about("raises 13 if there are 8: " + op);
            RendezvousDesk desk = Script.desk("HANDLE 12; " + times(7, "BLOCK; ") + op + "; PUT 1; PUT 1; PUT 1; PUT 1");
            CHECK.run(desk, 9, LONG);
            CHECK.task(desk, 0, 0, 12, 13, -1, 0);
            CHECK.about("raises 13 if there are 8, unhandled: " + op);
            desk = Script.desk(times(8, "BLOCK; ") + op);
            CHECK.run(desk, 9, OVER);
            CHECK.task(desk, 0, 8, 8, 0, 13, 0);
        }
    }

    private static void aNinthFrameForACaller() {
        for (String op : new String[] {"ACCEPT 0", "SELECT; WHEN 0 11"}) {
            CHECK.about("raises 13 if there are 8, though there is a caller: " + op);
            RendezvousDesk desk = Script.desk("TASK 1; CALL 1 0", "HANDLE 12; " + times(7, "BLOCK; ") + op
                + "; PUT 1; PUT 1; PUT 1; ACCEPT 1; ACCEPT 1");
            CHECK.run(desk, 11, LONG);
            CHECK.task(desk, 1, 0, 12, 13, -1, 0);
            CHECK.task(desk, 0, 1, 1, 1, -1, 0);
            CHECK.queue(desk, 1, 0, 0);
        }
    }

    private static void theEighthFrame() {
        String seven = "HANDLE 12; " + times(6, "BLOCK; ");
        for (String op : new String[] {"BLOCK", "HANDLE 9"}) {
            CHECK.about("does not raise 13 if there are 7: " + op);
            RendezvousDesk desk = Script.desk(seven + op + "; PUT 1");
            CHECK.run(desk, 8, LONG);
            CHECK.task(desk, 0, 0, 8, 0, -1, 8);
        }
        for (String op : new String[] {"ACCEPT 0", "SELECT; WHEN 0 9"}) {
            CHECK.about("does not raise 13 if there are 7, and waits: " + op);
            RendezvousDesk desk = Script.desk(seven + op);
            CHECK.run(desk, 500, STUCK);
            CHECK.task(desk, 0, op.startsWith("A") ? 3 : 4, 7, 0, -1, 7);
            CHECK.about("does not raise 13 if there are 7, and finds a caller: " + op);
            desk = Script.desk("TASK 1; CALL 1 0", seven + op + "; PUT 1");
            CHECK.run(desk, 10, LONG);
            CHECK.task(desk, 1, 0, op.startsWith("A") ? 8 : 9, 1, -1, 8);
            CHECK.task(desk, 0, 2);
            CHECK.about("does not raise 13 if there are 7, and a caller comes: " + op);
            desk = Script.desk("TASK 1; DELAY 1; CALL 1 0", seven + op + "; PUT 1");
            CHECK.run(desk, 11, LONG);
            CHECK.task(desk, 1, 0, op.startsWith("A") ? 8 : 9, 1, -1, 8);
            CHECK.task(desk, 0, 2);
        }
        CHECK.about("DONE gives the room back");
        RendezvousDesk desk = Script.desk("TASK 1; CALL 1 0", seven + "ACCEPT 0; DONE; BLOCK; ACCEPT 1");
        CHECK.run(desk, 13, LONG);
        CHECK.task(desk, 1, 0, 10, 1, -1, 8);
        CHECK.run(desk, 500, OVER);
        CHECK.task(desk, 1, 8, 12, 13, 0, 0);
    }
}
