/** Promises 1, 2, 3 and, of 10, the order of BAD and FULL. */
public final class AddAndClearTest {
    private static final Check CHECK = new Check("AddAndClearTest");

    public static void main(String[] args) {
        aNewObjectHasNothing();
        bodiesAndOpsHaveBounds();
        operandsHaveBounds();
        operandsThatAreNotLookedAtAreAny();
        aBodyGetsFull();
        clearEmptiesOneBody();
        whatWasRunStays();
        CHECK.end();
    }

    private static void aNewObjectHasNothing() {
        RendezvousDesk desk = new RendezvousDesk();
        for (int what = 0; what <= 4; what++) {
            CHECK.due("state(" + what + ") of a new object", 0, desk.state(what));
        }
        for (int what = -1; what <= 8; what++) {
            CHECK.due("task(0, " + what + ") of a new object", -1, desk.task(0, what));
        }
        CHECK.due("noted(0, 1) of a new object", 0, desk.noted(0, 1));
        CHECK.due("queued(0, 0, 0) of a new object", -1, desk.queued(0, 0, 0));
        CHECK.due("ready(0) of a new object", -1, desk.ready(0));
        for (int body = 0; body < 4; body++) {
            CHECK.due("clear(" + body + ") of a new object", 0, desk.clear(body));
        }
    }

    private static void bodiesAndOpsHaveBounds() {
        for (int body : new int[] {-1, 4, Integer.MIN_VALUE, Integer.MAX_VALUE}) {
            CHECK.due("add to body " + body, RendezvousDesk.BAD, new RendezvousDesk().add(body, 0, 0, 0));
        }
        for (int body = 0; body < 4; body++) {
            CHECK.due("add to body " + body, 1, new RendezvousDesk().add(body, 0, 0, 0));
        }
        for (int op : new int[] {-1, 26, Integer.MIN_VALUE, Integer.MAX_VALUE}) {
            CHECK.due("add of op " + op, RendezvousDesk.BAD, new RendezvousDesk().add(0, op, 1, 1));
        }
        for (int op = 0; op < 26; op++) {
            CHECK.due("add of op " + op, 1, new RendezvousDesk().add(0, op, 1, 1));
        }
    }

    private static void operandsHaveBounds() {
        for (int op : new int[] {4, 5, 18, 19, 22}) {
            first(op, 0, 20);
        }
        first(6, 0, 3);
        for (int op : new int[] {9, 11, 24}) {
            first(op, 0, 7);
        }
        for (int op : new int[] {10, 12}) {
            first(op, 0, 99);
        }
        for (int op : new int[] {13, 16, 17}) {
            first(op, 0, 2);
        }
        first(21, 1, 9);
        for (int op : new int[] {16, 17}) {
            second(op, 0, 20);
        }
        for (int op : new int[] {9, 11}) {
            second(op, 0, 2);
        }
    }

    private static void first(int op, int least, int most) {
        for (long a : new long[] {Integer.MIN_VALUE, least - 1, least, most, most + 1, Integer.MAX_VALUE}) {
            int want = a >= least && a <= most ? 1 : RendezvousDesk.BAD;
            CHECK.due("add(0, " + op + ", " + a + ", 0)", want, new RendezvousDesk().add(0, op, (int) a, 0));
        }
    }

    private static void second(int op, int least, int most) {
        for (long b : new long[] {Integer.MIN_VALUE, least - 1, least, most, most + 1, Integer.MAX_VALUE}) {
            int want = b >= least && b <= most ? 1 : RendezvousDesk.BAD;
            CHECK.due("add(0, " + op + ", 0, " + b + ")", want, new RendezvousDesk().add(0, op, 0, (int) b));
        }
    }

    private static void operandsThatAreNotLookedAtAreAny() {
        for (int any : new int[] {Integer.MIN_VALUE, -1, 100, Integer.MAX_VALUE}) {
            for (int op : new int[] {0, 1, 2, 3, 7, 8, 14, 15, 20, 23, 25}) {
                CHECK.due("add of op " + op + " with any", 1, new RendezvousDesk().add(0, op, any, any));
            }
            for (int op : new int[] {4, 5, 6, 10, 12, 13, 18, 19, 21, 22, 24}) {
                CHECK.due("add of op " + op + " with any b", 1, new RendezvousDesk().add(0, op, 1, any));
            }
        }
    }

    private static void aBodyGetsFull() {
        RendezvousDesk desk = new RendezvousDesk();
        for (int n = 1; n <= 20; n++) {
            CHECK.due("add number " + n, n, desk.add(3, 0, n, 0));
        }
        CHECK.due("add number 21", RendezvousDesk.FULL, desk.add(3, 0, 21, 0));
        CHECK.due("a bad add to a full body", RendezvousDesk.BAD, desk.add(3, 4, 21, 0));
        CHECK.due("a bad op to a full body", RendezvousDesk.BAD, desk.add(3, 26, 0, 0));
        CHECK.due("add to another body", 1, desk.add(2, 0, 0, 0));
        CHECK.due("clear of the full one", 20, desk.clear(3));
        CHECK.due("add after clear", 1, desk.add(3, 0, 0, 0));
    }

    private static void clearEmptiesOneBody() {
        RendezvousDesk desk = new RendezvousDesk();
        for (int body = 0; body < 4; body++) {
            for (int n = 0; n <= body; n++) {
                desk.add(body, 0, 0, 0);
            }
        }
        for (int body : new int[] {-1, 4, Integer.MIN_VALUE, Integer.MAX_VALUE}) {
            CHECK.due("clear(" + body + ")", RendezvousDesk.BAD, desk.clear(body));
        }
        CHECK.due("clear(2)", 3, desk.clear(2));
        CHECK.due("clear(2) again", 0, desk.clear(2));
        CHECK.due("clear(3)", 4, desk.clear(3));
        CHECK.due("clear(1)", 2, desk.clear(1));
        CHECK.due("clear(0)", 1, desk.clear(0));
    }

    private static void whatWasRunStays() {
        RendezvousDesk desk = new RendezvousDesk();
        desk.add(0, 2, 6, 0);
        desk.add(0, 1, 0, 0);
        desk.add(0, 13, 1, 0);
        desk.run(100);
        desk.clear(0);
        CHECK.due("the state after clear", 3, desk.task(0, 0));
        CHECK.due("the place after clear", 2, desk.task(0, 1));
        CHECK.due("X after clear", 6, desk.task(0, 2));
        CHECK.due("what was noted after clear", 6, desk.noted(0, 1));
        CHECK.due("instructions done after clear", 3, desk.state(2));
    }
}
