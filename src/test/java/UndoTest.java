/** Promises 30 to 32: undo, save, restore. */
public final class UndoTest {
    private static final Checks CHECKS = new Checks("UndoTest");

    public static void main(String[] args) {
        sixStates();
        everythingComesBack();
        errorsRecordNothing();
        questionsRecordNothing();
        padAndSlotsStay();
        save();
        restore();
        restoreErrors();
        twoSlots();
        otherThingsInBetween();
        CHECKS.finish();
    }

    private static void sixStates() {
        PinHouse x = new PinHouse();
        for (int times = 1; times <= 8; times++) {
            x.brass(times);
            CHECKS.due("changes after " + times, x.count(12), Math.min(6, times));
        }
        for (int left = 5; left >= 0; left--) CHECKS.due("undo to " + left, x.undo(), left);
        CHECKS.due("the oldest were dropped", x.count(7), 3);
        CHECKS.due("no more", x.undo(), -5);
        CHECKS.due("nothing changed", x.count(7), 3);
        x.brass(1);
        x.brass(1);
        CHECKS.due("undo", x.undo(), 1);
        x.brass(10);
        CHECKS.due("a new change after undo", x.count(12), 2);
        x.undo();
        CHECKS.due("box", x.count(7), 4);
        x.undo();
        CHECKS.due("box", x.count(7), 3);
    }

    private static PinHouse rich() {
        PinHouse x = new PinHouse();
        x.brass(300);
        x.door(0, 1, 1111, 1112);
        x.door(1, 2, 2222, 2222);
        x.key(1111, 0);
        x.key(2222, 0);
        x.key(3333, 0);
        x.key(4444, 1);
        x.take(0);
        x.take(1);
        x.go(0);
        x.plan(0, 4444, 4444);
        x.plan(1, 5555, 5555);
        x.cut(1, 2223, 2222);
        return x;
    }

    /** Undoes one change of each kind and compares all numbers. */
    private static void everythingComesBack() {
        for (int kind = 0; kind < 14; kind++) {
            PinHouse x = rich();
            x.save(0);
            x.brass(5);
            long before = Checks.sumOf(x);
            change(x, kind);
            CHECKS.due("changes after kind " + kind, x.count(12), 6);
            CHECKS.isTrue("kind " + kind + " changes something", Checks.sumOf(x) != before);
            CHECKS.due("undo of kind " + kind, x.undo(), 5);
            CHECKS.due("all numbers after kind " + kind, Checks.sumOf(x), before);
        }
    }

    private static void change(PinHouse x, int kind) {
        switch (kind) {
            case 0: x.set(PinHouse.STEP, 9); break;
            case 1: x.brass(1); break;
            case 2: x.door(3, 4, 0, 0); break;
            case 3: x.cut(0, 1111, 1112); break;
            case 4: x.key(0, 0); break;
            case 5: x.melt(2); break;
            case 6: x.take(3); break;
            case 7: x.putDown(1); break;
            case 8: x.go(1); break;
            case 9: x.dropPlan(); break;
            case 10: x.carryPlan(); break;
            case 11: x.set(PinHouse.BLANK, 41); break;
            case 12: Checks.write(x, "pA;pB;b1"); x.carryOut(); break;
            default: x.restore(0); break;
        }
    }

    private static void errorsRecordNothing() {
        PinHouse x = rich();
        x.undo();
        x.undo();
        long before = Checks.sumOf(x);
        int[] answers = {x.set(9, 9), x.brass(0), x.door(0, 0, 0, 0), x.cut(9, 0, 0), x.key(9999, 8), x.melt(9), x.take(2),
            x.putDown(2), x.go(5), x.plan(0, 0, 0), x.carryOut(), x.restore(0), x.restore(2), x.ofDoor(9, 9)};
        for (int answer : answers) CHECKS.isTrue("an error: " + answer, answer < 0);
        CHECKS.due("changes", x.count(12), 4);
        CHECKS.due("all numbers", Checks.sumOf(x), before);
    }

    private static void questionsRecordNothing() {
        PinHouse x = rich();
        x.undo();
        long before = Checks.sumOf(x);
        x.opens(0, 0);
        x.chanceKeys(3);
        x.justFor(1);
        x.reach();
        x.doorsTo(2);
        x.planOrder(0);
        x.planOrders();
        x.mustBeLast();
        x.brassForPlan();
        Checks.write(x, "b1");
        x.fault();
        x.wipe();
        x.save(0);
        CHECKS.due("changes", x.count(12), 5);
        CHECKS.due("all numbers", Checks.sumOf(x), before);
    }

    private static void padAndSlotsStay() {
        PinHouse x = new PinHouse();
        x.brass(10);
        x.brass(20);
        x.save(1);
        Checks.write(x, "b1;");
        x.undo();
        CHECKS.due("the pad stays by undo", x.count(11), 3);
        Checks.write(x, "b2");
        x.undo();
        CHECKS.due("the slot stays by undo", x.restore(1), 0);
        CHECKS.due("box", x.count(7), 30);
        CHECKS.due("the pad stays by restore", x.count(11), 5);
        CHECKS.due("history goes on by restore", x.count(12), 1);
        CHECKS.due("the pad", x.carryOut(), 2);
        CHECKS.due("box", x.count(7), 33);
    }

    private static void save() {
        PinHouse x = rich();
        CHECKS.due("the room", x.save(0), 1);
        CHECKS.due("slot 1", x.save(1), 1);
        CHECKS.due("slot 2", x.save(2), -2);
        CHECKS.due("slot -1", x.save(-1), -2);
        CHECKS.due("no change", x.count(12), 6);
    }

    private static void restore() {
        PinHouse x = rich();
        long before = Checks.sumOf(x);
        x.save(0);
        x.go(0);
        x.melt(0);
        x.set(PinHouse.LOSS, 33);
        x.set(PinHouse.STEP, 1);
        x.door(6, 7, 0, 0);
        x.key(1111, 5);
        x.carryPlan();
        long then = Checks.sumOf(x);
        CHECKS.due("the room", x.restore(0), 1);
        CHECKS.due("all numbers", Checks.sumOf(x), before);
        CHECKS.due("a change", x.undo(), 5);
        CHECKS.due("all numbers then", Checks.sumOf(x), then);
        CHECKS.due("the slot keeps it", x.restore(0), 1);
        x.brass(1);
        CHECKS.due("the slot is a copy", x.restore(0), 1);
        CHECKS.due("all numbers", Checks.sumOf(x), before);
    }

    private static void restoreErrors() {
        PinHouse x = rich();
        CHECKS.due("slot 2", x.restore(2), -2);
        CHECKS.due("slot -1", x.restore(-1), -2);
        CHECKS.due("nothing saved", x.restore(0), -5);
        x.save(1);
        CHECKS.due("nothing saved in 0", x.restore(0), -5);
        CHECKS.due("saved in 1", x.restore(1), 1);
    }

    /** What is made in the place of something undone has nothing of it, and the saved state nothing of that. */
    private static void otherThingsInBetween() {
        PinHouse x = new PinHouse();
        x.brass(300);
        x.door(0, 1, 1111, 2222);
        x.cut(0, 1112, 2223);
        x.key(1111, 4);
        x.plan(0, 3334, 3333);
        long saved = Checks.sumOf(x);
        x.save(0);
        for (int times = 0; times < 4; times++) x.undo();
        CHECKS.due("no door", x.count(2), 0);
        x.door(2, 3, 4444, 5555);
        CHECKS.due("never cut anew", x.ofDoor(0, 5), 0);
        x.door(5, 6, 0, 0);
        x.key(2222, 7);
        x.plan(1, 7777, 8888);
        long then = Checks.sumOf(x);
        x.restore(0);
        int[] door = {0, 1, 1112, 2223, 13, 1, 0, 0};
        for (int what = 0; what < 8; what++) CHECKS.due("ofDoor(0, " + what + ")", x.ofDoor(0, what), door[what]);
        CHECKS.due("cuts of the key", x.ofKey(0, 0), 1111);
        CHECKS.due("place of the key", x.ofKey(0, 2), 4);
        CHECKS.due("all numbers", Checks.sumOf(x), saved);
        x.carryPlan();
        CHECKS.due("the first row that was planned", x.ofDoor(0, 2), 3334);
        CHECKS.due("the second row that was planned", x.ofDoor(0, 3), 3333);
        x.undo();
        x.undo();
        CHECKS.due("all numbers then", Checks.sumOf(x), then);
        x.dropPlan();
        x.plan(0, 1, 1);
        x.plan(1, 2, 2);
        x.undo();
        x.undo();
        x.undo();
        CHECKS.due("the plan then", x.ofDoor(1, 7), 0);
        CHECKS.due("carried out", x.carryPlan(), 300 - 24 - 4 + 8 + 3 - 36);
        CHECKS.due("the row that was planned then", x.ofDoor(1, 2), 7777);
    }

    private static void twoSlots() {
        PinHouse x = new PinHouse();
        x.save(0);
        x.brass(5);
        x.save(1);
        x.brass(6);
        x.restore(0);
        CHECKS.due("slot 0", x.count(7), 0);
        x.restore(1);
        CHECKS.due("slot 1", x.count(7), 5);
        x.brass(1);
        x.save(0);
        x.restore(1);
        x.restore(0);
        CHECKS.due("overwritten", x.count(7), 6);
        CHECKS.due("changes", x.count(12), 6);
        for (int times = 0; times < 3; times++) x.undo();
        CHECKS.due("through restored states", x.count(7), 5);
    }
}
