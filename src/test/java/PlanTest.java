/** Promises 11 to 13 and 22 to 25: plan, dropPlan, carryPlan, planOrder, planOrders, mustBeLast, brassForPlan. */
public final class PlanTest {
    private static final Checks CHECKS = new Checks("PlanTest");

    public static void main(String[] args) {
        plan();
        planErrors();
        dropPlan();
        emptyPlan();
        carryInTheFirstOrder();
        notPossible();
        oneOrderOfThree();
        lastInEachOrder();
        brassThatIsMissing();
        allOrders();
        settingsCountWhenCarried();
        questionsStandAlone();
        CHECKS.finish();
    }

    private static PinHouse withDoors(int brass, int... rows) {
        PinHouse x = new PinHouse();
        x.set(PinHouse.LOSS, 0);
        for (int rest = brass; rest > 0; rest -= 1000) x.brass(Math.min(1000, rest));
        for (int door = 0; door < rows.length; door++) x.door(0, 1, rows[door], rows[door]);
        return x;
    }

    private static void plan() {
        PinHouse x = withDoors(100, 0, 0, 0);
        CHECKS.due("plan 2", x.plan(2, 1, 2), 1);
        CHECKS.due("plan 0", x.plan(0, 9999, 9999), 2);
        CHECKS.due("cuts of the plan", x.count(9), 2);
        CHECKS.due("place of 2", x.ofDoor(2, 7), 0);
        CHECKS.due("place of 0", x.ofDoor(0, 7), 1);
        CHECKS.due("place of 1", x.ofDoor(1, 7), -6);
        CHECKS.due("locks stay", x.ofDoor(2, 2), 0);
        CHECKS.due("box stays", x.count(7), 88);
        CHECKS.due("undo", x.undo(), 5);
        CHECKS.due("one cut", x.count(9), 1);
        CHECKS.due("place of 0", x.ofDoor(0, 7), -6);
    }

    private static void planErrors() {
        PinHouse x = withDoors(100, 0, 0, 0, 0, 0, 0, 0);
        CHECKS.due("no door 7", x.plan(7, 0, 0), -1);
        CHECKS.due("no door -1", x.plan(-1, 0, 0), -1);
        CHECKS.due("NO_SUCH before BAD_VALUE", x.plan(7, -1, 0), -1);
        CHECKS.due("first -1", x.plan(0, -1, 0), -2);
        CHECKS.due("first 10000", x.plan(0, 10000, 0), -2);
        CHECKS.due("second -1", x.plan(0, 0, -1), -2);
        CHECKS.due("second 10000", x.plan(0, 0, 10000), -2);
        for (int door = 0; door < 5; door++) CHECKS.due("plan " + door, x.plan(door, 1, 1), door + 1);
        CHECKS.due("in it", x.plan(3, 2, 2), -5);
        CHECKS.due("BAD_VALUE before NOT_POSSIBLE", x.plan(3, 2, -2), -2);
        CHECKS.due("plan 5", x.plan(5, 1, 1), 6);
        CHECKS.due("a 7th", x.plan(6, 1, 1), -4);
        CHECKS.due("TOO_MANY before NOT_POSSIBLE", x.plan(3, 1, 1), -4);
        CHECKS.due("BAD_VALUE before TOO_MANY", x.plan(6, 1, 10000), -2);
        CHECKS.due("cuts of the plan", x.count(9), 6);
    }

    private static void dropPlan() {
        PinHouse x = withDoors(100, 0, 0);
        CHECKS.due("empty", x.dropPlan(), 0);
        CHECKS.due("a change all the same", x.count(12), 5);
        x.plan(1, 1, 1);
        x.plan(0, 1, 1);
        CHECKS.due("two", x.dropPlan(), 2);
        CHECKS.due("empty then", x.count(9), 0);
        CHECKS.due("door 1 is not in it", x.ofDoor(1, 7), -6);
        CHECKS.due("undo", x.undo(), 5);
        CHECKS.due("two again", x.count(9), 2);
        CHECKS.due("door 1 is first", x.ofDoor(1, 7), 0);
        CHECKS.due("a door in it", x.plan(1, 2, 2), -5);
        x.dropPlan();
        CHECKS.due("the door again", x.plan(0, 2, 2), 1);
    }

    private static void emptyPlan() {
        PinHouse x = withDoors(50, 0);
        CHECKS.due("carryPlan", x.carryPlan(), -5);
        CHECKS.due("no change", x.count(12), 3);
        CHECKS.due("planOrders", x.planOrders(), 1);
        CHECKS.due("planOrder(0)", x.planOrder(0), -6);
        CHECKS.due("planOrder(5)", x.planOrder(5), -6);
        CHECKS.due("planOrder(6)", x.planOrder(6), -2);
        CHECKS.due("planOrder(-1)", x.planOrder(-1), -2);
        CHECKS.due("mustBeLast", x.mustBeLast(), -6);
        CHECKS.due("brassForPlan", x.brassForPlan(), 0);
    }

    private static void carryInTheFirstOrder() {
        // Box 2; lock 0 needs 8 more, lock 1 leaves 10, lock 2 leaves 4.
        PinHouse x = withDoors(4 + 14 + 8 + 2, 0, 1234, 1111);
        x.plan(0, 2222, 2222);
        x.plan(1, 0, 0);
        x.plan(2, 0, 0);
        CHECKS.due("orders", x.planOrders(), 3);
        CHECKS.due("first", x.planOrder(0), 1);
        CHECKS.due("second", x.planOrder(1), 0);
        CHECKS.due("third", x.planOrder(2), 2);
        CHECKS.due("no fourth", x.planOrder(3), -6);
        CHECKS.due("no one last", x.mustBeLast(), -6);
        CHECKS.due("no brass missing", x.brassForPlan(), 0);
        CHECKS.due("nothing changed", x.count(7), 2);
        CHECKS.due("carried out", x.carryPlan(), 8);
        CHECKS.due("box", x.count(7), 8);
        CHECKS.due("empty then", x.count(9), 0);
        CHECKS.due("lock 0", x.ofDoor(0, 2), 2222);
        CHECKS.due("lock 1", x.ofDoor(1, 3), 0);
        for (int door = 0; door < 3; door++) CHECKS.due("cut anew " + door, x.ofDoor(door, 5), 1);
        CHECKS.due("one change", x.undo(), 5);
        CHECKS.due("the plan is back", x.count(9), 3);
        CHECKS.due("the locks are back", x.ofDoor(1, 2), 1234);
    }

    private static void notPossible() {
        PinHouse x = withDoors(8 + 2, 0, 0);
        x.plan(0, 1, 1);
        x.plan(1, 11, 11);
        CHECKS.due("a gram is missing", x.carryPlan(), -5);
        CHECKS.due("nothing changed", x.count(7), 2);
        CHECKS.due("the plan stays", x.count(9), 2);
        CHECKS.due("nothing was cut anew", x.ofDoor(0, 5), 0);
        CHECKS.due("orders", x.planOrders(), 0);
        CHECKS.due("first", x.planOrder(0), -6);
        CHECKS.due("second", x.planOrder(1), -6);
        CHECKS.due("third", x.planOrder(2), -6);
        CHECKS.due("last", x.mustBeLast(), -6);
        CHECKS.due("brass", x.brassForPlan(), 1);
        x.brass(1);
        CHECKS.due("now it is enough", x.brassForPlan(), 0);
        CHECKS.due("orders", x.planOrders(), 2);
        CHECKS.due("carried out", x.carryPlan(), 0);
    }

    private static void oneOrderOfThree() {
        // Box 0; lock 2 leaves 6, lock 1 needs 6 of them and so comes last; lock 0 changes nothing.
        PinHouse x = withDoors(4 + 4 + 10, 0, 0, 1113);
        x.plan(0, 0, 0);
        x.plan(1, 1113, 1113);
        x.plan(2, 0, 0);
        CHECKS.due("orders: 0 2 1, 2 0 1, 2 1 0", x.planOrders(), 3);
        CHECKS.due("first", x.planOrder(0), 0);
        CHECKS.due("second", x.planOrder(1), 2);
        CHECKS.due("third", x.planOrder(2), 1);
        CHECKS.due("no one last", x.mustBeLast(), -6);
        CHECKS.due("carried out", x.carryPlan(), 0);
    }

    private static void lastInEachOrder() {
        PinHouse one = withDoors(10, 0);
        one.plan(0, 1, 1);
        CHECKS.due("one cut is last", one.mustBeLast(), 0);
        CHECKS.due("one order", one.planOrders(), 1);
        one.dropPlan();
        one.plan(0, 7, 7);
        CHECKS.due("not if it is not possible", one.mustBeLast(), -6);
        // Box 1: lock 1 and lock 2 leave 4 each, lock 0 needs all 9.
        PinHouse x = withDoors(4 + 8 + 8 + 1, 0, 1111, 1111);
        x.plan(1, 0, 0);
        x.plan(0, 9, 9);
        x.plan(2, 0, 0);
        CHECKS.due("orders", x.planOrders(), 2);
        CHECKS.due("the cut at place 1 is last", x.mustBeLast(), 1);
        CHECKS.due("the order", x.planOrder(2), 1);
        x.brass(4);
        CHECKS.due("more orders", x.planOrders(), 4);
        CHECKS.due("not in each order now", x.mustBeLast(), -6);
    }

    private static void brassThatIsMissing() {
        // Box 0: lock 0 needs 5, lock 1 leaves 4, lock 2 needs 1.
        PinHouse x = withDoors(4 + 8 + 4, 0, 1111, 0);
        x.plan(0, 5, 5);
        x.plan(1, 0, 0);
        x.plan(2, 1, 1);
        CHECKS.due("missing", x.brassForPlan(), 2);
        CHECKS.due("nothing changed", x.count(7), 0);
        x.brass(1);
        CHECKS.due("missing", x.brassForPlan(), 1);
        CHECKS.due("no order yet", x.planOrders(), 0);
        x.brass(1);
        CHECKS.due("missing", x.brassForPlan(), 0);
        CHECKS.due("orders: 1 0 2, 1 2 0, 2 1 0", x.planOrders(), 3);
        PinHouse y = withDoors(4, 0);
        y.plan(0, 9999, 0);
        CHECKS.due("a whole lock", y.brassForPlan(), 40);
        y.set(PinHouse.LOSS, 50);
        CHECKS.due("and what is lost", y.brassForPlan(), 42);
    }

    private static void allOrders() {
        PinHouse x = withDoors(1000, 0, 0, 0, 0, 0, 0);
        for (int door = 5; door >= 0; door--) x.plan(door, 9999, 0);
        CHECKS.due("all orders of six", x.planOrders(), 720);
        for (int place = 0; place < 6; place++) CHECKS.due("place " + place, x.planOrder(place), place);
        CHECKS.due("planOrder(6)", x.planOrder(6), -2);
        CHECKS.due("carried out", x.carryPlan(), 1000 - 6 * 44);
    }

    /** An answer must not stand on what another question found before. */
    private static void questionsStandAlone() {
        PinHouse x = withDoors(4 + 8 + 8 + 1, 0, 1111, 1111);
        x.plan(1, 0, 0);
        x.plan(0, 9, 9);
        x.plan(2, 0, 0);
        CHECKS.due("mustBeLast at first", x.mustBeLast(), 1);
        x.dropPlan();
        x.plan(2, 9999, 9999);
        x.plan(1, 9999, 9999);
        CHECKS.due("brassForPlan then", x.brassForPlan(), 63);
        x.dropPlan();
        x.plan(0, 1, 1);
        CHECKS.due("planOrder then", x.planOrder(0), 0);
        CHECKS.due("brassForPlan of less", x.brassForPlan(), 0);
        CHECKS.due("mustBeLast of less", x.mustBeLast(), 0);
        x.dropPlan();
        CHECKS.due("brassForPlan of nothing", x.brassForPlan(), 0);
        CHECKS.due("planOrders of nothing", x.planOrders(), 1);
        x.plan(2, 9999, 9999);
        CHECKS.due("mustBeLast", x.mustBeLast(), -6);
        CHECKS.due("planOrders", x.planOrders(), 0);
        CHECKS.due("carryPlan", x.carryPlan(), -5);
    }

    private static void settingsCountWhenCarried() {
        PinHouse x = withDoors(40, 9999);
        x.plan(0, 9999, 9999);
        CHECKS.due("without loss", x.planOrders(), 1);
        x.set(PinHouse.LOSS, 10);
        CHECKS.due("with loss", x.planOrders(), 0);
        CHECKS.due("missing", x.brassForPlan(), 4);
        CHECKS.due("a planned lock can be cut", x.cut(0, 0, 0), 32);
        CHECKS.due("it stays in the plan", x.count(9), 1);
        CHECKS.due("missing", x.brassForPlan(), 5);
        x.brass(10);
        CHECKS.due("carried out", x.carryPlan(), 5);
        CHECKS.due("cut anew", x.ofDoor(0, 5), 2);
        CHECKS.due("lost", x.count(8), 5);
    }
}
