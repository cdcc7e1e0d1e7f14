import java.util.Arrays;

/** The boundary cases that promises 11 to 13 and 22 to 25 name: the plan, and the orders in which it can be carried out. */
public final class EdgesOfPlansTest {
    private static final Edges EDGES = new Edges("EdgesOfPlansTest");
    private static final int[] FAR = {Integer.MIN_VALUE, Integer.MIN_VALUE + 1, -65536, Integer.MAX_VALUE - 1, Integer.MAX_VALUE};

    public static void main(String[] args) {
        noSuchDoorToPlan();
        rowsOfAPlannedCut();
        tooManyPlanned();
        doorIsInThePlan();
        cutsThen();
        planIsAChange();
        howManyItHad();
        dropPlanIsAChange();
        emptyPlanCarried();
        noSuchOrderToCarry();
        carriedInTheFirstOrder();
        emptyAfterCarrying();
        boxAfterCarrying();
        carryPlanIsAChange();
        placeOutOfRange();
        noSuchPlace();
        noOrderHasAPlace();
        firstOrder();
        placeInThePlan();
        ordersOfAnEmptyPlan();
        howManyOrders();
        noLastCut();
        lastInEachOrder();
        placeOfTheLastCut();
        noBrassNeeded();
        leastBrass();
        inSomeOrder();
        questionsChangeNothing();
        EDGES.finish();
    }

    /** Doors with locks of one row each, LOSS 0, and a rest in the box. */
    private static PinHouse locks(int rest, int... rows) {
        PinHouse x = new PinHouse();
        x.set(PinHouse.LOSS, 0);
        int grams = rest;
        for (int row : rows) grams += 4 + row % 10 + row / 10 % 10 + row / 100 % 10 + row / 1000;
        x.brass(grams);
        for (int row : rows) x.door(0, 1, row, row);
        EDGES.due("the rest in the box", x.count(7), rest);
        return x;
    }

    /** Plans the doors in their order, each to be cut to one row. */
    private static PinHouse planned(PinHouse x, int... rows) {
        for (int door = 0; door < rows.length; door++) x.plan(door, rows[door], rows[door]);
        EDGES.due("planned", x.count(9), rows.length);
        return x;
    }

    private static void noSuchDoorToPlan() {
        EDGES.of("Promise 11", "NO_SUCH if there is no such door");
        EDGES.refused("before the first door", -1, Edges::rich, x -> x.plan(-1, 0, 0));
        EDGES.refused("after the last door", -1, Edges::rich, x -> x.plan(3, 0, 0));
        EDGES.refused("without a door", -1, PinHouse::new, x -> x.plan(0, 0, 0));
        EDGES.refused("an 11th door", -1, Edges::fullOfDoors, x -> x.plan(10, 0, 0));
        for (int far : FAR) EDGES.refused("door " + far, -1, Edges::rich, x -> x.plan(far, 0, 0));
        EDGES.due("the last door", Edges.fullOfDoors().plan(9, 0, 0), 3);
    }

    private static void rowsOfAPlannedCut() {
        EDGES.of("Promise 11", "BAD_VALUE if a row is not 0 to 9999");
        for (int row : new int[] {-1, 10000, 10001, -9999}) {
            EDGES.refused("first " + row, -2, Edges::rich, x -> x.plan(1, row, 0));
            EDGES.refused("second " + row, -2, Edges::rich, x -> x.plan(1, 0, row));
        }
        for (int far : FAR) {
            EDGES.refused("first " + far, -2, Edges::rich, x -> x.plan(1, far, 0));
            EDGES.refused("second " + far, -2, Edges::rich, x -> x.plan(1, 0, far));
        }
        PinHouse x = locks(80, 0, 0);
        EDGES.due("9999 and 0", x.plan(0, 9999, 0), 1);
        EDGES.due("0 and 9999", x.plan(1, 0, 9999), 2);
        x.carryPlan();
        EDGES.due("the first row then", x.ofDoor(0, 2) - x.ofDoor(0, 3), 9999);
        EDGES.due("the second row then", x.ofDoor(1, 3) - x.ofDoor(1, 2), 9999);
    }

    private static void tooManyPlanned() {
        EDGES.of("Promise 11", "TOO_MANY if it has 6");
        EDGES.due("cuts of the plan", Edges.fullPlan().count(9), 6);
        EDGES.refused("a seventh", -4, Edges::fullPlan, x -> x.plan(9, 0, 0));
        EDGES.refused("a seventh, of a door in it", -4, Edges::fullPlan, x -> x.plan(2, 0, 0));
        PinHouse x = Edges.fullPlan();
        x.dropPlan();
        EDGES.due("one in an empty plan again", x.plan(9, 0, 0), 1);
    }

    private static void doorIsInThePlan() {
        EDGES.of("Promise 11", "NOT_POSSIBLE if the door is in it");
        EDGES.refused("the first one", -5, Edges::rich, x -> x.plan(2, 3, 3));
        EDGES.refused("the last one", -5, Edges::rich, x -> x.plan(0, 3, 3));
        EDGES.due("another one", Edges.rich().plan(1, 3, 3), 3);
        PinHouse x = Edges.rich();
        x.dropPlan();
        EDGES.due("again after dropPlan", x.plan(2, 3, 3), 1);
        PinHouse y = Edges.rich();
        y.carryPlan();
        EDGES.due("again after carryPlan", y.plan(2, 3, 3), 1);
        PinHouse z = Edges.rich();
        z.cut(2, 5, 5);
        EDGES.due("still in it when it was cut anew", z.plan(2, 3, 3), -5);
    }

    private static void cutsThen() {
        EDGES.of("Promise 11", "Returns how many cuts it has then");
        PinHouse x = locks(0, 0, 0, 0, 0, 0, 0);
        for (int door = 0; door < 6; door++) EDGES.due("plan(" + door + "), with an empty box", x.plan(door, 9999, 0), door + 1);
        for (int door = 0; door < 6; door++) EDGES.due("its place", x.ofDoor(door, 7), door);
    }

    private static void planIsAChange() {
        EDGES.of("Promise 11", "Adds a cut to the plan. This is a change.");
        PinHouse x = locks(0, 0, 0);
        x.plan(1, 1, 1);
        x.plan(0, 2, 2);
        EDGES.due("undo", x.undo(), 5);
        EDGES.due("cuts", x.count(9), 1);
        EDGES.due("the one that stays", x.ofDoor(1, 7), 0);
        EDGES.due("the one that was undone", x.ofDoor(0, 7), -6);
        EDGES.due("the lock was not cut", x.ofDoor(1, 2), 0);
    }

    private static void howManyItHad() {
        EDGES.of("Promise 12", "Returns how many cuts it had");
        EDGES.due("six", Edges.fullPlan().dropPlan(), 6);
        EDGES.due("two", Edges.rich().dropPlan(), 2);
        PinHouse x = new PinHouse();
        EDGES.due("none", x.dropPlan(), 0);
        EDGES.due("none again", x.dropPlan(), 0);
        PinHouse y = Edges.rich();
        y.dropPlan();
        EDGES.due("none then", y.dropPlan(), 0);
        EDGES.due("door 2 is not in it", y.ofDoor(2, 7), -6);
        EDGES.due("its lock stays", y.ofDoor(2, 2), 3333);
    }

    private static void dropPlanIsAChange() {
        EDGES.of("Promise 12", "Makes the plan empty. This is a change.");
        PinHouse x = new PinHouse();
        x.dropPlan();
        EDGES.due("changes, though it was empty", x.count(12), 1);
        EDGES.due("undo", x.undo(), 0);
        PinHouse y = Edges.fullPlan();
        y.dropPlan();
        EDGES.due("undo", y.undo(), 5);
        EDGES.due("cuts", y.count(9), 6);
        EDGES.due("its first door", y.ofDoor(2, 7), 0);
        EDGES.due("its last door", y.ofDoor(7, 7), 5);
    }

    private static void emptyPlanCarried() {
        EDGES.of("Promise 13", "NOT_POSSIBLE if the plan is empty");
        EDGES.refused("a new house", -5, PinHouse::new, PinHouse::carryPlan);
        EDGES.refused("dropped", -5, EdgesOfPlansTest::dropped, PinHouse::carryPlan);
        EDGES.refused("carried out before", -5, EdgesOfPlansTest::carried, PinHouse::carryPlan);
    }

    private static PinHouse dropped() {
        PinHouse x = Edges.rich();
        x.dropPlan();
        return x;
    }

    private static PinHouse carried() {
        PinHouse x = Edges.rich();
        x.carryPlan();
        return x;
    }

    private static void noSuchOrderToCarry() {
        EDGES.of("Promise 13", "or there is no such order");
        EDGES.refused("with an empty box", -5, Edges::poor, PinHouse::carryPlan);
        EDGES.refused("a gram short", -5, () -> planned(locks(4, 0), 5), PinHouse::carryPlan);
        EDGES.due("just enough", planned(locks(5, 0), 5).carryPlan(), 0);
        EDGES.refused("a gram short for the last cut", -5, () -> planned(locks(9, 0, 0), 5, 5), PinHouse::carryPlan);
        EDGES.due("just enough for the last cut", planned(locks(10, 0, 0), 5, 5).carryPlan(), 0);
    }

    private static void carriedInTheFirstOrder() {
        EDGES.of("Promise 13", "Carries the plan out in the first order in which it can be");
        // Box 0: only the last cut of the plan leaves the brass that the others need.
        PinHouse x = planned(locks(0, 0, 0, 5555), 9, 9, 0);
        EDGES.due("carried out", x.carryPlan(), 2);
        EDGES.due("lock 0", x.ofDoor(0, 2), 9);
        EDGES.due("lock 1", x.ofDoor(1, 2), 9);
        EDGES.due("lock 2", x.ofDoor(2, 2), 0);
        for (int door = 0; door < 3; door++) EDGES.due("cut anew once, door " + door, x.ofDoor(door, 5), 1);
        PinHouse y = locks(40, 0, 0);
        y.plan(1, 1234, 1243);
        EDGES.due("one cut alone", y.carryPlan(), 28);
        EDGES.due("the door that is not in it", y.ofDoor(0, 5), 0);
        EDGES.due("both rows", y.ofDoor(1, 2) * 10000 + y.ofDoor(1, 3), 12341243);
    }

    private static void emptyAfterCarrying() {
        EDGES.of("Promise 13", "it is empty then");
        PinHouse x = Edges.fullPlan();
        x.brass(100);
        EDGES.due("carried out", Math.min(0, x.carryPlan()), 0);
        EDGES.due("cuts", x.count(9), 0);
        EDGES.due("door 0", x.ofDoor(0, 7), -6);
        EDGES.due("orders", x.planOrders(), 1);
        EDGES.due("again", x.carryPlan(), -5);
    }

    private static void boxAfterCarrying() {
        EDGES.of("Promise 13", "Returns what is in the box then");
        PinHouse x = planned(locks(20, 9999, 0), 0, 9999);
        x.set(PinHouse.LOSS, 50);
        EDGES.due("20, and 20 less 4, and 2 less 40", x.carryPlan(), -5);
        x.set(PinHouse.LOSS, 1);
        EDGES.due("20, and 39 less 4, and 3 less 40", x.carryPlan(), 18);
        EDGES.due("the box", x.count(7), 18);
        EDGES.due("lost, each lock rounded up for itself", x.count(8), 2);
    }

    private static void carryPlanIsAChange() {
        EDGES.of("Promise 13", "This is a change");
        PinHouse x = planned(locks(100, 0, 0, 0), 1, 1, 1);
        x.undo();
        x.undo();
        EDGES.due("changes before", x.count(12), 4);
        x.carryPlan();
        EDGES.due("one change", x.count(12), 5);
        EDGES.due("undo", x.undo(), 4);
        EDGES.due("the plan", x.count(9), 1);
        EDGES.due("the lock", x.ofDoor(0, 2), 0);
        EDGES.due("it was not cut anew", x.ofDoor(0, 5), 0);
        EDGES.due("again", x.carryPlan(), 99);
    }

    private static void placeOutOfRange() {
        EDGES.of("Promise 22", "BAD_VALUE if place is not 0 to 5");
        for (int place : new int[] {-1, 6, 7, -6}) EDGES.refused("place " + place, -2, Edges::fullPlan, x -> x.planOrder(place));
        for (int far : FAR) EDGES.refused("place " + far, -2, Edges::fullPlan, x -> x.planOrder(far));
        EDGES.refused("place 6 of an empty plan", -2, PinHouse::new, x -> x.planOrder(6));
        EDGES.refused("place -1 of an empty plan", -2, PinHouse::new, x -> x.planOrder(-1));
        EDGES.refused("place 6, no order", -2, Edges::poor, x -> x.planOrder(6));
    }

    private static void noSuchPlace() {
        EDGES.of("Promise 22", "NONE if the order has no such place");
        for (int place = 0; place < 6; place++) EDGES.due("an empty plan, place " + place, new PinHouse().planOrder(place), -6);
        int[] rows = {1, 1, 1, 1, 1, 1};
        for (int size = 1; size <= 6; size++) {
            PinHouse x = planned(locks(100, rows), Arrays.copyOf(rows, size));
            for (int place = 0; place < 6; place++) {
                EDGES.due(size + " cuts, place " + place, x.planOrder(place), place < size ? place : -6);
            }
        }
    }

    private static void noOrderHasAPlace() {
        EDGES.of("Promise 22", "or there is no such order");
        PinHouse x = planned(locks(0, 1, 0, 0), 0, 1, 1);
        for (int place = 0; place < 6; place++) EDGES.due("place " + place, x.planOrder(place), -6);
        x.brass(1);
        for (int place = 0; place < 3; place++) EDGES.due("with a gram more, place " + place, x.planOrder(place), place);
    }

    private static void firstOrder() {
        EDGES.of("Promise 22", "Returns the first order in which the plan can be carried out");
        // Box 1: place 0 takes 2, place 1 takes 1, place 2 leaves 2. 1 2 0 is the first: 0 can't come first.
        PinHouse x = planned(locks(1, 0, 0, 2), 2, 1, 0);
        int[] want = {1, 2, 0, -6, -6, -6};
        for (int place = 0; place < 6; place++) EDGES.due("place " + place, x.planOrder(place), want[place]);
        EDGES.due("orders: 1 2 0, 2 0 1, 2 1 0", x.planOrders(), 3);
        // Box 2: 0 can come first, then 2 has to, for 1 needs 1.
        x.brass(1);
        int[] then = {0, 2, 1, -6, -6, -6};
        for (int place = 0; place < 6; place++) EDGES.due("with a gram more, place " + place, x.planOrder(place), then[place]);
        x.brass(1);
        for (int place = 0; place < 3; place++) EDGES.due("with two grams more, place " + place, x.planOrder(place), place);
        PinHouse y = planned(locks(3, 0, 0), 3, 5);
        EDGES.due("0 could be cut now, but not 1 then", y.planOrder(0), -6);
        y.brass(5);
        EDGES.due("0 can be cut now, and 1 then", y.planOrder(0), 0);
    }

    private static void placeInThePlan() {
        EDGES.of("Promise 22", "Returns the place in the plan of the cut that comes at this place of the order");
        // Doors 4, 2, 3 and 0 are at places 0 to 3; the last of them leaves the gram that the second one needs.
        PinHouse x = locks(2, 1, 0, 0, 0, 0);
        x.plan(4, 1, 1);
        x.plan(2, 2, 2);
        x.plan(3, 0, 0);
        x.plan(0, 0, 0);
        int[] want = {0, 2, 3, 1, -6, -6};
        for (int place = 0; place < 6; place++) EDGES.due("place " + place, x.planOrder(place), want[place]);
    }

    private static void ordersOfAnEmptyPlan() {
        EDGES.of("Promise 23", "Returns how many (1 if the plan is empty)");
        EDGES.due("a new house", new PinHouse().planOrders(), 1);
        EDGES.due("dropped", dropped().planOrders(), 1);
        EDGES.due("carried out", carried().planOrders(), 1);
    }

    private static void howManyOrders() {
        EDGES.of("Promise 23", "Counts the orders in which the plan can be carried out");
        int[] rows = {1, 1, 1, 1, 1, 1};
        int all = 1;
        for (int size = 1; size <= 6; size++) {
            all *= size;
            EDGES.due("all orders of " + size, planned(locks(size, 0, 0, 0, 0, 0, 0), Arrays.copyOf(rows, size)).planOrders(), all);
            EDGES.due("none of " + size, planned(locks(size - 1, 0, 0, 0, 0, 0, 0), Arrays.copyOf(rows, size)).planOrders(), 0);
        }
        // Box 0: the cut that leaves 5 has to come first, and the five others follow in any order.
        EDGES.due("one cut has to be first", planned(locks(0, 0, 0, 0, 0, 0, 5), 1, 1, 1, 1, 1, 0).planOrders(), 120);
    }

    private static void noLastCut() {
        EDGES.of("Promise 24", "NONE if there is no such cut, or no such order");
        EDGES.due("an empty plan", new PinHouse().mustBeLast(), -6);
        EDGES.due("dropped", dropped().mustBeLast(), -6);
        EDGES.due("two cuts in any order", planned(locks(2, 0, 0), 1, 1).mustBeLast(), -6);
        EDGES.due("no order of one cut", planned(locks(0, 0), 1).mustBeLast(), -6);
        EDGES.due("no order of two cuts", planned(locks(1, 0, 0), 1, 1).mustBeLast(), -6);
        EDGES.due("no order of six cuts", planned(locks(5, 0, 0, 0, 0, 0, 0), 1, 1, 1, 1, 1, 1).mustBeLast(), -6);
    }

    private static void placeOfTheLastCut() {
        EDGES.of("Promise 24", "Returns its place in the plan");
        // Doors 0 and 1 leave 9 grams each.
        PinHouse x = locks(0, 9, 9, 0);
        x.plan(2, 9, 9);
        x.plan(1, 0, 0);
        EDGES.due("door 2 needs 9 grams, at place 0", x.mustBeLast(), 0);
        x.undo();
        x.undo();
        x.plan(1, 0, 0);
        x.plan(2, 99, 99);
        x.plan(0, 0, 0);
        EDGES.due("door 2 needs 18 grams, at place 1", x.mustBeLast(), 1);
        x.undo();
        EDGES.due("it needs more than there is", x.mustBeLast(), -6);
    }

    private static void lastInEachOrder() {
        EDGES.of("Promise 24", "Finds the cut of the plan that comes last in each order in which the plan can be carried out");
        EDGES.due("one cut", planned(locks(1, 0), 1).mustBeLast(), 0);
        EDGES.due("the first of two", planned(locks(0, 0, 1), 1, 0).mustBeLast(), 0);
        EDGES.due("the second of two", planned(locks(0, 1, 0), 0, 1).mustBeLast(), 1);
        for (int last = 0; last < 6; last++) {
            int[] rows = {1, 1, 1, 1, 1, 1};
            int[] then = {0, 0, 0, 0, 0, 0};
            rows[last] = 0;
            then[last] = 5;
            PinHouse x = planned(locks(0, rows), then);
            EDGES.due("the cut that needs all that the others leave", x.mustBeLast(), last);
            EDGES.due("orders", x.planOrders(), 120);
            x.brass(1);
            EDGES.due("with a gram more", x.mustBeLast(), -6);
        }
    }

    private static void noBrassNeeded() {
        EDGES.of("Promise 25", "Returns the grams (0 if it can be now, or it is empty)");
        EDGES.due("a new house", new PinHouse().brassForPlan(), 0);
        EDGES.due("dropped", dropped().brassForPlan(), 0);
        PinHouse x = Edges.poor();
        x.dropPlan();
        EDGES.due("empty, with an empty box", x.brassForPlan(), 0);
        EDGES.due("just enough", planned(locks(9, 0), 9).brassForPlan(), 0);
        EDGES.due("more than enough", planned(locks(900, 0), 9).brassForPlan(), 0);
        EDGES.due("nothing needed", planned(locks(0, 9), 9).brassForPlan(), 0);
    }

    private static void leastBrass() {
        EDGES.of("Promise 25", "Finds the least brass that has to be put into the box so that the plan can be carried out");
        for (int lacking = 1; lacking <= 9; lacking++) {
            PinHouse x = planned(locks(9 - lacking, 0), 9);
            EDGES.due("grams that are missing", x.brassForPlan(), lacking);
            if (lacking > 1) {
                x.brass(lacking - 1);
                EDGES.due("with all but a gram", x.carryPlan(), -5);
            }
            x.brass(1);
            EDGES.due("with all", x.carryPlan(), 0);
        }
        PinHouse most = locks(0, 0, 0, 0, 0, 0, 0);
        most.set(PinHouse.LOSS, 50);
        for (int door = 0; door < 6; door++) most.plan(door, 9999, 0);
        EDGES.due("the most: six times 44 less 2", most.brassForPlan(), 252);
    }

    private static void inSomeOrder() {
        EDGES.of("Promise 25", "in some order");
        EDGES.due("0 1 lacks 9, 1 0 nothing", planned(locks(0, 0, 9), 9, 0).brassForPlan(), 0);
        EDGES.due("0 1 lacks 9, 1 0 lacks 1", planned(locks(0, 0, 8), 9, 0).brassForPlan(), 1);
        EDGES.due("the third cut leaves nothing", planned(locks(0, 0, 5, 0), 7, 0, 0).brassForPlan(), 2);
        EDGES.due("more is left than needed", planned(locks(0, 9, 0), 0, 3).brassForPlan(), 0);
        EDGES.due("two leave what one needs", planned(locks(0, 4, 0, 4), 0, 9, 0).brassForPlan(), 1);
    }

    private static void questionsChangeNothing() {
        EDGES.of("what if", "nothing changes");
        EDGES.asked("planOrder(0)", 0, Edges::rich, x -> x.planOrder(0));
        EDGES.asked("planOrder(2)", -6, Edges::rich, x -> x.planOrder(2));
        EDGES.asked("planOrders", 2, Edges::rich, PinHouse::planOrders);
        EDGES.asked("mustBeLast", -6, Edges::rich, PinHouse::mustBeLast);
        EDGES.asked("brassForPlan", 0, Edges::rich, PinHouse::brassForPlan);
        EDGES.asked("planOrder(0), no order", -6, Edges::poor, x -> x.planOrder(0));
        EDGES.asked("planOrders, no order", 0, Edges::poor, PinHouse::planOrders);
        EDGES.asked("mustBeLast, no order", -6, Edges::poor, PinHouse::mustBeLast);
        EDGES.asked("brassForPlan, no order", 7, Edges::poor, PinHouse::brassForPlan);
    }
}
