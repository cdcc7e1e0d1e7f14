import java.util.function.Consumer;
import java.util.function.Supplier;

/** The boundary cases that promises 30 to 32 name: undo, save, restore. */
public final class EdgesOfUndoTest {
    private static final Edges EDGES = new Edges("EdgesOfUndoTest");
    private static final int[] FAR = {Integer.MIN_VALUE, Integer.MIN_VALUE + 1, -65536, Integer.MAX_VALUE - 1, Integer.MAX_VALUE};

    public static void main(String[] args) {
        nothingToUndo();
        howManyThen();
        atMostSixStates();
        oldestIsDropped();
        eachChangeRecords();
        alsoIfNothingIsDifferent();
        errorsRecordNothing();
        otherCallsRecordNothing();
        ordersRecordNothing();
        exceptThePad();
        exceptTheSlots();
        otherThingsInBetween();
        newThingsAreNew();
        undoIsNotUndone();
        noSuchSlotToSave();
        roomWhenSaved();
        overwrites();
        savesWithoutHistory();
        noSuchSlotToRestore();
        nothingSaved();
        slotKeepsIt();
        restoreIsAChange();
        restoreLeavesPadAndSlots();
        EDGES.finish();
    }

    private static void nothingToUndo() {
        EDGES.of("Promise 30", "NOT_POSSIBLE if there is none");
        EDGES.refused("a new house", -5, PinHouse::new, PinHouse::undo);
        EDGES.refused("all are undone", -5, EdgesOfUndoTest::allUndone, PinHouse::undo);
        EDGES.refused("only refused calls", -5, () -> after(new PinHouse(), x -> x.brass(0)), PinHouse::undo);
        EDGES.refused("only a saved state", -5, () -> after(new PinHouse(), x -> x.save(0)), PinHouse::undo);
        EDGES.refused("only a pad", -5, () -> after(new PinHouse(), x -> x.put('b')), PinHouse::undo);
    }

    private static PinHouse allUndone() {
        PinHouse x = Edges.rich();
        for (int times = 0; times < 6; times++) x.undo();
        return x;
    }

    private static PinHouse after(PinHouse x, Consumer<PinHouse> call) {
        call.accept(x);
        return x;
    }

    private static void howManyThen() {
        EDGES.of("Promise 30", "Returns how many changes can be undone then");
        PinHouse x = new PinHouse();
        x.brass(1);
        EDGES.due("the only one", x.undo(), 0);
        for (int change = 0; change < 5; change++) x.brass(1);
        for (int left = 4; left >= 0; left--) EDGES.due("one of five", x.undo(), left);
        EDGES.due("the box", x.count(7), 0);
    }

    private static void atMostSixStates() {
        EDGES.of("Promise 30", "A history of at most 6 states is kept");
        PinHouse x = new PinHouse();
        for (int change = 1; change <= 7; change++) {
            x.brass(1);
            EDGES.due("after " + change + " changes", x.count(12), Math.min(change, 6));
        }
        for (int left = 5; left >= 0; left--) EDGES.due("undo", x.undo(), left);
        EDGES.due("a seventh undo", x.undo(), -5);
        EDGES.due("the first change stays", x.count(7), 1);
    }

    private static void oldestIsDropped() {
        EDGES.of("Promise 30", "when one more is recorded, the oldest one is dropped");
        PinHouse x = new PinHouse();
        for (int change = 1; change <= 20; change++) x.brass(change);
        for (int change = 20; change > 14; change--) {
            x.undo();
            EDGES.due("the box before change " + change, x.count(7), change * (change - 1) / 2);
        }
        EDGES.due("no more", x.undo(), -5);
        // Undoing makes room for others.
        for (int change = 0; change < 4; change++) x.brass(1);
        x.undo();
        x.undo();
        x.brass(100);
        EDGES.due("changes", x.count(12), 3);
        EDGES.due("undo", x.undo(), 2);
        EDGES.due("the box", x.count(7), 105 + 2);
        x.undo();
        EDGES.due("the box", x.count(7), 105 + 1);
        x.undo();
        EDGES.due("the box", x.count(7), 105);
    }

    /** A house whose history has one state, and a call that is a change of it: undo brings all of it back. */
    private static void changes(String call, Supplier<PinHouse> made, Consumer<PinHouse> change) {
        PinHouse x = after(made.get(), change);
        EDGES.due(call + " is recorded", x.count(12), 6);
        EDGES.due(call + " is undone", x.undo(), 5);
        long before = Checks.sumOf(made.get());
        EDGES.due("everything is as it was before " + call, Checks.sumOf(x), before);
        String plan = orders(made.get());
        EDGES.due("the plan is as it was before " + call, orders(x).equals(plan) ? 1 : 0, 1);
    }

    /** What carrying the plan out does, for its rows cannot be asked for. */
    private static String orders(PinHouse x) {
        StringBuilder text = new StringBuilder();
        for (int place = 0; place < 6; place++) text.append(x.planOrder(place)).append(' ');
        text.append(x.planOrders()).append(' ').append(x.carryPlan()).append(' ').append(Checks.sumOf(x));
        return text.toString();
    }

    private static PinHouse fiveStates() {
        PinHouse x = Edges.rich();
        x.undo();
        EDGES.due("five states", x.count(12), 5);
        return x;
    }

    private static void eachChangeRecords() {
        EDGES.of("Promise 30", "each method that is a change, and returns no error, records the state before it");
        changes("set", EdgesOfUndoTest::fiveStates, x -> x.set(PinHouse.LOSS, 50));
        changes("set", EdgesOfUndoTest::fiveStates, x -> x.set(PinHouse.STEP, 9));
        changes("set", EdgesOfUndoTest::fiveStates, x -> x.set(PinHouse.BLANK, 90));
        changes("brass", EdgesOfUndoTest::fiveStates, x -> x.brass(1000));
        changes("door", EdgesOfUndoTest::fiveStates, x -> x.door(6, 7, 8, 9));
        changes("cut", EdgesOfUndoTest::fiveStates, x -> x.cut(1, 1234, 4321));
        changes("key", EdgesOfUndoTest::fiveStates, x -> x.key(1234, 6));
        changes("melt", EdgesOfUndoTest::fiveStates, x -> x.melt(2));
        changes("take", EdgesOfUndoTest::fiveStates, x -> x.take(1));
        changes("putDown", EdgesOfUndoTest::fiveStates, x -> x.putDown(0));
        changes("go", EdgesOfUndoTest::fiveStates, x -> x.go(0));
        changes("plan", EdgesOfUndoTest::fiveStates, x -> x.plan(1, 5, 6));
        changes("dropPlan", EdgesOfUndoTest::fiveStates, x -> x.dropPlan());
        changes("carryPlan", EdgesOfUndoTest::fiveStates, x -> x.carryPlan());
        changes("carryOut", EdgesOfUndoTest::fiveStates, x -> x.carryOut());
        changes("restore", EdgesOfUndoTest::fiveStates, x -> x.restore(1));
    }

    private static void alsoIfNothingIsDifferent() {
        EDGES.of("Promise 30", "(also if nothing is different then)");
        changes("set to the same value", EdgesOfUndoTest::fiveStates, x -> x.set(PinHouse.BLANK, 60));
        changes("dropPlan of an empty plan", EdgesOfUndoTest::fiveStatesWithoutPlan, x -> x.dropPlan());
        changes("restore of what is", EdgesOfUndoTest::fiveStatesSaved, x -> x.restore(0));
        PinHouse x = new PinHouse();
        for (int times = 1; times <= 6; times++) x.dropPlan();
        EDGES.due("changes", x.count(12), 6);
        for (int left = 5; left >= 0; left--) EDGES.due("undo", x.undo(), left);
    }

    private static PinHouse fiveStatesWithoutPlan() {
        PinHouse x = new PinHouse();
        for (int times = 0; times < 5; times++) x.brass(10);
        return x;
    }

    private static PinHouse fiveStatesSaved() {
        PinHouse x = fiveStates();
        x.save(0);
        return x;
    }

    private static void errorsRecordNothing() {
        EDGES.of("Promise 30", "and returns no error");
        EDGES.refused("set", -2, EdgesOfUndoTest::fiveStates, x -> x.set(3, 0));
        EDGES.refused("brass", -2, EdgesOfUndoTest::fiveStates, x -> x.brass(0));
        EDGES.refused("door", -2, EdgesOfUndoTest::fiveStates, x -> x.door(0, 0, 0, 0));
        EDGES.refused("cut", -1, EdgesOfUndoTest::fiveStates, x -> x.cut(3, 0, 0));
        EDGES.refused("key", -5, EdgesOfUndoTest::fiveStates, x -> x.key(909, 0));
        EDGES.refused("melt", -5, EdgesOfUndoTest::fiveStates, x -> x.melt(3));
        EDGES.refused("take", -5, EdgesOfUndoTest::fiveStates, x -> x.take(0));
        EDGES.refused("putDown", -5, EdgesOfUndoTest::fiveStates, x -> x.putDown(1));
        EDGES.refused("go", -5, EdgesOfUndoTest::fiveStates, x -> x.go(1));
        EDGES.refused("plan", -5, EdgesOfUndoTest::fiveStates, x -> x.plan(0, 0, 0));
        EDGES.refused("carryPlan", -5, EdgesOfUndoTest::fiveStatesWithoutPlan, x -> x.carryPlan());
        EDGES.refused("carryOut", -3, EdgesOfUndoTest::fiveStatesWithoutPlan, x -> x.carryOut());
        EDGES.refused("restore", -5, EdgesOfUndoTest::fiveStatesWithoutPlan, x -> x.restore(0));
    }

    private static void otherCallsRecordNothing() {
        EDGES.of("Promise 30", "each method that is a change");
        PinHouse x = fiveStates();
        x.ofDoor(0, 6);
        x.ofKey(0, 3);
        x.opens(1111, 0);
        x.chanceKeys(0);
        x.justFor(0);
        x.reach();
        x.doorsTo(1);
        x.planOrder(0);
        x.planOrders();
        x.mustBeLast();
        x.brassForPlan();
        x.put(';');
        x.fault();
        x.wipe();
        x.save(0);
        x.save(1);
        EDGES.due("questions, texts and saving", x.count(12), 5);
        x.undo();
        EDGES.due("undo itself", x.count(12), 4);
    }

    private static void ordersRecordNothing() {
        EDGES.of("Promise 30", "An order of a text records nothing by itself");
        PinHouse x = new PinHouse();
        x.brass(1);
        x.brass(1);
        Checks.write(x, "b1;b1;b1;b1;b1;b1;b1;b1");
        EDGES.due("eight orders", x.carryOut(), 8);
        EDGES.due("changes", x.count(12), 3);
        EDGES.due("undo", x.undo(), 2);
        EDGES.due("the box", x.count(7), 2);
    }

    private static void exceptThePad() {
        EDGES.of("Promise 30", "everything except the pad");
        PinHouse x = new PinHouse();
        x.brass(1);
        Checks.write(x, "b5;b6");
        EDGES.due("undo", x.undo(), 0);
        EDGES.due("the pad stays", x.count(11), 5);
        EDGES.due("it can be carried out", x.carryOut(), 2);
        EDGES.due("the box", x.count(7), 11);
        EDGES.due("undo", x.undo(), 0);
        EDGES.due("the pad that was carried out does not come back", x.count(11), 0);
    }

    private static void exceptTheSlots() {
        EDGES.of("Promise 30", "the slots and the history");
        PinHouse x = new PinHouse();
        x.brass(1);
        x.brass(2);
        x.save(0);
        x.undo();
        x.undo();
        EDGES.due("saved after what was undone", x.restore(0), 0);
        EDGES.due("the box", x.count(7), 3);
        EDGES.due("the history is not saved", x.count(12), 1);
        x.undo();
        EDGES.due("a slot that was not saved stays so", x.restore(1), -5);
    }

    private static void otherThingsInBetween() {
        EDGES.of("Promise 30", "is as it was before it");
        PinHouse x = new PinHouse();
        x.brass(300);
        x.door(0, 1, 1111, 2222);
        x.cut(0, 1112, 2223);
        x.key(1111, 4);
        x.plan(0, 3334, 3333);
        long saved = Checks.sumOf(x);
        x.save(0);
        for (int times = 0; times < 4; times++) x.undo();
        // Another door, key and cut of the plan come to be where those were that were undone.
        x.door(2, 3, 4444, 5555);
        EDGES.due("a new lock was never cut anew", x.ofDoor(0, 5), 0);
        x.key(2222, 7);
        x.plan(0, 7777, 8888);
        x.restore(0);
        EDGES.due("everything that was saved", Checks.sumOf(x), saved);
        int[] door = {0, 1, 1112, 2223, 13, 1, 0, 0};
        for (int what = 0; what < 8; what++) EDGES.due("ofDoor(0, " + what + ")", x.ofDoor(0, what), door[what]);
        EDGES.due("cuts of the key", x.ofKey(0, 0), 1111);
        EDGES.due("place of the key", x.ofKey(0, 2), 4);
        x.carryPlan();
        EDGES.due("the first row that was planned", x.ofDoor(0, 2), 3334);
        EDGES.due("the second row that was planned", x.ofDoor(0, 3), 3333);
        x.undo();
        x.undo();
        int[] other = {2, 3, 4444, 5555, 24, 0, 0, 0};
        for (int what = 0; what < 8; what++) EDGES.due("undone, ofDoor(0, " + what + ")", x.ofDoor(0, what), other[what]);
        EDGES.due("cuts of the other key", x.ofKey(0, 0), 2222);
        x.carryPlan();
        EDGES.due("the other first row", x.ofDoor(0, 2), 7777);
        EDGES.due("the other second row", x.ofDoor(0, 3), 8888);
    }

    private static void newThingsAreNew() {
        EDGES.of("Promise 32", "Restores what was saved last in a slot");
        PinHouse x = new PinHouse();
        x.brass(300);
        x.save(0);
        x.door(0, 1, 1111, 2222);
        x.door(1, 2, 3333, 3333);
        x.cut(0, 4444, 4444);
        x.plan(1, 5555, 5555);
        x.save(1);
        x.restore(0);
        x.door(6, 7, 1, 2);
        x.door(7, 6, 3, 4);
        EDGES.due("a door that is made anew was never cut", x.ofDoor(0, 5), 0);
        x.plan(0, 6666, 6666);
        x.restore(1);
        EDGES.due("door 1 is planned", x.ofDoor(1, 7), 0);
        EDGES.due("door 0 is not", x.ofDoor(0, 7), -6);
        EDGES.due("door 0 was cut anew", x.ofDoor(0, 5), 1);
        x.undo();
        EDGES.due("door 0 is planned", x.ofDoor(0, 7), 0);
        EDGES.due("door 1 is not", x.ofDoor(1, 7), -6);
    }

    private static void undoIsNotUndone() {
        EDGES.of("Promise 30", "Undoes the latest change");
        PinHouse x = new PinHouse();
        x.brass(1);
        x.brass(2);
        x.brass(4);
        EDGES.due("the latest", x.undo(), 2);
        EDGES.due("the box", x.count(7), 3);
        EDGES.due("the one before, not the undo", x.undo(), 1);
        EDGES.due("the box", x.count(7), 1);
        x.brass(8);
        EDGES.due("a change after it", x.undo(), 1);
        EDGES.due("the box", x.count(7), 1);
        EDGES.due("the first", x.undo(), 0);
        EDGES.due("the box", x.count(7), 0);
    }

    private static void noSuchSlotToSave() {
        EDGES.of("Promise 31", "BAD_VALUE if there is no such slot");
        for (int slot : new int[] {-1, 2, 3, -2}) EDGES.refused("save(" + slot + ")", -2, Edges::rich, x -> x.save(slot));
        for (int far : FAR) EDGES.refused("save(" + far + ")", -2, Edges::rich, x -> x.save(far));
        EDGES.due("save(0)", new PinHouse().save(0), 0);
        EDGES.due("save(1)", new PinHouse().save(1), 0);
    }

    private static void roomWhenSaved() {
        EDGES.of("Promise 31", "Returns the room of the walker");
        PinHouse x = Edges.rich();
        EDGES.due("at first", x.save(0), 0);
        x.go(0);
        EDGES.due("in room 1", x.save(1), 1);
        EDGES.due("what was saved at first", x.restore(0), 0);
        EDGES.due("what was saved then", x.restore(1), 1);
    }

    private static void overwrites() {
        EDGES.of("Promise 31", "and overwrites what was saved there");
        PinHouse x = new PinHouse();
        x.brass(1);
        x.save(0);
        x.save(1);
        x.brass(2);
        x.save(0);
        x.brass(4);
        x.restore(0);
        EDGES.due("slot 0, saved twice", x.count(7), 3);
        x.restore(1);
        EDGES.due("slot 1, saved once", x.count(7), 1);
        PinHouse y = Edges.rich();
        PinHouse empty = new PinHouse();
        y.save(0);
        for (int times = 0; times < 6; times++) y.undo();
        y.save(0);
        long saved = Checks.sumOf(y);
        y.brass(1);
        y.restore(0);
        EDGES.due("a state with less in it", Checks.sumOf(y), saved);
        EDGES.due("another object has nothing saved", empty.restore(0), -5);
    }

    private static void savesWithoutHistory() {
        EDGES.of("Promise 31", "Saves everything except the pad, the history and the slots in a slot");
        PinHouse x = Edges.rich();
        long saved = Checks.sumOf(x);
        String plan = orders(Edges.rich());
        x.save(0);
        x.wipe();
        x.put('~');
        x.save(1);
        x.dropPlan();
        x.go(0);
        x.melt(1);
        EDGES.due("restored", x.restore(0), 0);
        EDGES.due("everything", Checks.sumOf(x), saved);
        EDGES.due("the pad stays as it is", x.count(11), 1);
        EDGES.due("the history goes on", x.count(12), 6);
        EDGES.due("the plan", orders(x).equals(plan) ? 1 : 0, 1);
    }

    private static void noSuchSlotToRestore() {
        EDGES.of("Promise 32", "BAD_VALUE if there is no such slot");
        for (int slot : new int[] {-1, 2, 3, -2}) EDGES.refused("restore(" + slot + ")", -2, Edges::rich, x -> x.restore(slot));
        for (int far : FAR) EDGES.refused("restore(" + far + ")", -2, Edges::rich, x -> x.restore(far));
        EDGES.refused("restore(2) in a new house", -2, PinHouse::new, x -> x.restore(2));
    }

    private static void nothingSaved() {
        EDGES.of("Promise 32", "NOT_POSSIBLE if nothing was saved in it");
        EDGES.refused("slot 0", -5, () -> after(new PinHouse(), x -> x.save(1)), x -> x.restore(0));
        EDGES.refused("slot 1", -5, () -> after(new PinHouse(), x -> x.save(0)), x -> x.restore(1));
        EDGES.refused("a refused save", -5, () -> after(new PinHouse(), x -> x.save(2)), x -> x.restore(0));
        EDGES.due("a new house that was saved", after(new PinHouse(), x -> x.save(0)).restore(0), 0);
    }

    private static void slotKeepsIt() {
        EDGES.of("Promise 32", "Restores what was saved last in a slot, which keeps it");
        PinHouse x = Edges.rich();
        x.save(0);
        long saved = Checks.sumOf(x);
        for (int times = 0; times < 3; times++) {
            EDGES.due("restored", x.restore(0), 0);
            EDGES.due("everything", Checks.sumOf(x), saved);
            x.carryPlan();
            x.melt(0);
            x.key(5, 5);
            x.door(6, 7, 0, 0);
        }
        x.undo();
        EDGES.due("restored after undo", x.restore(0), 0);
        EDGES.due("everything", Checks.sumOf(x), saved);
    }

    private static void restoreIsAChange() {
        EDGES.of("Promise 32", "This is a change");
        PinHouse x = new PinHouse();
        x.save(1);
        x.brass(5);
        EDGES.due("restored", x.restore(1), 0);
        EDGES.due("changes", x.count(12), 2);
        EDGES.due("the box", x.count(7), 0);
        EDGES.due("undo", x.undo(), 1);
        EDGES.due("the box", x.count(7), 5);
        EDGES.due("undo of the change before", x.undo(), 0);
        EDGES.due("the box", x.count(7), 0);
    }

    private static void restoreLeavesPadAndSlots() {
        EDGES.of("Promise 32", "Returns the room of the walker then");
        PinHouse x = Edges.rich();
        x.go(0);
        x.save(0);
        x.go(0);
        EDGES.due("another room than the one before", x.restore(0), 1);
        EDGES.due("the room then", x.count(0), 1);
        EDGES.due("the pad stays", x.count(11), 8);
        EDGES.due("the other slot stays", x.restore(1), 0);
        EDGES.due("it was saved before a key was taken", x.count(1), 0);
    }
}
