import java.util.function.Supplier;

/**
 * All that can be seen of a house from outside, as a text to compare.
 *
 * Looking changes a house, and one object is good for 512 calls, so each look is at a new one that was made alike.
 */
final class Everything {
    private Everything() {
    }

    static String of(Supplier<PinHouse> made) {
        StringBuilder text = new StringBuilder();
        for (int undone = 0; undone <= 7; undone++) addHistory(made.get(), undone, text);
        for (int slot = 0; slot <= 1; slot++) addSlot(made.get(), slot, text);
        addPlan(made.get(), text);
        addPad(made.get(), text);
        return text.toString();
    }

    private static void addHistory(PinHouse x, int undone, StringBuilder text) {
        for (int times = 0; times < undone; times++) add("undo", x.undo(), text);
        addNow(x, text);
    }

    private static void addSlot(PinHouse x, int slot, StringBuilder text) {
        add("restore", x.restore(slot), text);
        addNow(x, text);
    }

    private static void addPlan(PinHouse x, StringBuilder text) {
        add("carryPlan", x.carryPlan(), text);
        addNow(x, text);
    }

    private static void addPad(PinHouse x, StringBuilder text) {
        add("carryOut", x.carryOut(), text);
        addNow(x, text);
    }

    private static void addNow(PinHouse x, StringBuilder text) {
        for (int what = 0; what <= 15; what++) add("count", x.count(what), text);
        for (int door = 0; door < x.count(2); door++) {
            for (int what = 0; what <= 7; what++) add("ofDoor", x.ofDoor(door, what), text);
        }
        for (int key = 0; key < x.count(3); key++) {
            for (int what = 0; what <= 3; what++) add("ofKey", x.ofKey(key, what), text);
        }
        for (int place = 0; place <= 5; place++) add("planOrder", x.planOrder(place), text);
        add("planOrders", x.planOrders(), text);
        add("mustBeLast", x.mustBeLast(), text);
        add("brassForPlan", x.brassForPlan(), text);
        add("fault", x.fault(), text);
        add("reach", x.reach(), text);
        for (int room = 0; room <= 7; room++) add("doorsTo", x.doorsTo(room), text);
        add("chanceKeys", x.chanceKeys(0), text);
        add("justFor", x.justFor(0), text);
    }

    private static void add(String call, int answer, StringBuilder text) {
        text.append(call).append(' ').append(answer).append('\n');
    }
}
