import java.util.ArrayList;
import java.util.List;

/** All promises: long runs of chosen calls, each answer compared with that of the model. */
public final class ModelTest {
    private static final Checks CHECKS = new Checks("ModelTest");
    private static final int RUNS = 1500;
    // An object is used for 512 calls; the last ones compare all numbers.
    private static final int MOST_CALLS = 512, CALLS_OF_COMPARING = 16 + 10 * 8 + 16 * 4 + 5;
    private static final int[] ROWS = {1111, 1112, 1221, 2222, 2232, 3333, 1123, 0, 4, 1357, 5432, 4567, 9999, 8989};

    private final PinHouse house = new PinHouse();
    private final Model model = new Model();
    private final int run;
    private long seed;
    private int calls;

    private ModelTest(int run) {
        this.run = run;
        seed = run * 2654435761L + 12345;
    }

    public static void main(String[] args) {
        for (int run = 0; run < RUNS; run++) new ModelTest(run).play();
        CHECKS.finish();
    }

    /** A fixed row of numbers, so that each run of this test makes the same calls. */
    private int below(int bound) {
        seed = seed * 6364136223846793005L + 1442695040888963407L;
        return (int) ((seed >>> 33) % bound);
    }

    private void play() {
        // Some runs begin with doors and keys to walk with, others with doors and little brass for their plans.
        int kind = run % 4;
        for (int step = 0; step < 26 && kind < 2; step++) setUpWalks(step);
        for (int step = 0; step < 16 && kind == 2; step++) setUpPlans(step);
        while (hasRoomToCompare()) {
            if (kind == 0 && below(2) == 0) {
                walkCall(30 + below(25));
            } else if (kind == 2 && below(5) > 0) {
                callAboutPlans();
            } else {
                call(below(100));
            }
        }
        compareAll();
        CHECKS.isTrue("the object was not used too often", calls <= MOST_CALLS);
    }

    /** Leaves some calls more, for a kind of call that is more than one. */
    private boolean hasRoomToCompare() {
        return calls + CALLS_OF_COMPARING + 20 <= MOST_CALLS;
    }

    private void setUpWalks(int step) {
        if (step == 0) {
            due("brass(1000)", house.brass(1000), model.brass(1000));
        } else if (step <= 10) {
            int one = below(7);
            int other = below(3) == 0 ? 7 : one + 1;
            int first = row();
            int second = row();
            due("door", house.door(one, other, first, second), model.door(one, other, first, second));
        } else {
            int cuts = below(3) == 0 ? row() : Math.max(0, model.ofDoor(below(10), 2));
            int room = below(8);
            due("key", house.key(cuts, room), model.key(cuts, room));
        }
    }

    private void setUpPlans(int step) {
        if (step == 0) {
            int grams = 100 + below(80);
            due("brass(" + grams + ")", house.brass(grams), model.brass(grams));
        } else {
            int first = row();
            int second = row();
            due("door", house.door(0, 1, first, second), model.door(0, 1, first, second));
        }
    }

    private void callAboutPlans() {
        if (model.count(9) < 2 + below(5)) {
            planCall(55);
        } else if (below(12) == 0) {
            due("dropPlan", house.dropPlan(), model.dropPlan());
        } else if (below(12) == 0) {
            int grams = 1 + below(9);
            due("brass(" + grams + ")", house.brass(grams), model.brass(grams));
        } else {
            planCall(66 + below(4));
            if (below(8) == 0) planCall(65);
        }
    }

    private int row() {
        int kind = below(20);
        if (kind == 0) return below(3) - 1;
        if (kind == 1) return 9998 + below(4);
        return kind < 4 ? below(10000) : ROWS[below(ROWS.length)];
    }

    private int doorNumber() {
        return below(25) == 0 ? below(13) - 1 : below(Math.max(1, model.count(2)));
    }

    private int keyNumber() {
        return below(25) == 0 ? below(19) - 1 : below(Math.max(1, model.count(3)));
    }

    /** Mostly a key at a place, if there is one. */
    private int keyAt(int place) {
        for (int times = 0; times < 8; times++) {
            int key = keyNumber();
            if (model.ofKey(key, 2) == place) return key;
        }
        return keyNumber();
    }

    /** Mostly a door through which the walker can go, if there is one. */
    private int openDoor() {
        for (int times = 0; times < 8; times++) {
            int door = doorNumber();
            boolean here = model.ofDoor(door, 0) == model.count(0) || model.ofDoor(door, 1) == model.count(0);
            if (here && (model.ofDoor(door, 6) & model.count(1)) != 0) return door;
        }
        return doorNumber();
    }

    private int room() {
        return below(30) == 0 ? below(11) - 1 : below(8);
    }

    private int setOfDoors() {
        if (below(20) == 0) return below(1 << 12) - 10;
        int set = 0;
        for (int times = below(4); times > 0; times--) set |= 1 << doorNumber();
        return set;
    }

    private void due(String call, long got, long want) {
        calls++;
        CHECKS.due("run " + run + ", " + call, got, want);
    }

    private void call(int kind) {
        if (kind < 30) {
            setUpCall(kind);
        } else if (kind < 55) {
            walkCall(kind);
        } else if (kind < 70) {
            planCall(kind);
        } else if (kind < 82) {
            ask(kind);
        } else {
            textOrUndoCall(kind);
        }
    }

    private void setUpCall(int kind) {
        if (kind < 2) {
            int setting = below(10) == 0 ? below(5) - 1 : below(3);
            int value = new int[] {1 + below(9), below(51), 40 + below(51)}[Math.floorMod(setting, 3)];
            if (below(8) == 0) value = below(100) - 2;
            due("set(" + setting + ", " + value + ")", house.set(setting, value), model.set(setting, value));
        } else if (kind < 6) {
            int grams = below(10) == 0 ? below(1100) - 10 : below(60);
            due("brass(" + grams + ")", house.brass(grams), model.brass(grams));
        } else if (kind < 12) {
            int one = room();
            int other = room();
            int first = row();
            int second = below(2) == 0 ? first : row();
            due("door", house.door(one, other, first, second), model.door(one, other, first, second));
        } else if (kind < 19) {
            int door = doorNumber();
            int first = row();
            int second = row();
            due("cut", house.cut(door, first, second), model.cut(door, first, second));
        } else if (kind < 28) {
            int cuts = row();
            int room = room();
            due("key", house.key(cuts, room), model.key(cuts, room));
        } else {
            int key = keyNumber();
            due("melt", house.melt(key), model.melt(key));
        }
    }

    private void walkCall(int kind) {
        if (kind < 40) {
            int key = keyAt(model.count(0));
            due("take", house.take(key), model.take(key));
        } else if (kind < 43) {
            int key = keyAt(8);
            due("putDown", house.putDown(key), model.putDown(key));
        } else if (kind < 51) {
            int door = openDoor();
            due("go", house.go(door), model.go(door));
        } else if (kind < 53) {
            due("reach", house.reach(), model.reach());
        } else {
            int room = room();
            due("doorsTo", house.doorsTo(room), model.doorsTo(room));
        }
    }

    private void planCall(int kind) {
        if (kind < 65) {
            int door = doorNumber();
            int first = row();
            int second = row();
            due("plan", house.plan(door, first, second), model.plan(door, first, second));
        } else if (kind == 65) {
            if (below(2) == 0) due("dropPlan", house.dropPlan(), model.dropPlan());
            due("carryPlan", house.carryPlan(), model.carryPlan());
        } else if (kind == 66) {
            int place = below(8) - 1;
            due("planOrder", house.planOrder(place), model.planOrder(place));
        } else if (kind == 67) {
            due("planOrders", house.planOrders(), model.planOrders());
        } else if (kind == 68) {
            due("mustBeLast", house.mustBeLast(), model.mustBeLast());
        } else if (model.count(9) < 5 || below(4) == 0) {
            due("brassForPlan", house.brassForPlan(), model.brassForPlan());
        }
    }

    private void ask(int kind) {
        if (kind < 73) {
            int door = doorNumber();
            int what = below(10) - 1;
            due("ofDoor", house.ofDoor(door, what), model.ofDoor(door, what));
        } else if (kind < 76) {
            int key = keyNumber();
            int what = below(6) - 1;
            due("ofKey", house.ofKey(key, what), model.ofKey(key, what));
        } else if (kind < 79) {
            int what = below(18) - 1;
            due("count", house.count(what), model.count(what));
        } else if (kind < 80) {
            int cuts = row();
            int door = doorNumber();
            due("opens", house.opens(cuts, door), model.opens(cuts, door));
        } else if (below(3) == 0) {
            int doors = setOfDoors();
            due("chanceKeys(" + doors + ")", house.chanceKeys(doors), model.chanceKeys(doors));
        } else {
            int doors = setOfDoors();
            due("justFor(" + doors + ")", house.justFor(doors), model.justFor(doors));
        }
    }

    private void textOrUndoCall(int kind) {
        if (kind < 87) {
            putText(text());
        } else if (kind < 88) {
            long characters = (long) below(1 << 30) << 32 | below(1 << 30) << below(32);
            due("put(" + characters + ")", house.put(characters), model.put(characters));
        } else if (kind < 89) {
            due("wipe", house.wipe(), model.wipe());
        } else if (kind < 91) {
            due("fault", house.fault(), model.fault());
        } else if (kind < 94) {
            due("carryOut", house.carryOut(), model.carryOut());
            if (below(2) == 0) due("wipe", house.wipe(), model.wipe());
        } else if (kind < 97) {
            due("undo", house.undo(), model.undo());
        } else if (kind < 98) {
            int slot = below(12) == 0 ? below(4) - 1 : below(2);
            due("save", house.save(slot), model.save(slot));
        } else if (kind < 99) {
            int slot = below(12) == 0 ? below(4) - 1 : below(2);
            due("restore", house.restore(slot), model.restore(slot));
        } else if (below(10) == 0 && calls + 2 * CALLS_OF_COMPARING <= MOST_CALLS) {
            compareAll();
        }
    }

    private void putText(String text) {
        for (int from = 0; from < text.length(); from += 8) {
            long characters = Checks.packed(text.substring(from, Math.min(text.length(), from + 8)));
            due("put(" + characters + ")", house.put(characters), model.put(characters));
        }
        due("fault of ..'" + text + "'", house.fault(), model.fault());
    }

    private String text() {
        List<String> orders = new ArrayList<>();
        for (int times = 1 + below(5); times > 0; times--) orders.add(order());
        StringBuilder text = new StringBuilder(model.count(11) > 0 && below(8) > 0 ? ";" : "");
        text.append(String.join(";", orders));
        if (below(6) == 0) text.setCharAt(below(text.length()), (char) (33 + below(94)));
        if (below(12) == 0) text.setLength(Math.max(1, below(text.length())));
        return text.toString();
    }

    private String order() {
        String cuts = String.format("%04d", ROWS[below(ROWS.length)]);
        switch (below(6)) {
            case 0: return "k" + cuts;
            case 1: return "c" + below(10) + "=" + cuts + "/" + String.format("%04d", below(10000));
            case 2: return "t" + (char) ('A' + below(16));
            case 3: return "p" + (char) ('A' + below(16));
            case 4: return "g" + below(10);
            default: return "b" + (below(10) == 0 ? "0" + below(3) : below(below(2) == 0 ? 40 : 1010));
        }
    }

    private void compareAll() {
        for (int what = 0; what <= 15; what++) due("count(" + what + ")", house.count(what), model.count(what));
        for (int door = 0; door < model.count(2); door++) {
            for (int what = 0; what <= 7; what++) due("ofDoor", house.ofDoor(door, what), model.ofDoor(door, what));
        }
        for (int key = 0; key < model.count(3); key++) {
            for (int what = 0; what <= 3; what++) due("ofKey", house.ofKey(key, what), model.ofKey(key, what));
        }
        int sum = house.count(5) + house.count(6) + house.count(7) + house.count(8);
        calls += 4;
        due("all the brass", sum, house.count(4));
    }
}
