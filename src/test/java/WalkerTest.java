/** Promises 8 to 10, 20 and 21: take, putDown, go, reach, doorsTo. */
public final class WalkerTest {
    private static final Checks CHECKS = new Checks("WalkerTest");

    public static void main(String[] args) {
        takeAndPutDown();
        takeErrors();
        go();
        goErrors();
        eitherRowOpens();
        reach();
        doorsTo();
        detourForAKey();
        doorsThereAndBack();
        doorsFarAway();
        manyWays();
        CHECKS.finish();
    }

    private static void takeAndPutDown() {
        PinHouse x = new PinHouse();
        x.key(0, 0);
        x.key(1, 0);
        x.key(2, 0);
        CHECKS.due("take 2", x.take(2), 4);
        CHECKS.due("take 0", x.take(0), 5);
        CHECKS.due("carried", x.count(1), 5);
        CHECKS.due("where it is", x.ofKey(2, 2), 8);
        CHECKS.due("put 2 down", x.putDown(2), 1);
        CHECKS.due("where it is", x.ofKey(2, 2), 0);
        CHECKS.due("changes", x.count(12), 6);
        CHECKS.due("undo", x.undo(), 5);
        CHECKS.due("carried again", x.count(1), 5);
        x.undo();
        CHECKS.due("carried before", x.count(1), 4);
    }

    private static void takeErrors() {
        PinHouse x = new PinHouse();
        CHECKS.due("no key", x.take(0), -1);
        CHECKS.due("no key", x.putDown(0), -1);
        x.key(0, 0);
        x.key(0, 1);
        CHECKS.due("no key 2", x.take(2), -1);
        CHECKS.due("no key -1", x.take(-1), -1);
        CHECKS.due("no key 2", x.putDown(2), -1);
        CHECKS.due("no key -1", x.putDown(-1), -1);
        CHECKS.due("in another room", x.take(1), -5);
        CHECKS.due("not carried", x.putDown(0), -5);
        CHECKS.due("changes", x.count(12), 2);
        x.take(0);
        CHECKS.due("carried already", x.take(0), -5);
        CHECKS.due("changes", x.count(12), 3);
    }

    private static PinHouse threeRooms() {
        PinHouse x = new PinHouse();
        x.brass(100);
        x.door(0, 1, 1111, 1111);
        x.door(2, 1, 2222, 2222);
        x.key(1111, 0);
        x.key(2222, 1);
        return x;
    }

    private static void go() {
        PinHouse x = threeRooms();
        x.take(0);
        CHECKS.due("through door 0", x.go(0), 1);
        CHECKS.due("room", x.count(0), 1);
        CHECKS.due("doors so far", x.count(10), 1);
        x.take(1);
        CHECKS.due("from its other room", x.go(1), 2);
        CHECKS.due("and back", x.go(1), 1);
        CHECKS.due("doors so far", x.count(10), 3);
        CHECKS.due("carried keys come along", x.count(1), 3);
        CHECKS.due("put down in the room then", x.putDown(0), 2);
        CHECKS.due("it is there", x.ofKey(0, 2), 1);
        x.undo();
        CHECKS.due("undo", x.undo(), 4);
        CHECKS.due("room after undo", x.count(0), 2);
        CHECKS.due("doors after undo", x.count(10), 2);
    }

    private static void goErrors() {
        PinHouse x = threeRooms();
        CHECKS.due("no door 2", x.go(2), -1);
        CHECKS.due("no door -1", x.go(-1), -1);
        CHECKS.due("the key lies there only", x.go(0), -5);
        x.take(0);
        x.go(0);
        x.take(1);
        x.go(0);
        CHECKS.due("room", x.count(0), 0);
        CHECKS.due("the door is not one of this room", x.go(1), -5);
        x.putDown(0);
        CHECKS.due("the carried key does not open it", x.go(0), -5);
        CHECKS.due("doors so far", x.count(10), 2);
        x.cut(0, 9222, 2999);
        CHECKS.due("a lock that was cut anew opens to another key", x.go(0), 1);
    }

    private static void eitherRowOpens() {
        PinHouse x = new PinHouse();
        x.set(PinHouse.STEP, 9);
        x.brass(100);
        x.door(0, 1, 1234, 5678);
        x.key(1638, 0);
        x.key(1239, 0);
        x.take(0);
        x.take(1);
        CHECKS.due("keys of the door", x.ofDoor(0, 6), 1);
        CHECKS.due("by depths of both rows", x.go(0), 1);
        x.putDown(0);
        CHECKS.due("all four places count", x.go(0), -5);
    }

    private static void reach() {
        PinHouse x = threeRooms();
        CHECKS.due("all three", x.reach(), 7);
        CHECKS.due("nothing changed", x.count(0), 0);
        CHECKS.due("nothing taken", x.count(1), 0);
        CHECKS.due("no change", x.count(12), 5);
        x.melt(1);
        CHECKS.due("two", x.reach(), 3);
        x.melt(0);
        CHECKS.due("one", x.reach(), 1);
        PinHouse y = new PinHouse();
        y.brass(200);
        for (int room = 7; room > 0; room--) y.door(room, room - 1, room, room);
        for (int room = 0; room < 7; room++) {
            if (room + 1 <= 5) y.key(room + 1, room);
        }
        CHECKS.due("a row of rooms", y.reach(), 63);
        y.set(PinHouse.STEP, 9);
        y.key(6, 0);
        y.key(7, 6);
        CHECKS.due("all rooms", y.reach(), 255);
        CHECKS.due("the last one", y.doorsTo(7), 7);
        y.take(0);
        y.go(6);
        CHECKS.due("from room 1 with the keys left behind", y.reach(), 255);
        CHECKS.due("room 7: back for the key in room 0", y.doorsTo(7), 8);
        CHECKS.due("room 5: no need", y.doorsTo(5), 4);
    }

    private static void doorsTo() {
        PinHouse x = threeRooms();
        CHECKS.due("here", x.doorsTo(0), 0);
        CHECKS.due("room 1", x.doorsTo(1), 1);
        CHECKS.due("room 2", x.doorsTo(2), 2);
        CHECKS.due("room 3", x.doorsTo(3), -6);
        CHECKS.due("room -1", x.doorsTo(-1), -2);
        CHECKS.due("room 8", x.doorsTo(8), -2);
        CHECKS.due("nothing changed", x.count(10), 0);
        x.door(0, 2, 2222, 2222);
        CHECKS.due("no shorter way", x.doorsTo(2), 2);
        x.key(2222, 0);
        CHECKS.due("a shorter way", x.doorsTo(2), 1);
    }

    private static void detourForAKey() {
        PinHouse x = new PinHouse();
        x.brass(100);
        x.door(0, 1, 1111, 1111);
        x.door(0, 2, 2222, 2222);
        x.door(0, 3, 3333, 3333);
        x.key(1111, 0);
        x.key(2222, 1);
        x.key(3333, 2);
        CHECKS.due("to 1 and back, to 2 and back, to 3", x.doorsTo(3), 5);
        CHECKS.due("to 1 and back, to 2", x.doorsTo(2), 3);
        CHECKS.due("reach", x.reach(), 15);
        x.door(1, 3, 2222, 2222);
        CHECKS.due("the key of room 1 opens a door of it", x.doorsTo(3), 2);
        x.take(0);
        x.go(0);
        CHECKS.due("from room 1", x.doorsTo(2), 2);
        CHECKS.due("from room 1", x.doorsTo(3), 1);
        x.putDown(0);
        CHECKS.due("a key put down is taken again", x.doorsTo(2), 2);
    }

    private static void doorsFarAway() {
        PinHouse x = new PinHouse();
        x.brass(100);
        x.door(4, 5, 1111, 1111);
        x.key(1111, 0);
        x.take(0);
        CHECKS.due("a key in hand for a door elsewhere", x.reach(), 1);
        CHECKS.due("no way", x.doorsTo(4), -6);
        x.door(3, 4, 1111, 1111);
        CHECKS.due("still elsewhere", x.reach(), 1);
        x.door(0, 3, 1111, 1111);
        CHECKS.due("linked", x.reach(), 1 + 8 + 16 + 32);
        CHECKS.due("three doors", x.doorsTo(5), 3);
    }

    private static void manyWays() {
        PinHouse x = new PinHouse();
        x.brass(200);
        x.key(1111, 0);
        x.key(2222, 6);
        for (int door = 0; door < 5; door++) x.door(0, 1, 1111, 1111);
        x.door(1, 2, 1111, 1111);
        x.door(2, 3, 1111, 1111);
        x.door(3, 6, 1111, 1111);
        x.door(0, 4, 2222, 2222);
        x.door(4, 5, 2222, 2222);
        CHECKS.due("four there, four back, two on", x.doorsTo(5), 10);
        CHECKS.due("room 7 has no door", x.doorsTo(7), -6);
        CHECKS.due("the same once more", x.doorsTo(5), 10);
        CHECKS.due("reach", x.reach(), 127);
    }

    private static void doorsThereAndBack() {
        PinHouse x = new PinHouse();
        x.brass(100);
        x.door(0, 1, 1111, 1111);
        x.door(1, 2, 2222, 2222);
        x.key(1111, 0);
        x.key(2222, 0);
        x.take(0);
        x.go(0);
        CHECKS.due("back for the key", x.doorsTo(2), 3);
        CHECKS.due("all the same", x.reach(), 7);
        x.putDown(0);
        x.melt(0);
        CHECKS.due("shut in", x.reach(), 2);
        CHECKS.due("shut in", x.doorsTo(2), -6);
        CHECKS.due("shut in", x.doorsTo(0), -6);
        CHECKS.due("here", x.doorsTo(1), 0);
    }
}
