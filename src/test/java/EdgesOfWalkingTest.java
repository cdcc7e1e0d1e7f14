/** The boundary cases that promises 8 to 10, 20 and 21 name: take, putDown, go, reach, doorsTo. */
public final class EdgesOfWalkingTest {
    private static final Edges EDGES = new Edges("EdgesOfWalkingTest");
    private static final int[] FAR = {Integer.MIN_VALUE, Integer.MIN_VALUE + 1, -65536, Integer.MAX_VALUE - 1, Integer.MAX_VALUE};

    public static void main(String[] args) {
        noSuchKeyToTake();
        notInTheRoomOfTheWalker();
        carriedAfterTaking();
        takeIsAChange();
        noSuchKeyToPutDown();
        notCarried();
        carriedAfterPuttingDown();
        putDownIsAChange();
        noSuchDoorToGoThrough();
        notADoorOfThisRoom();
        noCarriedKeyOpensIt();
        roomThen();
        goIsAChange();
        roomWhereTheWalkerIs();
        reachTakesAllKeys();
        reachTakesKeysInReachAlone();
        reachCarriesOn();
        reachFromRoomToRoom();
        reachChangesNothing();
        roomOutOfRange();
        doorsToTheSameRoom();
        cannotComeThere();
        fewestDoors();
        doorsCountEachTime();
        keysOnTheWayAlone();
        manyWays();
        doorsToChangesNothing();
        EDGES.finish();
    }

    private static void noSuchKeyToTake() {
        EDGES.of("Promise 8", "NO_SUCH if there is no such key");
        EDGES.refused("before the first key", -1, Edges::rich, x -> x.take(-1));
        EDGES.refused("after the last key", -1, Edges::rich, x -> x.take(4));
        EDGES.refused("without a key", -1, PinHouse::new, x -> x.take(0));
        EDGES.refused("a 17th key", -1, Edges::fullOfKeys, x -> x.take(16));
        for (int far : FAR) EDGES.refused("key " + far, -1, Edges::rich, x -> x.take(far));
    }

    private static void notInTheRoomOfTheWalker() {
        EDGES.of("Promise 8", "NOT_POSSIBLE if it is not in the room of the walker");
        EDGES.refused("in another room", -5, Edges::rich, x -> x.take(2));
        EDGES.refused("carried", -5, Edges::rich, x -> x.take(0));
        EDGES.refused("melted", -5, Edges::rich, x -> x.take(3));
        EDGES.refused("left in the room before", -5, EdgesOfWalkingTest::inRoomOne, x -> x.take(1));
        for (int room = 1; room < 8; room++) {
            PinHouse x = new PinHouse();
            x.key(0, room);
            EDGES.due("in room " + room, x.take(0), -5);
        }
    }

    private static PinHouse inRoomOne() {
        PinHouse x = Edges.rich();
        x.go(0);
        return x;
    }

    private static void carriedAfterTaking() {
        EDGES.of("Promise 8", "Returns the set of keys that are carried then");
        PinHouse x = new PinHouse();
        int carried = 0;
        for (int key = 0; key < 16; key++) x.key(0, 0);
        for (int key = 15; key >= 0; key--) {
            carried |= 1 << key;
            EDGES.due("take(" + key + ")", x.take(key), carried);
        }
        EDGES.due("all sixteen", x.count(1), 65535);
        for (int key = 0; key < 16; key++) EDGES.due("where key " + key + " is", x.ofKey(key, 2), 8);
    }

    private static void takeIsAChange() {
        EDGES.of("Promise 8", "The walker takes a key. This is a change.");
        PinHouse x = inRoomOne();
        x.key(0, 1);
        x.take(4);
        EDGES.due("undo", x.undo(), 5);
        EDGES.due("it lies there", x.ofKey(4, 2), 1);
        EDGES.due("carried", x.count(1), 1);
    }

    private static void noSuchKeyToPutDown() {
        EDGES.of("Promise 9", "NO_SUCH if there is no such key");
        EDGES.refused("before the first key", -1, Edges::rich, x -> x.putDown(-1));
        EDGES.refused("after the last key", -1, Edges::rich, x -> x.putDown(4));
        EDGES.refused("without a key", -1, PinHouse::new, x -> x.putDown(0));
        EDGES.refused("a 17th key", -1, Edges::fullOfKeys, x -> x.putDown(16));
        for (int far : FAR) EDGES.refused("key " + far, -1, Edges::rich, x -> x.putDown(far));
    }

    private static void notCarried() {
        EDGES.of("Promise 9", "NOT_POSSIBLE if it is not carried");
        EDGES.refused("it lies in the room of the walker", -5, Edges::rich, x -> x.putDown(1));
        EDGES.refused("it lies in another room", -5, Edges::rich, x -> x.putDown(2));
        EDGES.refused("it was melted", -5, Edges::rich, x -> x.putDown(3));
        PinHouse x = Edges.rich();
        EDGES.due("carried", x.putDown(0), 0);
        EDGES.due("put down before", x.putDown(0), -5);
    }

    private static void carriedAfterPuttingDown() {
        EDGES.of("Promise 9", "Returns the set of keys that are carried then");
        PinHouse x = new PinHouse();
        for (int key = 0; key < 16; key++) x.key(0, 0);
        for (int key = 0; key < 16; key++) x.take(key);
        int carried = 65535;
        for (int key = 0; key < 16; key++) {
            carried -= 1 << key;
            EDGES.due("putDown(" + key + ")", x.putDown(key), carried);
        }
        EDGES.due("none in the end", x.count(1), 0);
    }

    private static void putDownIsAChange() {
        EDGES.of("Promise 9", "The walker puts a key down. This is a change.");
        PinHouse x = inRoomOne();
        x.putDown(0);
        EDGES.due("it lies in the room of the walker then", x.ofKey(0, 2), 1);
        EDGES.due("undo", x.undo(), 5);
        EDGES.due("it is carried", x.ofKey(0, 2), 8);
    }

    private static void noSuchDoorToGoThrough() {
        EDGES.of("Promise 10", "NO_SUCH if there is no such door");
        EDGES.refused("before the first door", -1, Edges::rich, x -> x.go(-1));
        EDGES.refused("after the last door", -1, Edges::rich, x -> x.go(3));
        EDGES.refused("without a door", -1, PinHouse::new, x -> x.go(0));
        EDGES.refused("an 11th door", -1, Edges::fullOfDoors, x -> x.go(10));
        for (int far : FAR) EDGES.refused("door " + far, -1, Edges::rich, x -> x.go(far));
    }

    private static void notADoorOfThisRoom() {
        EDGES.of("Promise 10", "NOT_POSSIBLE if the door is not one of this room");
        EDGES.refused("a door elsewhere to which a carried key fits", -5, EdgesOfWalkingTest::withOneKeyForAll, x -> x.go(1));
        PinHouse x = withOneKeyForAll();
        EDGES.due("the door of this room", x.go(0), 1);
        EDGES.due("the door that was elsewhere", x.go(1), 2);
        EDGES.due("the door that is elsewhere now", x.go(0), -5);
        EDGES.due("room", x.count(0), 2);
        EDGES.due("doors so far", x.count(10), 2);
    }

    private static PinHouse withOneKeyForAll() {
        PinHouse x = new PinHouse();
        x.brass(100);
        x.door(0, 1, 1111, 1111);
        x.door(1, 2, 1111, 1111);
        x.key(1111, 0);
        x.take(0);
        return x;
    }

    private static void noCarriedKeyOpensIt() {
        EDGES.of("Promise 10", "or no carried key opens it");
        EDGES.refused("no key is carried", -5, EdgesOfWalkingTest::keyOnTheFloor, x -> x.go(0));
        EDGES.refused("the wrong one is carried", -5, EdgesOfWalkingTest::wrongKey, x -> x.go(0));
        EDGES.refused("the right one was melted", -5, EdgesOfWalkingTest::meltedKey, x -> x.go(0));
        EDGES.refused("the lock was cut anew", -5, EdgesOfWalkingTest::otherLock, x -> x.go(0));
        PinHouse x = wrongKey();
        x.take(0);
        EDGES.due("the right one is carried, too", x.go(0), 1);
    }

    private static PinHouse keyOnTheFloor() {
        PinHouse x = withOneKeyForAll();
        x.putDown(0);
        return x;
    }

    private static PinHouse wrongKey() {
        PinHouse x = keyOnTheFloor();
        x.key(1112, 0);
        x.take(1);
        return x;
    }

    private static PinHouse meltedKey() {
        PinHouse x = withOneKeyForAll();
        x.melt(0);
        return x;
    }

    private static PinHouse otherLock() {
        PinHouse x = withOneKeyForAll();
        x.cut(0, 1110, 2112);
        return x;
    }

    private static void roomThen() {
        EDGES.of("Promise 10", "Returns the room then");
        PinHouse x = new PinHouse();
        x.brass(100);
        x.key(0, 0);
        x.take(0);
        for (int room = 1; room < 8; room++) {
            x.door(room, room - 1, 0, 0);
            EDGES.due("to room " + room, x.go(room - 1), room);
            EDGES.due("the room of the walker", x.count(0), room);
        }
        for (int room = 6; room >= 0; room--) EDGES.due("back to room " + room, x.go(room), room);
    }

    private static void goIsAChange() {
        EDGES.of("Promise 10", "The walker goes through a door. This is a change.");
        PinHouse x = withOneKeyForAll();
        x.go(0);
        EDGES.due("changes", x.count(12), 6);
        EDGES.due("undo", x.undo(), 5);
        EDGES.due("room", x.count(0), 0);
        EDGES.due("doors so far", x.count(10), 0);
    }

    private static void roomWhereTheWalkerIs() {
        EDGES.of("Promise 20", "Returns the set of rooms, with the one where the walker is");
        EDGES.due("without doors", new PinHouse().reach(), 1);
        PinHouse x = keyOnTheFloor();
        x.melt(0);
        EDGES.due("with shut doors", x.reach(), 1);
        PinHouse y = withOneKeyForAll();
        y.go(0);
        y.go(1);
        y.melt(0);
        EDGES.due("shut in, elsewhere", y.reach(), 4);
    }

    private static void reachTakesAllKeys() {
        EDGES.of("Promise 20", "taking all keys that lie in rooms on the way");
        EDGES.due("a key in the first room", keyOnTheFloor().reach(), 7);
        EDGES.due("a carried key", withOneKeyForAll().reach(), 7);
        PinHouse x = rowOfRooms();
        EDGES.due("a key in each room for the next door", x.reach(), 255);
        x.melt(6);
        EDGES.due("without the key in the last room but one", x.reach(), 127);
        x.melt(0);
        EDGES.due("without the key in the first room", x.reach(), 1);
    }

    /** Rooms 0 to 7 in a row, the last door first; in each room lies the key for the next door. */
    private static PinHouse rowOfRooms() {
        PinHouse x = new PinHouse();
        x.brass(1000);
        for (int room = 6; room >= 0; room--) x.door(room, room + 1, 1111 * (room + 1), 1111 * (room + 1));
        for (int room = 0; room < 7; room++) x.key(1111 * (room + 1), room);
        return x;
    }

    private static void reachTakesKeysInReachAlone() {
        EDGES.of("Promise 20", "Finds the set of rooms to which the walker can come");
        PinHouse x = new PinHouse();
        x.brass(100);
        x.door(0, 1, 1111, 1111);
        x.key(1111, 1);
        EDGES.due("the key lies behind the door", x.reach(), 1);
        x.door(0, 2, 2222, 2222);
        x.key(2222, 3);
        x.door(3, 0, 3333, 3333);
        x.key(3333, 2);
        EDGES.due("each key lies behind the other door", x.reach(), 1);
        x.key(3333, 0);
        EDGES.due("with a key for one of them", x.reach(), 1 + 4 + 8);
    }

    private static void reachCarriesOn() {
        EDGES.of("Promise 20", "and carrying them on");
        PinHouse x = new PinHouse();
        x.brass(100);
        x.door(0, 1, 1111, 1111);
        x.door(1, 2, 2222, 2222);
        x.door(2, 3, 1111, 1111);
        x.door(0, 4, 3333, 3333);
        x.key(1111, 0);
        x.key(2222, 0);
        x.key(3333, 3);
        EDGES.due("the first key opens the third door, the last one a door at the start", x.reach(), 31);
    }

    private static void reachFromRoomToRoom() {
        EDGES.of("Promise 20", "on the way");
        PinHouse x = new PinHouse();
        x.brass(100);
        x.key(1111, 0);
        x.take(0);
        x.door(4, 5, 1111, 1111);
        EDGES.due("a door elsewhere, though its key is carried", x.reach(), 1);
        x.door(3, 4, 1111, 1111);
        EDGES.due("two doors elsewhere", x.reach(), 1);
        x.door(3, 0, 1111, 1111);
        EDGES.due("with a door of this room", x.reach(), 1 + 8 + 16 + 32);
        EDGES.due("a key elsewhere", x.key(2222, 2), 1);
        x.door(0, 6, 2222, 2222);
        EDGES.due("its door", x.reach(), 1 + 8 + 16 + 32);
    }

    private static void reachChangesNothing() {
        EDGES.of("what if", "nothing changes");
        EDGES.asked("reach", 1 + 2 + 4, Edges::rich, PinHouse::reach);
        EDGES.asked("reach by all rooms", 255, EdgesOfWalkingTest::rowOfRooms, PinHouse::reach);
    }

    private static void roomOutOfRange() {
        EDGES.of("Promise 21", "BAD_VALUE if room is out of range");
        for (int room : new int[] {-1, 8, 9, -8}) EDGES.refused("room " + room, -2, Edges::rich, x -> x.doorsTo(room));
        for (int far : FAR) EDGES.refused("room " + far, -2, Edges::rich, x -> x.doorsTo(far));
        EDGES.due("room 0", rowOfRooms().doorsTo(0), 0);
        EDGES.due("room 7", rowOfRooms().doorsTo(7), 7);
    }

    private static void doorsToTheSameRoom() {
        EDGES.of("Promise 21", "the fewest doors through which the walker has to go to come to a room");
        EDGES.due("where the walker is", new PinHouse().doorsTo(0), 0);
        PinHouse x = withOneKeyForAll();
        x.go(0);
        EDGES.due("where the walker is", x.doorsTo(1), 0);
        EDGES.due("back", x.doorsTo(0), 1);
        x.melt(0);
        EDGES.due("where the walker is, shut in", x.doorsTo(1), 0);
    }

    private static void cannotComeThere() {
        EDGES.of("Promise 21", "NONE if the walker cannot come there");
        for (int room = 1; room < 8; room++) EDGES.due("a new house, room " + room, new PinHouse().doorsTo(room), -6);
        PinHouse x = new PinHouse();
        x.brass(100);
        x.door(0, 1, 1111, 1111);
        x.key(1111, 1);
        EDGES.due("the key lies behind the door", x.doorsTo(1), -6);
        x.key(1112, 0);
        EDGES.due("only another key", x.doorsTo(1), -6);
        x.key(1111, 0);
        EDGES.due("with its key", x.doorsTo(1), 1);
        x.melt(2);
        EDGES.due("with its key melted", x.doorsTo(1), -6);
    }

    private static void fewestDoors() {
        EDGES.of("Promise 21", "Finds the fewest doors");
        PinHouse x = rowOfRooms();
        for (int room = 0; room < 8; room++) EDGES.due("room " + room + " in a row", x.doorsTo(room), room);
        x.door(0, 7, 7777, 7777);
        EDGES.due("the short way is shut until the key of room 6", x.doorsTo(7), 7);
        x.door(0, 7, 1117, 1111);
        EDGES.due("the short way is open", x.doorsTo(7), 1);
        EDGES.due("room 6 is still reached in a row", x.doorsTo(6), 6);
    }

    private static void doorsCountEachTime() {
        EDGES.of("Promise 21", "has to go");
        PinHouse x = new PinHouse();
        x.brass(100);
        x.key(1111, 0);
        x.key(2222, 3);
        x.door(0, 1, 1111, 1111);
        x.door(1, 2, 1111, 1111);
        x.door(2, 3, 1111, 1111);
        x.door(0, 7, 2222, 2222);
        EDGES.due("three doors there, three back, and one", x.doorsTo(7), 7);
        x.door(3, 0, 2222, 2222);
        EDGES.due("three doors there, one back, and one", x.doorsTo(7), 5);
    }

    private static void keysOnTheWayAlone() {
        EDGES.of("Promise 21", "taking all keys that lie in rooms on the way, and carrying them on");
        PinHouse x = new PinHouse();
        x.brass(200);
        x.key(1111, 0);
        x.key(2222, 2);
        x.door(0, 1, 1111, 1111);
        x.door(0, 2, 1111, 1111);
        x.door(1, 3, 2222, 2222);
        EDGES.due("round by room 2", x.doorsTo(3), 4);
        x.door(2, 1, 1111, 1111);
        EDGES.due("through room 2", x.doorsTo(3), 3);
        x.take(0);
        x.go(1);
        EDGES.due("from room 2, where the key lies", x.doorsTo(3), 2);
        x.go(3);
        EDGES.due("from room 1, back for it", x.doorsTo(3), 3);
    }

    private static void manyWays() {
        EDGES.of("Promise 21", "NONE if the walker cannot come there");
        PinHouse x = new PinHouse();
        x.brass(200);
        x.key(1111, 0);
        x.key(2222, 6);
        for (int door = 0; door < 5; door++) x.door(0, 1, 1111, 1111);
        x.door(1, 2, 1111, 1111);
        x.door(2, 3, 1111, 1111);
        x.door(3, 6, 1111, 1111);
        x.door(0, 4, 2222, 2222);
        x.door(4, 5, 2222, 2222);
        EDGES.due("room 5: four doors there, four back, two on", x.doorsTo(5), 10);
        EDGES.due("room 7: no door, by however many ways", x.doorsTo(7), -6);
        EDGES.due("room 5 again", x.doorsTo(5), 10);
    }

    private static void doorsToChangesNothing() {
        EDGES.of("what if", "nothing changes");
        EDGES.asked("doorsTo(2)", 2, Edges::rich, x -> x.doorsTo(2));
        EDGES.asked("doorsTo(5)", -6, Edges::rich, x -> x.doorsTo(5));
        EDGES.asked("doorsTo(7)", 7, EdgesOfWalkingTest::rowOfRooms, x -> x.doorsTo(7));
    }
}
