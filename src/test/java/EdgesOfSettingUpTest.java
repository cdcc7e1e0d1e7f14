/** The boundary cases that promises 1 to 7 name: a new object, set, brass, door, cut, key, melt. */
public final class EdgesOfSettingUpTest {
    private static final Edges EDGES = new Edges("EdgesOfSettingUpTest");
    private static final int[] FAR = {Integer.MIN_VALUE, Integer.MIN_VALUE + 1, -65536, Integer.MAX_VALUE - 1, Integer.MAX_VALUE};

    public static void main(String[] args) {
        newObject();
        keysThatThereAreStay();
        previousValue();
        noSuchSetting();
        settingOutOfItsRange();
        setIsAChange();
        gramsFromOneToThousand();
        gramsOutOfRange();
        brassIsAChange();
        numberOfADoor();
        roomsOfADoor();
        bothRoomsTheSame();
        rowsOfADoor();
        tooManyDoors();
        notEnoughForADoor();
        doorIsAChange();
        noSuchDoorToCut();
        rowsOfACut();
        notEnoughForACut();
        boxAfterACut();
        cutIsAChange();
        numberOfAKey();
        cutsOfAKey();
        roomOfAKey();
        tooManyKeys();
        cannotBeAKey();
        keyIsAChange();
        noSuchKeyToMelt();
        meltedBefore();
        boxAfterMelting();
        meltIsAChange();
        EDGES.finish();
    }

    private static void newObject() {
        EDGES.of("Promise 1", "Creates a house without doors and keys, with an empty box");
        int[] want = {0, 0, 0, 0, 0, 0, 0, 0, 0, 0, 0, 0, 0, 5, 10, 60};
        PinHouse x = new PinHouse();
        for (int what = 0; what < 16; what++) EDGES.due("count(" + what + ")", x.count(what), want[what]);
        EDGES.refused("a door of nothing", -5, PinHouse::new, y -> y.door(0, 1, 0, 0));
        EDGES.refused("no door", -1, PinHouse::new, y -> y.ofDoor(0, 0));
        EDGES.refused("no key", -1, PinHouse::new, y -> y.ofKey(0, 0));
        EDGES.refused("nothing to undo", -5, PinHouse::new, y -> y.undo());
        EDGES.refused("nothing saved in 0", -5, PinHouse::new, y -> y.restore(0));
        EDGES.refused("nothing saved in 1", -5, PinHouse::new, y -> y.restore(1));
        EDGES.refused("an empty plan", -5, PinHouse::new, y -> y.carryPlan());
        EDGES.refused("an empty pad", -3, PinHouse::new, y -> y.carryOut());
        x.brass(1000);
        x.key(0, 0);
        EDGES.due("what another object has", new PinHouse().count(7), 0);
        EDGES.due("what another object has", new PinHouse().count(3), 0);
    }

    private static void keysThatThereAreStay() {
        EDGES.of("Promise 2", "Changes a setting; keys that there are stay");
        PinHouse x = new PinHouse();
        x.set(PinHouse.STEP, 9);
        x.key(9090, 0);
        x.set(PinHouse.STEP, 1);
        x.set(PinHouse.BLANK, 40);
        EDGES.due("its cuts", x.ofKey(0, 0), 9090);
        EDGES.due("its weight", x.ofKey(0, 1), 42);
        EDGES.due("in keys", x.count(6), 42);
        EDGES.due("came in", x.count(4), 60);
        EDGES.due("it can be taken", x.take(0), 1);
        EDGES.due("such a key can't be cut now", x.key(9090, 0), -5);
    }

    private static void previousValue() {
        EDGES.of("Promise 2", "Returns the previous value");
        PinHouse x = new PinHouse();
        EDGES.due("LOSS, from 10 to the least", x.set(PinHouse.LOSS, 0), 10);
        EDGES.due("LOSS, from the least to the most", x.set(PinHouse.LOSS, 50), 0);
        EDGES.due("LOSS, to the same", x.set(PinHouse.LOSS, 50), 50);
        EDGES.due("STEP", x.set(PinHouse.STEP, 9), 5);
        EDGES.due("STEP", x.set(PinHouse.STEP, 1), 9);
        EDGES.due("BLANK", x.set(PinHouse.BLANK, 90), 60);
        EDGES.due("BLANK", x.set(PinHouse.BLANK, 40), 90);
        EDGES.due("STEP then", x.count(13), 1);
        EDGES.due("LOSS then", x.count(14), 50);
        EDGES.due("BLANK then", x.count(15), 40);
        x.undo();
        EDGES.due("BLANK, after undo", x.set(PinHouse.BLANK, 41), 90);
    }

    private static void noSuchSetting() {
        EDGES.of("Promise 2", "BAD_VALUE if there is no such setting");
        for (int value : new int[] {1, 5, 9, 40, 50}) {
            EDGES.refused("set(-1, " + value + ")", -2, Edges::rich, x -> x.set(-1, value));
            EDGES.refused("set(3, " + value + ")", -2, Edges::rich, x -> x.set(3, value));
        }
        for (int far : FAR) EDGES.refused("set(" + far + ", 5)", -2, Edges::rich, x -> x.set(far, 5));
    }

    private static void settingOutOfItsRange() {
        EDGES.of("Promise 2", "or the value is out of its range");
        int[] least = {1, 0, 40};
        int[] most = {9, 50, 90};
        for (int setting = 0; setting < 3; setting++) {
            int one = setting;
            PinHouse x = new PinHouse();
            EDGES.due("the least of " + setting, Math.min(0, x.set(setting, least[setting])), 0);
            EDGES.due("the least of " + setting, x.set(setting, most[setting]), least[setting]);
            EDGES.due("the most of " + setting, x.count(13 + setting), most[setting]);
            EDGES.refused("less of " + setting, -2, Edges::rich, y -> y.set(one, least[one] - 1));
            EDGES.refused("more of " + setting, -2, Edges::rich, y -> y.set(one, most[one] + 1));
            for (int far : FAR) EDGES.refused("set(" + setting + ", " + far + ")", -2, Edges::rich, y -> y.set(one, far));
        }
    }

    private static void setIsAChange() {
        EDGES.of("Promise 2", "This is a change");
        PinHouse x = new PinHouse();
        x.set(PinHouse.BLANK, 60);
        EDGES.due("also to the value that it has", x.count(12), 1);
        EDGES.due("undo", x.undo(), 0);
        x.set(PinHouse.STEP, 4);
        x.set(PinHouse.LOSS, 4);
        EDGES.due("undo", x.undo(), 1);
        EDGES.due("LOSS as before", x.count(14), 10);
        EDGES.due("STEP stays", x.count(13), 4);
    }

    private static void gramsFromOneToThousand() {
        EDGES.of("Promise 3", "1 to 1000");
        PinHouse x = new PinHouse();
        EDGES.due("1", x.brass(1), 1);
        EDGES.due("1000", x.brass(1000), 1001);
        EDGES.due("999", x.brass(999), 2000);
        EDGES.due("came in", x.count(4), 2000);
        EDGES.due("in the box", x.count(7), 2000);
    }

    private static void gramsOutOfRange() {
        EDGES.of("Promise 3", "BAD_VALUE if grams is out of range");
        for (int grams : new int[] {0, -1, 1001, -1000, 65536 + 5}) {
            EDGES.refused("brass(" + grams + ")", -2, Edges::rich, x -> x.brass(grams));
        }
        for (int far : FAR) EDGES.refused("brass(" + far + ")", -2, Edges::rich, x -> x.brass(far));
    }

    private static void brassIsAChange() {
        EDGES.of("Promise 3", "Puts brass into the box. This is a change.");
        PinHouse x = Edges.poor();
        int cameIn = x.count(4);
        EDGES.due("into an empty box", x.brass(1), 1);
        EDGES.due("undo", x.undo(), 5);
        EDGES.due("the box", x.count(7), 0);
        EDGES.due("came in", x.count(4), cameIn);
    }

    private static void numberOfADoor() {
        EDGES.of("Promise 4", "Returns its number");
        PinHouse x = withBrass(1000);
        for (int door = 0; door < 10; door++) {
            EDGES.due("door " + door, x.door(door % 7, 7, door, door), door);
            EDGES.due("its row", x.ofDoor(door, 2), door);
            EDGES.due("doors", x.count(2), door + 1);
        }
    }

    private static void roomsOfADoor() {
        EDGES.of("Promise 4", "BAD_VALUE if one or other is not 0 to 7");
        for (int room : new int[] {-1, 8, 9, -8}) {
            EDGES.refused("one " + room, -2, Edges::rich, x -> x.door(room, 0, 0, 0));
            EDGES.refused("other " + room, -2, Edges::rich, x -> x.door(0, room, 0, 0));
            EDGES.refused("both " + room, -2, Edges::rich, x -> x.door(room, room, 0, 0));
        }
        for (int far : FAR) {
            EDGES.refused("one " + far, -2, Edges::rich, x -> x.door(far, 1, 0, 0));
            EDGES.refused("other " + far, -2, Edges::rich, x -> x.door(1, far, 0, 0));
        }
        for (int room = 1; room < 8; room++) {
            PinHouse x = Edges.rich();
            EDGES.due("from 0 to " + room, x.door(0, room, 0, 0), 3);
            EDGES.due("from " + room + " to 0", x.door(room, 0, 0, 0), 4);
            EDGES.due("its first room", x.ofDoor(4, 0), room);
            EDGES.due("its second room", x.ofDoor(4, 1), 0);
        }
    }

    private static void bothRoomsTheSame() {
        EDGES.of("Promise 4", "both are the same");
        EDGES.refused("from 0 to 0", -2, Edges::rich, x -> x.door(0, 0, 0, 0));
        EDGES.refused("from 7 to 7", -2, Edges::rich, x -> x.door(7, 7, 0, 0));
        PinHouse x = Edges.rich();
        EDGES.due("from 7 to 6", x.door(7, 6, 0, 0), 3);
    }

    private static void rowsOfADoor() {
        EDGES.of("Promise 4", "or a row is not 0 to 9999");
        for (int row : new int[] {-1, 10000, 10001, -9999}) {
            EDGES.refused("first " + row, -2, Edges::rich, x -> x.door(0, 1, row, 0));
            EDGES.refused("second " + row, -2, Edges::rich, x -> x.door(0, 1, 0, row));
        }
        for (int far : FAR) {
            EDGES.refused("first " + far, -2, Edges::rich, x -> x.door(0, 1, far, 0));
            EDGES.refused("second " + far, -2, Edges::rich, x -> x.door(0, 1, 0, far));
        }
        PinHouse x = Edges.rich();
        EDGES.due("9999 and 0", x.door(0, 1, 9999, 0), 3);
        EDGES.due("0 and 9999", x.door(0, 1, 0, 9999), 4);
        EDGES.due("first row", x.ofDoor(3, 2), 9999);
        EDGES.due("second row", x.ofDoor(4, 3), 9999);
    }

    private static void tooManyDoors() {
        EDGES.of("Promise 4", "TOO_MANY if there are 10 doors");
        PinHouse x = Edges.fullOfDoors();
        EDGES.due("doors", x.count(2), 10);
        EDGES.refused("one more", -4, Edges::fullOfDoors, y -> y.door(0, 1, 0, 0));
        x.undo();
        EDGES.due("one in place of an undone one", x.door(0, 1, 0, 0), 9);
    }

    private static void notEnoughForADoor() {
        EDGES.of("Promise 4", "NOT_POSSIBLE if there is not enough in the box");
        EDGES.refused("with an empty box", -5, Edges::poor, x -> x.door(0, 1, 0, 0));
        int[][] locks = {{0, 0, 4}, {0, 1000, 5}, {9999, 9999, 40}, {9999, 0, 44}, {1234, 1243, 16}};
        for (int[] lock : locks) {
            EDGES.refused("a gram less than " + lock[2], -5, () -> withBrass(lock[2] - 1), x -> x.door(0, 1, lock[0], lock[1]));
            PinHouse x = withBrass(lock[2]);
            EDGES.due("just " + lock[2] + " grams", x.door(0, 1, lock[0], lock[1]), 0);
            EDGES.due("nothing is left", x.count(7), 0);
        }
    }

    private static PinHouse withBrass(int grams) {
        PinHouse x = new PinHouse();
        x.brass(grams);
        return x;
    }

    private static void doorIsAChange() {
        EDGES.of("Promise 4", "Makes a door with a lock. This is a change.");
        PinHouse x = withBrass(9);
        x.door(0, 1, 5, 5);
        EDGES.due("changes", x.count(12), 2);
        EDGES.due("undo", x.undo(), 1);
        EDGES.due("doors", x.count(2), 0);
        EDGES.due("the box", x.count(7), 9);
        EDGES.due("in locks", x.count(5), 0);
        EDGES.due("no door 0", x.cut(0, 0, 0), -1);
    }

    private static void noSuchDoorToCut() {
        EDGES.of("Promise 5", "NO_SUCH if there is no such door");
        EDGES.refused("before the first door", -1, Edges::rich, x -> x.cut(-1, 0, 0));
        EDGES.refused("after the last door", -1, Edges::rich, x -> x.cut(3, 0, 0));
        EDGES.refused("without a door", -1, PinHouse::new, x -> x.cut(0, 0, 0));
        EDGES.refused("an 11th door", -1, Edges::fullOfDoors, x -> x.cut(10, 0, 0));
        for (int far : FAR) EDGES.refused("door " + far, -1, Edges::rich, x -> x.cut(far, 0, 0));
        EDGES.due("the last door", Math.min(0, Edges.fullOfDoors().cut(9, 0, 1)), 0);
    }

    private static void rowsOfACut() {
        EDGES.of("Promise 5", "BAD_VALUE if a row is not 0 to 9999");
        for (int row : new int[] {-1, 10000, 10001, -9999}) {
            EDGES.refused("first " + row, -2, Edges::rich, x -> x.cut(0, row, 0));
            EDGES.refused("second " + row, -2, Edges::rich, x -> x.cut(0, 0, row));
        }
        for (int far : FAR) {
            EDGES.refused("first " + far, -2, Edges::rich, x -> x.cut(0, far, 0));
            EDGES.refused("second " + far, -2, Edges::rich, x -> x.cut(0, 0, far));
        }
        PinHouse x = Edges.rich();
        x.cut(0, 9999, 0);
        EDGES.due("9999 and 0", x.ofDoor(0, 2) - x.ofDoor(0, 3), 9999);
        x.cut(0, 0, 9999);
        EDGES.due("0 and 9999", x.ofDoor(0, 3) - x.ofDoor(0, 2), 9999);
    }

    private static void notEnoughForACut() {
        EDGES.of("Promise 5", "NOT_POSSIBLE if there is not enough in the box");
        // 10 percent of 10 grams are lost: with 3 in the box there are 12 for the new lock.
        EDGES.refused("a gram short", -5, EdgesOfSettingUpTest::tenGramsAndThree, x -> x.cut(0, 9, 9));
        EDGES.refused("a gram short by a different depth", -5, EdgesOfSettingUpTest::tenGramsAndThree, x -> x.cut(0, 8, 9));
        EDGES.due("just enough", tenGramsAndThree().cut(0, 8, 8), 0);
        EDGES.due("just enough, with a different depth", tenGramsAndThree().cut(0, 7, 8), 0);
        EDGES.refused("only what melting brings", -5, () -> withLock(4, 0), x -> x.cut(0, 0, 0));
        EDGES.due("only what melting brings, without loss", withLock(4, 0, 0).cut(0, 0, 0), 0);
    }

    private static PinHouse tenGramsAndThree() {
        return withLock(13, 6);
    }

    private static PinHouse withLock(int grams, int row) {
        return withLock(grams, row, 10);
    }

    private static PinHouse withLock(int grams, int row, int loss) {
        PinHouse x = new PinHouse();
        x.set(PinHouse.LOSS, loss);
        x.brass(grams);
        x.door(0, 1, row, row);
        return x;
    }

    private static void boxAfterACut() {
        EDGES.of("Promise 5", "Returns what is in the box then");
        PinHouse x = withLock(40, 9999, 50);
        EDGES.due("half of 40 grams, less 4", x.cut(0, 0, 0), 16);
        EDGES.due("half of 4 grams, less 4", x.cut(0, 0, 0), 14);
        EDGES.due("the box", x.count(7), 14);
    }

    private static void cutIsAChange() {
        EDGES.of("Promise 5", "Cuts a lock anew. This is a change.");
        PinHouse x = withLock(40, 0, 0);
        x.cut(0, 0, 0);
        EDGES.due("also by the same rows", x.count(12), 4);
        EDGES.due("it is counted", x.ofDoor(0, 5), 1);
        x.cut(0, 1, 2);
        EDGES.due("undo", x.undo(), 4);
        EDGES.due("first row", x.ofDoor(0, 2), 0);
        EDGES.due("second row", x.ofDoor(0, 3), 0);
        EDGES.due("the box", x.count(7), 36);
        EDGES.due("undo", x.undo(), 3);
        EDGES.due("it is not counted", x.ofDoor(0, 5), 0);
    }

    private static void numberOfAKey() {
        EDGES.of("Promise 6", "Returns its number");
        PinHouse x = new PinHouse();
        for (int key = 0; key < 16; key++) {
            EDGES.due("key " + key, x.key(1110 + key % 6, key % 8), key);
            EDGES.due("its cuts", x.ofKey(key, 0), 1110 + key % 6);
            EDGES.due("keys", x.count(3), key + 1);
        }
    }

    private static void cutsOfAKey() {
        EDGES.of("Promise 6", "BAD_VALUE if cuts or room is out of range");
        for (int cuts : new int[] {-1, 10000, -1111, 11111}) {
            EDGES.refused("cuts " + cuts, -2, Edges::rich, x -> x.key(cuts, 0));
        }
        for (int far : FAR) EDGES.refused("cuts " + far, -2, Edges::rich, x -> x.key(far, 0));
        EDGES.due("0", new PinHouse().key(0, 0), 0);
        EDGES.due("9999", new PinHouse().key(9999, 0), 0);
    }

    private static void roomOfAKey() {
        EDGES.of("Promise 6", "0 to 7");
        for (int room : new int[] {-1, 8, 9, 10}) EDGES.refused("room " + room, -2, Edges::rich, x -> x.key(0, room));
        for (int far : FAR) EDGES.refused("room " + far, -2, Edges::rich, x -> x.key(0, far));
        PinHouse x = new PinHouse();
        for (int room = 0; room < 8; room++) {
            EDGES.due("a key in room " + room, x.key(0, room), room);
            EDGES.due("where it is", x.ofKey(room, 2), room);
        }
    }

    private static void tooManyKeys() {
        EDGES.of("Promise 6", "TOO_MANY if 16 keys were cut");
        EDGES.due("keys", Edges.fullOfKeys().count(3), 16);
        EDGES.refused("one more", -4, Edges::fullOfKeys, x -> x.key(0, 0));
        EDGES.refused("one more, when all are melted", -4, EdgesOfSettingUpTest::allMelted, x -> x.key(0, 0));
        PinHouse x = Edges.fullOfKeys();
        x.undo();
        EDGES.due("the 16th", x.key(0, 0), 15);
    }

    private static PinHouse allMelted() {
        PinHouse x = Edges.fullOfKeys();
        for (int key = 0; key < 16; key++) x.melt(key);
        return x;
    }

    private static void cannotBeAKey() {
        EDGES.of("Promise 6", "NOT_POSSIBLE if the cuts cannot be a key");
        for (int cuts : new int[] {6, 60, 600, 6000, 9993, 9939, 9399, 3999, 909, 7007}) {
            EDGES.refused("key(" + cuts + ")", -5, Edges::rich, x -> x.key(cuts, 0));
        }
        for (int cuts : new int[] {5, 50, 500, 5000, 9994, 9949, 9499, 4999, 505, 7227}) {
            EDGES.due("key(" + cuts + ")", Edges.rich().key(cuts, 0), 4);
        }
    }

    private static void keyIsAChange() {
        EDGES.of("Promise 6", "Cuts a key, which is in a room then. This is a change.");
        PinHouse x = new PinHouse();
        x.key(9999, 3);
        EDGES.due("undo", x.undo(), 0);
        EDGES.due("keys", x.count(3), 0);
        EDGES.due("came in", x.count(4), 0);
        EDGES.due("the box", x.count(7), 0);
        EDGES.due("no key 0", x.melt(0), -1);
    }

    private static void noSuchKeyToMelt() {
        EDGES.of("Promise 7", "NO_SUCH if there is no such key");
        EDGES.refused("before the first key", -1, Edges::rich, x -> x.melt(-1));
        EDGES.refused("after the last key", -1, Edges::rich, x -> x.melt(4));
        EDGES.refused("without a key", -1, PinHouse::new, x -> x.melt(0));
        EDGES.refused("a 17th key", -1, Edges::fullOfKeys, x -> x.melt(16));
        for (int far : FAR) EDGES.refused("key " + far, -1, Edges::rich, x -> x.melt(far));
        EDGES.due("the 16th key", Math.min(0, Edges.fullOfKeys().melt(15)), 0);
    }

    private static void meltedBefore() {
        EDGES.of("Promise 7", "NOT_POSSIBLE if it was melted");
        EDGES.refused("melt(3)", -5, Edges::rich, x -> x.melt(3));
        PinHouse x = Edges.rich();
        EDGES.due("one that is carried", Math.min(0, x.melt(0)), 0);
        EDGES.due("again", x.melt(0), -5);
        EDGES.due("one in another room", Math.min(0, x.melt(2)), 0);
        EDGES.due("again", x.melt(2), -5);
        x.undo();
        EDGES.due("one that was not melted after undo", Math.min(0, x.melt(2)), 0);
    }

    private static void boxAfterMelting() {
        EDGES.of("Promise 7", "Returns what is in the box then");
        PinHouse x = new PinHouse();
        x.set(PinHouse.BLANK, 40);
        x.key(9999, 0);
        EDGES.due("4 grams by 10 percent", x.melt(0), 36 + 3);
        x.set(PinHouse.LOSS, 0);
        x.key(0, 0);
        EDGES.due("40 grams without loss", x.melt(1), 39 + 40);
        EDGES.due("the box", x.count(7), 79);
        EDGES.due("in keys", x.count(6), 0);
    }

    private static void meltIsAChange() {
        EDGES.of("Promise 7", "Melts a key. This is a change.");
        PinHouse x = new PinHouse();
        x.key(9999, 0);
        x.take(0);
        x.melt(0);
        EDGES.due("undo", x.undo(), 2);
        EDGES.due("it is carried", x.ofKey(0, 2), 8);
        EDGES.due("its weight", x.ofKey(0, 1), 24);
        EDGES.due("lost", x.count(8), 0);
        EDGES.due("the box", x.count(7), 36);
    }
}
