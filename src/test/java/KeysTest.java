/** Promises 6 and 7: key, melt. */
public final class KeysTest {
    private static final Checks CHECKS = new Checks("KeysTest");

    public static void main(String[] args) {
        keys();
        keyErrors();
        steps();
        melting();
        meltedKeysAreNowhere();
        CHECKS.finish();
    }

    private static void keys() {
        PinHouse x = new PinHouse();
        CHECKS.due("key 0000", x.key(0, 0), 0);
        CHECKS.due("key 9999", x.key(9999, 7), 1);
        CHECKS.due("key 0123", x.key(123, 3), 2);
        CHECKS.due("box has what was filed", x.count(7), 42);
        CHECKS.due("came in by blanks", x.count(4), 180);
        CHECKS.due("in keys", x.count(6), 138);
        CHECKS.due("weight of 0000", x.ofKey(0, 1), 60);
        CHECKS.due("weight of 9999", x.ofKey(1, 1), 24);
        CHECKS.due("weight of 0123", x.ofKey(2, 1), 54);
        CHECKS.due("it is in its room", x.ofKey(1, 2), 7);
        CHECKS.due("not carried", x.count(1), 0);
        CHECKS.due("keys", x.count(3), 3);
        CHECKS.due("changes", x.count(12), 3);
        CHECKS.due("undo", x.undo(), 2);
        CHECKS.due("keys after undo", x.count(3), 2);
        CHECKS.due("box after undo", x.count(7), 36);
        CHECKS.due("came in after undo", x.count(4), 120);
    }

    private static void keyErrors() {
        PinHouse x = new PinHouse();
        CHECKS.due("cuts -1", x.key(-1, 0), -2);
        CHECKS.due("cuts 10000", x.key(10000, 0), -2);
        CHECKS.due("room -1", x.key(0, -1), -2);
        CHECKS.due("room 8", x.key(0, 8), -2);
        CHECKS.due("cannot be a key", x.key(600, 0), -5);
        CHECKS.due("BAD_VALUE before NOT_POSSIBLE", x.key(600, 8), -2);
        CHECKS.due("no change", x.count(12), 0);
        CHECKS.due("no brass", x.count(4), 0);
        for (int key = 0; key < 16; key++) CHECKS.due("key " + key, x.key(1111, 0), key);
        CHECKS.due("the 17th", x.key(1111, 0), -4);
        CHECKS.due("TOO_MANY before NOT_POSSIBLE", x.key(600, 0), -4);
        CHECKS.due("BAD_VALUE before TOO_MANY", x.key(1111, 8), -2);
        x.melt(3);
        CHECKS.due("melted ones count", x.key(1111, 0), -4);
        CHECKS.due("keys", x.count(3), 16);
    }

    private static void steps() {
        PinHouse x = new PinHouse();
        CHECKS.due("5 at the left", x.key(500, 0), 0);
        CHECKS.due("6 at the left", x.key(6000, 0), -5);
        CHECKS.due("6 in the middle", x.key(2800, 0), -5);
        CHECKS.due("6 at the right", x.key(6, 0), -5);
        CHECKS.due("6 down at the right", x.key(5560, 0), -5);
        CHECKS.due("far places may differ more", x.key(4837, 0), 1);
        x.set(PinHouse.STEP, 1);
        CHECKS.due("step 1", x.key(2323, 0), 2);
        CHECKS.due("step 0", x.key(3345, 0), 3);
        CHECKS.due("step 2", x.key(2324, 0), -5);
        CHECKS.due("step 2 at the left", x.key(5321, 0), -5);
        x.set(PinHouse.STEP, 9);
        CHECKS.due("all can be", x.key(9090, 0), 4);
    }

    private static void melting() {
        PinHouse x = new PinHouse();
        x.key(9999, 0);
        x.key(1, 0);
        CHECKS.due("24 less 3", x.melt(0), 58);
        CHECKS.due("lost", x.count(8), 3);
        CHECKS.due("melted", x.ofKey(0, 2), 9);
        CHECKS.due("weighs nothing", x.ofKey(0, 1), 0);
        CHECKS.due("its cuts", x.ofKey(0, 0), 9999);
        CHECKS.due("melted before", x.melt(0), -5);
        CHECKS.due("no such", x.melt(2), -1);
        CHECKS.due("no such", x.melt(-1), -1);
        CHECKS.due("keys that were cut", x.count(3), 2);
        CHECKS.due("in keys", x.count(6), 59);
        x.set(PinHouse.LOSS, 50);
        CHECKS.due("59 less 30", x.melt(1), 87);
        CHECKS.due("lost", x.count(8), 33);
        CHECKS.due("came in", x.count(4), 120);
        CHECKS.due("changes", x.count(12), 5);
        CHECKS.due("undo", x.undo(), 4);
        CHECKS.due("back in its room", x.ofKey(1, 2), 0);
        CHECKS.due("its weight", x.ofKey(1, 1), 59);
        x.set(PinHouse.LOSS, 0);
        CHECKS.due("without loss", x.melt(1), 117);
    }

    private static void meltedKeysAreNowhere() {
        PinHouse x = new PinHouse();
        x.brass(50);
        x.door(0, 1, 1234, 1234);
        x.key(1234, 0);
        x.take(0);
        CHECKS.due("a carried key can be melted", x.melt(0), 91);
        CHECKS.due("it is not carried", x.count(1), 0);
        CHECKS.due("it opens nothing", x.go(0), -5);
        CHECKS.due("it cannot be put down", x.putDown(0), -5);
        CHECKS.due("it cannot be taken", x.take(0), -5);
        CHECKS.due("keys that open the door", x.ofDoor(0, 6), 0);
        CHECKS.due("doors that it opens", x.ofKey(0, 3), 0);
        CHECKS.due("no way with it", x.reach(), 1);
        CHECKS.due("no way with it", x.doorsTo(1), -6);
    }
}
