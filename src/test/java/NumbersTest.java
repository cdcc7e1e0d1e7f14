/** Promises 14 to 16: ofDoor, ofKey, count. */
public final class NumbersTest {
    private static final Checks CHECKS = new Checks("NumbersTest");

    public static void main(String[] args) {
        ofDoor();
        ofKey();
        count();
        CHECKS.finish();
    }

    private static PinHouse house() {
        PinHouse x = new PinHouse();
        x.brass(200);
        x.door(5, 2, 1234, 1334);
        x.door(0, 1, 9876, 9876);
        x.door(6, 7, 1234, 1234);
        x.key(1234, 0);
        x.key(1334, 3);
        x.key(9876, 0);
        x.key(5555, 0);
        return x;
    }

    private static void ofDoor() {
        PinHouse x = house();
        x.plan(2, 0, 0);
        x.plan(0, 0, 1);
        int[] want = {5, 2, 1234, 1334, 15, 0, 3, 1};
        for (int what = 0; what < 8; what++) CHECKS.due("ofDoor(0, " + what + ")", x.ofDoor(0, what), want[what]);
        CHECKS.due("place of door 2", x.ofDoor(2, 7), 0);
        CHECKS.due("place of door 1", x.ofDoor(1, 7), -6);
        CHECKS.due("keys of door 2", x.ofDoor(2, 6), 1);
        CHECKS.due("weight of door 1", x.ofDoor(1, 4), 34);
        x.take(0);
        CHECKS.due("carried keys open too", x.ofDoor(0, 6), 3);
        x.melt(0);
        CHECKS.due("melted ones don't", x.ofDoor(0, 6), 2);
        x.cut(0, 5550, 5);
        CHECKS.due("keys after the cut", x.ofDoor(0, 6), 8);
        CHECKS.due("weight after the cut", x.ofDoor(0, 4), 23);
        CHECKS.due("cuts", x.ofDoor(0, 5), 1);
        CHECKS.due("what -1", x.ofDoor(0, -1), -2);
        CHECKS.due("what 8", x.ofDoor(0, 8), -2);
        CHECKS.due("door 3", x.ofDoor(3, 0), -1);
        CHECKS.due("door -1", x.ofDoor(-1, 0), -1);
        CHECKS.due("NO_SUCH before BAD_VALUE", x.ofDoor(3, 8), -1);
    }

    private static void ofKey() {
        PinHouse x = house();
        CHECKS.due("cuts", x.ofKey(1, 0), 1334);
        CHECKS.due("weight", x.ofKey(1, 1), 49);
        CHECKS.due("place", x.ofKey(1, 2), 3);
        CHECKS.due("doors", x.ofKey(1, 3), 1);
        CHECKS.due("doors of key 0", x.ofKey(0, 3), 5);
        CHECKS.due("doors of key 2", x.ofKey(2, 3), 2);
        CHECKS.due("doors of key 3", x.ofKey(3, 3), 0);
        x.take(2);
        CHECKS.due("carried", x.ofKey(2, 2), 8);
        x.melt(0);
        CHECKS.due("cuts of a melted one", x.ofKey(0, 0), 1234);
        CHECKS.due("its weight", x.ofKey(0, 1), 0);
        CHECKS.due("its place", x.ofKey(0, 2), 9);
        CHECKS.due("its doors", x.ofKey(0, 3), 0);
        CHECKS.due("what -1", x.ofKey(0, -1), -2);
        CHECKS.due("what 4", x.ofKey(0, 4), -2);
        CHECKS.due("key 4", x.ofKey(4, 0), -1);
        CHECKS.due("key -1", x.ofKey(-1, 0), -1);
        CHECKS.due("NO_SUCH before BAD_VALUE", x.ofKey(4, 4), -1);
    }

    private static void count() {
        PinHouse x = house();
        x.set(PinHouse.STEP, 3);
        x.set(PinHouse.LOSS, 20);
        x.set(PinHouse.BLANK, 70);
        x.take(2);
        x.take(0);
        x.go(1);
        x.melt(3);
        x.plan(0, 1, 1);
        Checks.write(x, "k12");
        // 200 and four blanks of 60; locks 15, 34 and 14; keys 50, 49 and 30; 8 of 40 lost.
        int[] want = {1, 5, 3, 4, 440, 63, 129, 240, 8, 1, 1, 3, 6, 3, 20, 70};
        for (int what = 0; what < 16; what++) CHECKS.due("count(" + what + ")", x.count(what), want[what]);
        CHECKS.due("count(-1)", x.count(-1), -2);
        CHECKS.due("count(16)", x.count(16), -2);
        CHECKS.due("far out", x.count(Integer.MIN_VALUE), -2);
        CHECKS.due("all the brass", x.count(5) + x.count(6) + x.count(7) + x.count(8), x.count(4));
    }
}
