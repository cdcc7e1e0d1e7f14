/** Promises 1 to 5: a new object, set, brass, door, cut. */
public final class SettingUpTest {
    private static final Checks CHECKS = new Checks("SettingUpTest");

    public static void main(String[] args) {
        newObject();
        settings();
        keysStayWhenSettingsChange();
        brass();
        doors();
        doorErrors();
        doorLimits();
        cuts();
        cutErrors();
        meltedTogether();
        lossIsRoundedUp();
        CHECKS.finish();
    }

    private static void newObject() {
        PinHouse x = new PinHouse();
        for (int what = 0; what <= 12; what++) CHECKS.due("new count(" + what + ")", x.count(what), 0);
        CHECKS.due("new STEP", x.count(13), 5);
        CHECKS.due("new LOSS", x.count(14), 10);
        CHECKS.due("new BLANK", x.count(15), 60);
        CHECKS.due("new ofDoor", x.ofDoor(0, 0), -1);
        CHECKS.due("new ofKey", x.ofKey(0, 0), -1);
        CHECKS.due("new undo", x.undo(), -5);
        CHECKS.due("new restore(0)", x.restore(0), -5);
        CHECKS.due("new restore(1)", x.restore(1), -5);
        CHECKS.due("new reach", x.reach(), 1);
        CHECKS.due("new fault", x.fault(), 0);
        CHECKS.due("new planOrders", x.planOrders(), 1);
        x.brass(7);
        CHECKS.due("another object's box", new PinHouse().count(7), 0);
    }

    private static void settings() {
        PinHouse x = new PinHouse();
        CHECKS.due("set STEP 1", x.set(PinHouse.STEP, 1), 5);
        CHECKS.due("set STEP 9", x.set(PinHouse.STEP, 9), 1);
        CHECKS.due("set STEP 0", x.set(PinHouse.STEP, 0), -2);
        CHECKS.due("set STEP 10", x.set(PinHouse.STEP, 10), -2);
        CHECKS.due("STEP then", x.count(13), 9);
        CHECKS.due("set LOSS 0", x.set(PinHouse.LOSS, 0), 10);
        CHECKS.due("set LOSS 50", x.set(PinHouse.LOSS, 50), 0);
        CHECKS.due("set LOSS 51", x.set(PinHouse.LOSS, 51), -2);
        CHECKS.due("set LOSS -1", x.set(PinHouse.LOSS, -1), -2);
        CHECKS.due("LOSS then", x.count(14), 50);
        CHECKS.due("set BLANK 40", x.set(PinHouse.BLANK, 40), 60);
        CHECKS.due("changes so far", x.count(12), 5);
        CHECKS.due("set BLANK 40 again", x.set(PinHouse.BLANK, 40), 40);
        CHECKS.due("the same value is a change", x.count(12), 6);
        CHECKS.due("set BLANK 90", x.set(PinHouse.BLANK, 90), 40);
        CHECKS.due("set BLANK 39", x.set(PinHouse.BLANK, 39), -2);
        CHECKS.due("set BLANK 91", x.set(PinHouse.BLANK, 91), -2);
        CHECKS.due("BLANK then", x.count(15), 90);
        CHECKS.due("set 3", x.set(3, 5), -2);
        CHECKS.due("set -1", x.set(-1, 5), -2);
        CHECKS.due("set far out", x.set(Integer.MIN_VALUE, Integer.MAX_VALUE), -2);
        CHECKS.due("undo of set", x.undo(), 5);
        CHECKS.due("BLANK after undo", x.count(15), 40);
    }

    private static void keysStayWhenSettingsChange() {
        PinHouse x = new PinHouse();
        x.set(PinHouse.STEP, 9);
        CHECKS.due("key 0909", x.key(909, 2), 0);
        x.set(PinHouse.STEP, 1);
        x.set(PinHouse.BLANK, 90);
        CHECKS.due("cuts stay", x.ofKey(0, 0), 909);
        CHECKS.due("weight stays", x.ofKey(0, 1), 42);
        CHECKS.due("place stays", x.ofKey(0, 2), 2);
        CHECKS.due("brass that came in stays", x.count(4), 60);
        CHECKS.due("a new key weighs from the new blank", x.ofKey(x.key(0, 0), 1), 90);
    }

    private static void brass() {
        PinHouse x = new PinHouse();
        CHECKS.due("brass 1", x.brass(1), 1);
        CHECKS.due("brass 1000", x.brass(1000), 1001);
        CHECKS.due("brass 0", x.brass(0), -2);
        CHECKS.due("brass -1", x.brass(-1), -2);
        CHECKS.due("brass 1001", x.brass(1001), -2);
        CHECKS.due("came in", x.count(4), 1001);
        CHECKS.due("box", x.count(7), 1001);
        CHECKS.due("changes", x.count(12), 2);
        CHECKS.due("undo", x.undo(), 1);
        CHECKS.due("box after undo", x.count(7), 1);
        CHECKS.due("came in after undo", x.count(4), 1);
    }

    private static void doors() {
        PinHouse x = new PinHouse();
        x.brass(100);
        CHECKS.due("door 0", x.door(0, 7, 0, 0), 0);
        CHECKS.due("its weight", x.ofDoor(0, 4), 4);
        CHECKS.due("door 1", x.door(7, 0, 9000, 9), 1);
        CHECKS.due("its weight", x.ofDoor(1, 4), 15);
        CHECKS.due("one room", x.ofDoor(1, 0), 7);
        CHECKS.due("other room", x.ofDoor(1, 1), 0);
        CHECKS.due("first row", x.ofDoor(1, 2), 9000);
        CHECKS.due("second row", x.ofDoor(1, 3), 9);
        CHECKS.due("never cut anew", x.ofDoor(1, 5), 0);
        CHECKS.due("door 2", x.door(3, 4, 9999, 0), 2);
        CHECKS.due("its weight", x.ofDoor(2, 4), 44);
        CHECKS.due("box", x.count(7), 37);
        CHECKS.due("in locks", x.count(5), 63);
        CHECKS.due("lost", x.count(8), 0);
        CHECKS.due("doors", x.count(2), 3);
        CHECKS.due("changes", x.count(12), 4);
        CHECKS.due("undo", x.undo(), 3);
        CHECKS.due("doors after undo", x.count(2), 2);
        CHECKS.due("box after undo", x.count(7), 81);
        CHECKS.due("no door 2", x.ofDoor(2, 0), -1);
    }

    private static void doorErrors() {
        PinHouse x = new PinHouse();
        x.brass(8);
        CHECKS.due("one -1", x.door(-1, 0, 0, 0), -2);
        CHECKS.due("one 8", x.door(8, 0, 0, 0), -2);
        CHECKS.due("other -1", x.door(0, -1, 0, 0), -2);
        CHECKS.due("other 8", x.door(0, 8, 0, 0), -2);
        CHECKS.due("the same room", x.door(3, 3, 0, 0), -2);
        CHECKS.due("first -1", x.door(0, 1, -1, 0), -2);
        CHECKS.due("first 10000", x.door(0, 1, 10000, 0), -2);
        CHECKS.due("second -1", x.door(0, 1, 0, -1), -2);
        CHECKS.due("second 10000", x.door(0, 1, 0, 10000), -2);
        CHECKS.due("one gram short", x.door(0, 1, 5, 5), -5);
        CHECKS.due("nothing changed", x.count(7), 8);
        CHECKS.due("no change", x.count(12), 1);
        CHECKS.due("just enough", x.door(0, 1, 1003, 1003), 0);
        CHECKS.due("box", x.count(7), 0);
        CHECKS.due("BAD_VALUE before NOT_POSSIBLE", x.door(0, 0, 0, 0), -2);
        CHECKS.due("NOT_POSSIBLE", x.door(0, 1, 0, 0), -5);
    }

    private static void doorLimits() {
        PinHouse x = new PinHouse();
        x.brass(40);
        for (int door = 0; door < 10; door++) CHECKS.due("door " + door, x.door(door % 8, (door + 1) % 8, 0, 0), door);
        CHECKS.due("box", x.count(7), 0);
        CHECKS.due("TOO_MANY before NOT_POSSIBLE", x.door(0, 1, 0, 0), -4);
        CHECKS.due("BAD_VALUE before TOO_MANY", x.door(0, 1, 0, 10000), -2);
        x.brass(100);
        CHECKS.due("the 11th", x.door(0, 1, 0, 0), -4);
        CHECKS.due("doors", x.count(2), 10);
    }

    private static void cuts() {
        PinHouse x = new PinHouse();
        x.brass(40);
        x.door(0, 1, 9999, 9999);
        CHECKS.due("one gram short", x.cut(0, 8888, 8889), -5);
        CHECKS.due("rows stay", x.ofDoor(0, 2), 9999);
        CHECKS.due("nothing lost", x.count(8), 0);
        CHECKS.due("just enough", x.cut(0, 8888, 8888), 0);
        CHECKS.due("lost", x.count(8), 4);
        CHECKS.due("in locks", x.count(5), 36);
        CHECKS.due("cut anew once", x.ofDoor(0, 5), 1);
        CHECKS.due("less", x.cut(0, 1000, 1), 25);
        CHECKS.due("first row", x.ofDoor(0, 2), 1000);
        CHECKS.due("second row", x.ofDoor(0, 3), 1);
        CHECKS.due("lost, 36 * 10 / 100 rounded up", x.count(8), 8);
        CHECKS.due("cut anew twice", x.ofDoor(0, 5), 2);
        CHECKS.due("came in", x.count(4), 40);
        x.set(PinHouse.LOSS, 0);
        CHECKS.due("the same rows without loss", x.cut(0, 1000, 1), 25);
        CHECKS.due("cut anew three times", x.ofDoor(0, 5), 3);
        CHECKS.due("changes", x.count(12), 6);
        CHECKS.due("undo", x.undo(), 5);
        CHECKS.due("cut anew twice again", x.ofDoor(0, 5), 2);
    }

    private static void cutErrors() {
        PinHouse x = new PinHouse();
        x.brass(4);
        x.door(0, 1, 0, 0);
        CHECKS.due("no door 1", x.cut(1, 0, 0), -1);
        CHECKS.due("no door -1", x.cut(-1, 0, 0), -1);
        CHECKS.due("NO_SUCH before BAD_VALUE", x.cut(1, -1, 10000), -1);
        CHECKS.due("first -1", x.cut(0, -1, 0), -2);
        CHECKS.due("first 10000", x.cut(0, 10000, 0), -2);
        CHECKS.due("second -1", x.cut(0, 0, -1), -2);
        CHECKS.due("second 10000", x.cut(0, 0, 10000), -2);
        CHECKS.due("a gram is lost", x.cut(0, 0, 0), -5);
        CHECKS.due("changes", x.count(12), 2);
        CHECKS.due("never cut anew", x.ofDoor(0, 5), 0);
    }

    private static void lossIsRoundedUp() {
        // 7 grams by 43 percent: 3.01; by 42: 2.94; by 50: 3.5; 20 grams by 50 percent: 10.
        int[][] due = {{3, 43, 4}, {3, 42, 3}, {3, 50, 4}, {9070, 50, 10}, {9070, 49, 10}, {9070, 46, 10}, {9070, 45, 9}};
        for (int[] one : due) {
            PinHouse x = new PinHouse();
            x.brass(100);
            x.set(PinHouse.LOSS, one[1]);
            x.door(0, 1, one[0], one[0]);
            x.cut(0, 0, 0);
            CHECKS.due("lost of row " + one[0] + " by " + one[1] + " percent", x.count(8), one[2]);
        }
    }

    private static void meltedTogether() {
        PinHouse x = new PinHouse();
        x.set(PinHouse.LOSS, 1);
        x.brass(50);
        x.door(0, 1, 1111, 1111);
        CHECKS.due("1 percent of 8, rounded up once", x.cut(0, 0, 0), 45);
        CHECKS.due("lost", x.count(8), 1);
        x.set(PinHouse.LOSS, 50);
        CHECKS.due("50 percent of 4, not rounded", x.cut(0, 0, 0), 43);
        CHECKS.due("lost", x.count(8), 3);
        CHECKS.due("all the brass", x.count(5) + x.count(6) + x.count(7) + x.count(8), x.count(4));
    }
}
