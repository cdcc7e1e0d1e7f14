/** The boundary cases that promises 14 to 19 name: ofDoor, ofKey, count, opens, chanceKeys, justFor. */
public final class EdgesOfNumbersTest {
    private static final Edges EDGES = new Edges("EdgesOfNumbersTest");
    private static final int[] FAR = {Integer.MIN_VALUE, Integer.MIN_VALUE + 1, -65536, Integer.MAX_VALUE - 1, Integer.MAX_VALUE};

    public static void main(String[] args) {
        noSuchDoor();
        whatOfADoor();
        roomsAsTheyWereTold();
        howOftenCutAnew();
        keysThatWereNotMelted();
        placeInThePlan();
        noSuchKey();
        whatOfAKey();
        weightOfAMeltedKey();
        whereAKeyIs();
        doorsOfAKey();
        whatOfAll();
        numbersOfAll();
        doorsSoFar();
        changesThatCanBeUndone();
        noSuchDoorToOpen();
        oneOrZero();
        cutsThatOpen();
        whetherAKeyOrNot();
        doorOfTheSetIsNotThere();
        setBelowZero();
        allThatCanBeAKey();
        openAllDoors();
        leastRow();
        noOtherDoor();
        noRowJustFor();
        questionsChangeNothing();
        EDGES.finish();
    }

    private static PinHouse locks(int... rows) {
        PinHouse x = new PinHouse();
        x.brass(1000);
        for (int door = 0; door < rows.length / 2; door++) x.door(0, 1, rows[2 * door], rows[2 * door + 1]);
        return x;
    }

    private static void noSuchDoor() {
        EDGES.of("Promise 14", "NO_SUCH if there is no such door");
        for (int what = -1; what <= 8; what++) {
            int asked = what;
            EDGES.refused("ofDoor(-1, " + what + ")", -1, Edges::rich, x -> x.ofDoor(-1, asked));
            EDGES.refused("ofDoor(3, " + what + ")", -1, Edges::rich, x -> x.ofDoor(3, asked));
            EDGES.refused("ofDoor(10, " + what + ")", -1, Edges::fullOfDoors, x -> x.ofDoor(10, asked));
            EDGES.due("a new house, ofDoor(0, " + what + ")", new PinHouse().ofDoor(0, what), -1);
        }
        for (int far : FAR) EDGES.refused("ofDoor(" + far + ", 0)", -1, Edges::rich, x -> x.ofDoor(far, 0));
        EDGES.due("the tenth door", Edges.fullOfDoors().ofDoor(9, 0), 6);
    }

    private static void whatOfADoor() {
        EDGES.of("Promise 14", "BAD_VALUE if what is out of range");
        for (int what : new int[] {-1, 8, 9, -8}) EDGES.refused("ofDoor(0, " + what + ")", -2, Edges::rich, x -> x.ofDoor(0, what));
        for (int far : FAR) EDGES.refused("ofDoor(0, " + far + ")", -2, Edges::rich, x -> x.ofDoor(0, far));
        int[] want = {3, 4, 3333, 3333, 16, 0, 4, 0};
        for (int what = 0; what < 8; what++) {
            int asked = what;
            EDGES.asked("ofDoor(2, " + what + ")", want[what], Edges::rich, x -> x.ofDoor(2, asked));
        }
    }

    private static void roomsAsTheyWereTold() {
        EDGES.of("Promise 14", "0, 1 its rooms, as they were told");
        PinHouse x = locks();
        x.door(7, 0, 1, 2);
        x.key(1, 0);
        x.take(0);
        EDGES.due("the greater one first", x.ofDoor(0, 0), 7);
        EDGES.due("the less one then", x.ofDoor(0, 1), 0);
        x.go(0);
        EDGES.due("also from its other side", x.ofDoor(0, 0), 7);
    }

    private static void howOftenCutAnew() {
        EDGES.of("Promise 14", "5 how often its lock was cut anew");
        PinHouse x = locks(0, 0, 1, 1);
        EDGES.due("never", x.ofDoor(0, 5), 0);
        x.cut(0, 0, 0);
        x.cut(0, 0, 0);
        EDGES.due("by cut", x.ofDoor(0, 5), 2);
        EDGES.due("a refused cut", x.cut(0, 10000, 0), -2);
        EDGES.due("not by a refused cut", x.ofDoor(0, 5), 2);
        x.plan(0, 3, 3);
        EDGES.due("not by planning", x.ofDoor(0, 5), 2);
        x.carryPlan();
        EDGES.due("by the plan", x.ofDoor(0, 5), 3);
        Checks.write(x, "c0=1111/1112");
        x.carryOut();
        EDGES.due("by a text", x.ofDoor(0, 5), 4);
        EDGES.due("the other door", x.ofDoor(1, 5), 0);
        x.undo();
        EDGES.due("undone", x.ofDoor(0, 5), 3);
    }

    private static void keysThatWereNotMelted() {
        EDGES.of("Promise 14", "6 the set of keys that open it (of those that were not melted)");
        PinHouse x = locks(1111, 2222);
        for (int key = 0; key < 16; key++) x.key(key % 2 == 0 ? 1112 : 1113, key % 8);
        EDGES.due("every second one, wherever it is", x.ofDoor(0, 6), 0x5555);
        x.melt(0);
        x.melt(14);
        EDGES.due("without two", x.ofDoor(0, 6), 0x1554);
        x.melt(1);
        EDGES.due("one that did not open it", x.ofDoor(0, 6), 0x1554);
        x.take(8);
        EDGES.due("a carried one opens it", x.ofDoor(0, 6), 0x1554);
        x.undo();
        x.undo();
        x.undo();
        EDGES.due("melting undone", x.ofDoor(0, 6), 0x5554);
    }

    private static void placeInThePlan() {
        EDGES.of("Promise 14", "7 the place in the plan (NONE)");
        PinHouse x = Edges.fullPlan();
        int[] want = {1, -6, 0, -6, 2, 3, 4, 5, -6, -6};
        for (int door = 0; door < 10; door++) EDGES.due("door " + door, x.ofDoor(door, 7), want[door]);
        x.dropPlan();
        for (int door = 0; door < 10; door++) EDGES.due("dropped, door " + door, x.ofDoor(door, 7), -6);
    }

    private static void noSuchKey() {
        EDGES.of("Promise 15", "NO_SUCH if there is no such key");
        for (int what = -1; what <= 4; what++) {
            int asked = what;
            EDGES.refused("ofKey(-1, " + what + ")", -1, Edges::rich, x -> x.ofKey(-1, asked));
            EDGES.refused("ofKey(4, " + what + ")", -1, Edges::rich, x -> x.ofKey(4, asked));
            EDGES.refused("ofKey(16, " + what + ")", -1, Edges::fullOfKeys, x -> x.ofKey(16, asked));
            EDGES.due("a new house, ofKey(0, " + what + ")", new PinHouse().ofKey(0, what), -1);
        }
        for (int far : FAR) EDGES.refused("ofKey(" + far + ", 0)", -1, Edges::rich, x -> x.ofKey(far, 0));
        EDGES.due("the 16th key", Edges.fullOfKeys().ofKey(15, 2), 7);
    }

    private static void whatOfAKey() {
        EDGES.of("Promise 15", "BAD_VALUE if what is out of range");
        for (int what : new int[] {-1, 4, 5, -4}) EDGES.refused("ofKey(0, " + what + ")", -2, Edges::rich, x -> x.ofKey(0, what));
        for (int far : FAR) EDGES.refused("ofKey(0, " + far + ")", -2, Edges::rich, x -> x.ofKey(0, far));
        EDGES.refused("of a melted key", -2, Edges::rich, x -> x.ofKey(3, 4));
        int[] want = {2222, 52, 0, 2};
        for (int what = 0; what < 4; what++) {
            int asked = what;
            EDGES.asked("ofKey(1, " + what + ")", want[what], Edges::rich, x -> x.ofKey(1, asked));
        }
    }

    private static void weightOfAMeltedKey() {
        EDGES.of("Promise 15", "1 what it weighs (0 if it was melted)");
        PinHouse x = Edges.rich();
        EDGES.due("melted", x.ofKey(3, 1), 0);
        EDGES.due("its cuts stay", x.ofKey(3, 0), 4444);
        EDGES.due("carried", x.ofKey(0, 1), 56);
        x.melt(0);
        EDGES.due("melted", x.ofKey(0, 1), 0);
        x.undo();
        EDGES.due("undone", x.ofKey(0, 1), 56);
    }

    private static void whereAKeyIs() {
        EDGES.of("Promise 15", "2 where it is: a room, 8 if it is carried, 9 if it was melted");
        PinHouse x = Edges.rich();
        int[] want = {8, 0, 5, 9};
        for (int key = 0; key < 4; key++) EDGES.due("key " + key, x.ofKey(key, 2), want[key]);
        x.go(0);
        EDGES.due("a carried key comes along", x.ofKey(0, 2), 8);
        EDGES.due("a key that lies there stays", x.ofKey(1, 2), 0);
        x.putDown(0);
        EDGES.due("put down in room 1", x.ofKey(0, 2), 1);
        x.key(0, 7);
        EDGES.due("in the last room", x.ofKey(4, 2), 7);
    }

    private static void doorsOfAKey() {
        EDGES.of("Promise 15", "3 the set of doors that it opens (0 if it was melted)");
        PinHouse x = locks(1111, 2222, 0, 0, 1112, 1112, 2, 2, 3, 3, 4, 4, 5, 5, 6, 6, 7, 7, 2112, 1111);
        x.key(1112, 5);
        x.key(3333, 0);
        EDGES.due("the first, the third and the tenth door", x.ofKey(0, 3), 1 + 4 + 512);
        EDGES.due("no door", x.ofKey(1, 3), 0);
        x.melt(0);
        EDGES.due("melted", x.ofKey(0, 3), 0);
        x.undo();
        x.cut(0, 3333, 3333);
        EDGES.due("a lock that was cut anew", x.ofKey(0, 3), 4 + 512);
        EDGES.due("a lock that was cut anew", x.ofKey(1, 3), 1);
    }

    private static void whatOfAll() {
        EDGES.of("Promise 16", "BAD_VALUE if what is out of range");
        for (int what : new int[] {-1, 16, 17, -16}) EDGES.refused("count(" + what + ")", -2, Edges::rich, x -> x.count(what));
        for (int far : FAR) EDGES.refused("count(" + far + ")", -2, Edges::rich, x -> x.count(far));
    }

    private static void numbersOfAll() {
        EDGES.of("Promise 16", "Returns a number about all");
        // Keys of 56, 52 and 48 grams; 5 of 44 lost.
        int[] want = {0, 1, 3, 4, 360, 37, 156, 162, 5, 2, 0, 8, 6, 5, 20, 60};
        for (int what = 0; what < 16; what++) {
            int asked = what;
            EDGES.asked("count(" + what + ")", want[what], Edges::rich, x -> x.count(asked));
        }
        EDGES.due("all keys carried", carryingAll().count(1), 65535);
        EDGES.due("the most in the pad", fullPad().count(11), 80);
    }

    private static PinHouse carryingAll() {
        PinHouse x = new PinHouse();
        for (int key = 0; key < 16; key++) x.key(0, 0);
        for (int key = 0; key < 16; key++) x.take(key);
        return x;
    }

    private static PinHouse fullPad() {
        PinHouse x = new PinHouse();
        Checks.write(x, "~".repeat(80));
        return x;
    }

    private static void doorsSoFar() {
        EDGES.of("Promise 16", "10 doors through which the walker went so far");
        PinHouse x = locks(0, 0, 1, 1);
        x.key(0, 0);
        x.take(0);
        EDGES.due("none", x.count(10), 0);
        x.go(0);
        x.go(0);
        x.go(0);
        EDGES.due("the same door three times", x.count(10), 3);
        EDGES.due("a door that is shut", x.go(1), -5);
        EDGES.due("not by a refused call", x.count(10), 3);
        Checks.write(x, "g0");
        x.carryOut();
        EDGES.due("by a text, too", x.count(10), 4);
        x.undo();
        EDGES.due("undone", x.count(10), 3);
    }

    private static void changesThatCanBeUndone() {
        EDGES.of("Promise 16", "12 how many changes can be undone");
        PinHouse x = new PinHouse();
        EDGES.due("none", x.count(12), 0);
        for (int change = 1; change <= 8; change++) {
            x.brass(1);
            EDGES.due("after " + change, x.count(12), Math.min(6, change));
        }
        for (int left = 5; left >= 0; left--) {
            x.undo();
            EDGES.due("then", x.count(12), left);
        }
        x.undo();
        EDGES.due("not less than none", x.count(12), 0);
    }

    private static void noSuchDoorToOpen() {
        EDGES.of("Promise 17", "NO_SUCH if there is no such door");
        EDGES.refused("before the first door", -1, Edges::rich, x -> x.opens(0, -1));
        EDGES.refused("after the last door", -1, Edges::rich, x -> x.opens(0, 3));
        EDGES.refused("without a door", -1, PinHouse::new, x -> x.opens(0, 0));
        EDGES.refused("an 11th door", -1, Edges::fullOfDoors, x -> x.opens(0, 10));
        for (int far : FAR) EDGES.refused("door " + far, -1, Edges::rich, x -> x.opens(0, far));
        EDGES.due("the tenth door", Edges.fullOfDoors().opens(0, 9), 1);
    }

    private static void oneOrZero() {
        EDGES.of("Promise 17", "Returns 1 or 0");
        PinHouse x = locks(1122, 3344, 3344, 1122);
        int many = 0;
        for (int cuts : new int[] {1122, 3344, 1144, 3322, 1324, 3142}) many += x.opens(cuts, 0) + x.opens(cuts, 1);
        EDGES.due("six rows that open both doors", many, 12);
        many = 0;
        for (int cuts : new int[] {1121, 3444, 2144, 3332, 0, 9999}) many += x.opens(cuts, 0) + x.opens(cuts, 1);
        EDGES.due("six rows that open none", many, 0);
    }

    private static void cutsThatOpen() {
        EDGES.of("Promise 17", "BAD_VALUE if cuts is out of range");
        for (int cuts : new int[] {-1, 10000, -1111, 11111, 21111}) {
            EDGES.refused("opens(" + cuts + ", 0)", -2, Edges::rich, x -> x.opens(cuts, 0));
        }
        for (int far : FAR) EDGES.refused("opens(" + far + ", 0)", -2, Edges::rich, x -> x.opens(far, 0));
        PinHouse x = locks(0, 9999);
        EDGES.due("0", x.opens(0, 0), 1);
        EDGES.due("9999", x.opens(9999, 0), 1);
        EDGES.due("1", x.opens(1, 0), 0);
    }

    private static void whetherAKeyOrNot() {
        EDGES.of("Promise 17", "Tells whether a key with such cuts would open a door (whether the cuts can be a key or not)");
        PinHouse x = locks(9090, 909);
        x.set(PinHouse.STEP, 1);
        EDGES.due("cuts that can't be a key", x.opens(9090, 0), 1);
        EDGES.due("cuts that can", x.opens(9999, 0), 1);
        EDGES.due("cuts that don't open it", x.opens(9091, 0), 0);
        EDGES.due("no key was cut", x.count(3), 0);
    }

    private static void doorOfTheSetIsNotThere() {
        EDGES.of("Promise 18 and 19", "NO_SUCH if a door of the set is not there");
        for (int doors : new int[] {8, 9, 15, 16, 512, 1023, 1024, 1 << 30, Integer.MAX_VALUE}) {
            EDGES.refused("chanceKeys(" + doors + ")", -1, Edges::rich, x -> x.chanceKeys(doors));
            EDGES.refused("justFor(" + doors + ")", -1, Edges::rich, x -> x.justFor(doors));
        }
        EDGES.refused("chanceKeys(1) without a door", -1, PinHouse::new, x -> x.chanceKeys(1));
        EDGES.refused("justFor(1) without a door", -1, PinHouse::new, x -> x.justFor(1));
        EDGES.refused("chanceKeys(1024) of ten doors", -1, Edges::fullOfDoors, x -> x.chanceKeys(1024));
        EDGES.refused("justFor(1024) of ten doors", -1, Edges::fullOfDoors, x -> x.justFor(1024));
        PinHouse x = new PinHouse();
        x.brass(40);
        for (int door = 0; door < 10; door++) x.door(0, 1, 0, 0);
        EDGES.due("chanceKeys of all ten doors", x.chanceKeys(1023), 1);
        EDGES.due("justFor all ten doors", x.justFor(1023), 0);
    }

    private static void setBelowZero() {
        EDGES.of("Promise 18 and 19", "or doors is below 0");
        for (int doors : new int[] {-1, -2, -1024, Integer.MIN_VALUE, Integer.MIN_VALUE + 1}) {
            EDGES.refused("chanceKeys(" + doors + ")", -1, Edges::fullOfDoors, x -> x.chanceKeys(doors));
            EDGES.refused("justFor(" + doors + ")", -1, Edges::fullOfDoors, x -> x.justFor(doors));
            EDGES.due("a new house", new PinHouse().chanceKeys(doors), -1);
            EDGES.due("a new house", new PinHouse().justFor(doors), -1);
        }
    }

    private static void allThatCanBeAKey() {
        EDGES.of("Promise 18", "Returns how many (of all that can be a key, if the set is 0)");
        // A row by STEP s: 10 depths at first, and each next one within s.
        for (int step = 1; step <= 9; step++) {
            PinHouse x = new PinHouse();
            x.set(PinHouse.STEP, step);
            EDGES.due("STEP " + step, x.chanceKeys(0), rowsByStep(step));
        }
        PinHouse x = new PinHouse();
        x.set(PinHouse.STEP, 9);
        EDGES.due("all rows", x.chanceKeys(0), 10000);
        EDGES.due("doors that are there change nothing by it", locks(0, 0, 9999, 9999).chanceKeys(0), rowsByStep(5));
    }

    private static int rowsByStep(int step) {
        int many = 0;
        for (int row = 0; row <= 9999; row++) {
            int a = row / 1000;
            int b = row / 100 % 10;
            int c = row / 10 % 10;
            int d = row % 10;
            if (Math.abs(a - b) <= step && Math.abs(b - c) <= step && Math.abs(c - d) <= step) many++;
        }
        return many;
    }

    private static void openAllDoors() {
        EDGES.of("Promise 18", "Counts the rows of cuts that can be a key, and open all doors of a set");
        PinHouse x = locks(1234, 5678, 1674, 5238, 1234, 1234, 9090, 909);
        x.set(PinHouse.STEP, 9);
        EDGES.due("one door", x.chanceKeys(1), 16);
        EDGES.due("two doors by the same depths", x.chanceKeys(3), 16);
        EDGES.due("three doors", x.chanceKeys(7), 1);
        EDGES.due("doors that no key opens together", x.chanceKeys(9), 0);
        EDGES.due("one more door than the others", x.chanceKeys(8), 16);
        x.set(PinHouse.STEP, 1);
        EDGES.due("by STEP 1", x.chanceKeys(1), 2);
        EDGES.due("by STEP 1, depths 0 and 9", x.chanceKeys(8), 2);
        for (int unit = 1; unit <= 1000; unit *= 10) {
            EDGES.due("two depths at the place of " + unit, locks(4444, 4444 + unit).chanceKeys(1), 2);
            EDGES.due("one depth at the place of " + unit, locks(4444, 5555 - unit).chanceKeys(1), 8);
        }
    }

    private static void leastRow() {
        EDGES.of("Promise 19", "Finds the least row of cuts that can be a key, opens all doors of a set");
        EDGES.due("the least row of all", new PinHouse().justFor(0), 0);
        EDGES.due("the greatest row", locks(9999, 9999).justFor(1), 9999);
        EDGES.due("zeros in front", locks(9, 1).justFor(1), 1);
        EDGES.due("the least depth of each place", locks(5274, 3456).justFor(1), 3254);
        PinHouse x = locks(1999, 9111);
        EDGES.due("1111 of 1999/9111", x.justFor(1), 1111);
        x.cut(0, 1888, 8222);
        EDGES.due("1222 of 1888/8222", x.justFor(1), 1222);
        x.cut(0, 1888, 8722);
        EDGES.due("8722 of 1888/8722, for 1 and 7 differ by 6", x.justFor(1), 8722);
    }

    private static void noOtherDoor() {
        EDGES.of("Promise 19", "and opens no other door");
        PinHouse x = locks(0, 1111, 0, 0);
        EDGES.due("0000 opens the other door, 0001 does not", x.justFor(1), 1);
        EDGES.due("both doors", x.justFor(3), 0);
        EDGES.due("no door", x.justFor(0), 2);
        EDGES.due("each row that opens door 1 opens door 0", x.justFor(2), -6);
        PinHouse y = locks(0, 1111, 0, 1222, 0, 2111);
        EDGES.due("neither of two others", y.justFor(1), 1001);
        EDGES.due("a door in the middle", y.justFor(2), 2);
        EDGES.due("the first and the last", y.justFor(5), 1);
    }

    private static void noRowJustFor() {
        EDGES.of("Promise 19", "NONE if there is none");
        EDGES.due("a lock to which no key fits", locks(909, 909).justFor(1), -6);
        EDGES.due("two doors with no row in common", locks(1111, 1111, 2222, 2222).justFor(3), -6);
        EDGES.due("two doors that are alike", locks(1111, 1111, 1111, 1111).justFor(1), -6);
        EDGES.due("both of them", locks(1111, 1111, 1111, 1111).justFor(3), 1111);
        PinHouse x = locks(606, 606);
        EDGES.due("a step of 6", x.justFor(1), -6);
        x.set(PinHouse.STEP, 6);
        EDGES.due("by STEP 6", x.justFor(1), 606);
        PinHouse y = locks(0, 1111);
        y.set(PinHouse.STEP, 1);
        EDGES.due("there is one that opens no door, by STEP 1", y.justFor(0), 12);
    }

    private static void questionsChangeNothing() {
        EDGES.of("what if", "nothing changes");
        EDGES.asked("opens(1111, 0)", 1, Edges::rich, x -> x.opens(1111, 0));
        EDGES.asked("opens(909, 0)", 0, Edges::rich, x -> x.opens(909, 0));
        EDGES.asked("chanceKeys(1)", 2, Edges::rich, x -> x.chanceKeys(1));
        EDGES.asked("chanceKeys(7)", 0, Edges::rich, x -> x.chanceKeys(7));
        EDGES.asked("justFor(2)", 2222, Edges::rich, x -> x.justFor(2));
        EDGES.asked("justFor(3)", -6, Edges::rich, x -> x.justFor(3));
    }
}
