/** The boundary cases that the terms name: settings, cuts, doors and locks, keys, brass, the plan, the walker. */
public final class EdgesOfTermsTest {
    private static final Edges EDGES = new Edges("EdgesOfTermsTest");

    public static void main(String[] args) {
        firstErrorThatApplies();
        errorsChangeNothing();
        noneIsNoError();
        divisionsAreRoundedDown();
        numberedFromZero();
        setsAreMasks();
        firstValues();
        rowsFromZeroTo9999();
        zerosInFront();
        stepAtMost();
        sideBySideOnly();
        eightRooms();
        upToTenDoors();
        twoDifferentRooms();
        theSameRow();
        eachPlaceOpens();
        oneGramAndTheDepth();
        oneGramMoreIfDifferent();
        allThatWereEverCut();
        whereAKeyCanBe();
        blankAsItWas();
        brassComesIn();
        lockFromTheBox();
        depthsGoToTheBox();
        lossOfAll();
        lossRoundedUp();
        restGoesToTheBox();
        brassIsSomewhere();
        meltedFirst();
        meltedTogether();
        enoughThen();
        nothingChanges();
        upToSixCuts();
        doorOnceInPlan();
        oneAfterTheOther();
        comparedByPlaces();
        roomZeroAtFirst();
        keysThatAreThere();
        doorOfThisRoom();
        carriedKeyOpens();
        usedFor512Calls();
        EDGES.finish();
    }

    private static PinHouse house(int loss, int grams) {
        PinHouse x = new PinHouse();
        x.set(PinHouse.LOSS, loss);
        x.brass(grams);
        return x;
    }

    private static void firstErrorThatApplies() {
        EDGES.of("CONVENTIONS", "it names its errors in the order in which they are checked, and the first one that applies is returned");
        EDGES.refused("door: BAD_VALUE before TOO_MANY", -2, Edges::fullOfDoors, x -> x.door(3, 3, 0, 0));
        EDGES.refused("door: BAD_VALUE before NOT_POSSIBLE", -2, Edges::poor, x -> x.door(0, 1, 0, 10000));
        EDGES.refused("door: TOO_MANY before NOT_POSSIBLE", -4, EdgesOfTermsTest::tenDoorsAndNoBrass, x -> x.door(0, 1, 0, 0));
        EDGES.refused("cut: NO_SUCH before BAD_VALUE", -1, Edges::rich, x -> x.cut(3, -1, 0));
        EDGES.refused("cut: NO_SUCH before NOT_POSSIBLE", -1, Edges::poor, x -> x.cut(7, 9999, 0));
        EDGES.refused("cut: BAD_VALUE before NOT_POSSIBLE", -2, Edges::poor, x -> x.cut(0, 9999, 10000));
        EDGES.refused("key: BAD_VALUE before TOO_MANY", -2, Edges::fullOfKeys, x -> x.key(0, 8));
        EDGES.refused("key: BAD_VALUE before NOT_POSSIBLE", -2, Edges::rich, x -> x.key(909, -1));
        EDGES.refused("key: TOO_MANY before NOT_POSSIBLE", -4, Edges::fullOfKeys, x -> x.key(909, 0));
        EDGES.refused("plan: NO_SUCH before BAD_VALUE", -1, Edges::rich, x -> x.plan(3, 0, -1));
        EDGES.refused("plan: NO_SUCH before TOO_MANY", -1, Edges::fullPlan, x -> x.plan(10, 0, 0));
        EDGES.refused("plan: BAD_VALUE before TOO_MANY", -2, Edges::fullPlan, x -> x.plan(9, 10000, 0));
        EDGES.refused("plan: BAD_VALUE before NOT_POSSIBLE", -2, Edges::rich, x -> x.plan(0, -1, 0));
        EDGES.refused("plan: TOO_MANY before NOT_POSSIBLE", -4, Edges::fullPlan, x -> x.plan(0, 0, 0));
        EDGES.refused("ofDoor: NO_SUCH before BAD_VALUE", -1, Edges::rich, x -> x.ofDoor(3, 8));
        EDGES.refused("ofKey: NO_SUCH before BAD_VALUE", -1, Edges::rich, x -> x.ofKey(4, 4));
        EDGES.refused("opens: NO_SUCH before BAD_VALUE", -1, Edges::rich, x -> x.opens(10000, 3));
        EDGES.refused("put: BAD_VALUE before TOO_MANY", -2, EdgesOfTermsTest::fullPad, x -> x.put(32));
        EDGES.refused("restore: BAD_VALUE before NOT_POSSIBLE", -2, PinHouse::new, x -> x.restore(2));
    }

    private static PinHouse tenDoorsAndNoBrass() {
        PinHouse x = new PinHouse();
        x.brass(40);
        while (x.count(2) < 10) x.door(0, 1, 0, 0);
        return x;
    }

    private static PinHouse fullPad() {
        PinHouse x = Edges.rich();
        Checks.write(x, ";b3".repeat(24));
        return x;
    }

    private static void errorsChangeNothing() {
        EDGES.of("CONVENTIONS", "A call that returns an error changes nothing");
        EDGES.refused("set", -2, Edges::rich, x -> x.set(PinHouse.STEP, 0));
        EDGES.refused("brass", -2, Edges::rich, x -> x.brass(1001));
        EDGES.refused("door", -2, Edges::rich, x -> x.door(1, 1, 0, 0));
        EDGES.refused("cut", -5, Edges::poor, x -> x.cut(1, 9999, 9999));
        EDGES.refused("key", -5, Edges::rich, x -> x.key(60, 0));
        EDGES.refused("melt", -5, Edges::rich, x -> x.melt(3));
        EDGES.refused("take", -5, Edges::rich, x -> x.take(2));
        EDGES.refused("putDown", -5, Edges::rich, x -> x.putDown(2));
        EDGES.refused("go", -5, Edges::rich, x -> x.go(2));
        EDGES.refused("plan", -5, Edges::rich, x -> x.plan(2, 1, 1));
        EDGES.refused("carryPlan", -5, Edges::poor, PinHouse::carryPlan);
        EDGES.refused("put", -2, Edges::rich, x -> x.put(' '));
        EDGES.refused("put", -4, EdgesOfTermsTest::fullPad, x -> x.put('!'));
        EDGES.refused("carryOut", -3, EdgesOfTermsTest::wrongPad, PinHouse::carryOut);
        EDGES.refused("undo", -5, PinHouse::new, PinHouse::undo);
        EDGES.refused("save", -2, Edges::rich, x -> x.save(2));
        EDGES.refused("restore", -2, Edges::rich, x -> x.restore(-1));
        EDGES.refused("restore", -5, EdgesOfTermsTest::tenDoorsAndNoBrass, x -> x.restore(0));
    }

    private static PinHouse wrongPad() {
        PinHouse x = Edges.rich();
        x.put(';');
        return x;
    }

    private static void noneIsNoError() {
        EDGES.of("CONVENTIONS", "NONE (-6) is not an error; it is returned only if no error applies");
        PinHouse x = new PinHouse();
        EDGES.due("planOrder(5) of an empty plan", x.planOrder(5), -6);
        EDGES.due("planOrder(6) of an empty plan", x.planOrder(6), -2);
        EDGES.due("doorsTo(7) without a door", x.doorsTo(7), -6);
        EDGES.due("doorsTo(8) without a door", x.doorsTo(8), -2);
        EDGES.due("ofDoor(0, 7) without a door", x.ofDoor(0, 7), -1);
        EDGES.due("justFor(1) without a door", x.justFor(1), -1);
        x.brass(22);
        x.door(0, 1, 909, 909);
        EDGES.due("justFor(1) of a door to which no key fits", x.justFor(1), -6);
        EDGES.due("justFor(3) with a door that is not there", x.justFor(3), -1);
        EDGES.due("ofDoor(0, 7) of a door that is not planned", x.ofDoor(0, 7), -6);
        EDGES.due("ofDoor(1, 7) of a door that is not there", x.ofDoor(1, 7), -1);
        EDGES.due("what can be undone: NONE is no change", x.count(12), 2);
    }

    private static void divisionsAreRoundedDown() {
        EDGES.of("CONVENTIONS", "Divisions are rounded down, unless \"rounded up\" is written");
        // 44 grams of a key by 50 percent are 22, by 25 percent 11: what divides evenly is rounded neither way.
        for (int loss : new int[] {0, 25, 50}) {
            PinHouse x = house(loss, 1);
            x.key(4444, 0);
            x.melt(0);
            EDGES.due("lost of 44 grams by " + loss + " percent", x.count(8), 44 * loss / 100);
        }
    }

    private static void numberedFromZero() {
        EDGES.of("CONVENTIONS", "Everything is numbered from 0, in the order in which it came to be");
        PinHouse x = house(0, 100);
        EDGES.due("the first door", x.door(7, 6, 5, 5), 0);
        EDGES.due("the second door", x.door(0, 1, 0, 0), 1);
        EDGES.due("the first key", x.key(5, 7), 0);
        EDGES.due("the second key", x.key(0, 0), 1);
        EDGES.due("rooms of door 0", x.ofDoor(0, 0) * 10 + x.ofDoor(0, 1), 76);
        EDGES.due("cuts of key 0", x.ofKey(0, 0), 5);
        x.melt(0);
        EDGES.due("a key after one that was melted", x.key(1, 0), 2);
        x.undo();
        EDGES.due("a key after one that was undone", x.key(2, 0), 2);
        x.plan(1, 0, 0);
        x.plan(0, 0, 0);
        EDGES.due("the place of the cut that was planned first", x.ofDoor(1, 7), 0);
        EDGES.due("the place of the cut that was planned then", x.ofDoor(0, 7), 1);
    }

    private static void setsAreMasks() {
        EDGES.of("CONVENTIONS", "Sets are bit masks");
        PinHouse x = house(0, 1000);
        for (int door = 0; door < 10; door++) x.door(0, 7, door, door);
        for (int key = 0; key < 16; key++) x.key(1110 + key % 6, 0);
        x.cut(9, 1115, 1115);
        EDGES.due("the last key alone opens nothing, nor does key 9", x.ofDoor(9, 6), 1 << 5 | 1 << 11);
        EDGES.due("doors of key 5", x.ofKey(5, 3), 1 << 9);
        EDGES.due("take the last key", x.take(15), 1 << 15);
        EDGES.due("carried", x.count(1), 1 << 15);
        EDGES.due("take key 11", x.take(11), 1 << 15 | 1 << 11);
        EDGES.due("reach to the last room", x.reach(), 1 | 1 << 7);
        EDGES.due("justFor the last door", x.justFor(1 << 9), 1115);
        EDGES.due("chanceKeys of the last door", x.chanceKeys(1 << 9), 1);
    }

    private static void firstValues() {
        EDGES.of("Settings", "STEP (1 to 9; 5). LOSS (0 to 50; 10), in percent. BLANK (40 to 90; 60), in grams.");
        PinHouse x = new PinHouse();
        EDGES.due("STEP at first", x.count(13), 5);
        EDGES.due("LOSS at first", x.count(14), 10);
        EDGES.due("BLANK at first", x.count(15), 60);
        EDGES.due("a step of 5 at first", x.key(5, 0), 0);
        EDGES.due("a step of 6 at first", x.key(6, 0), -5);
        EDGES.due("a blank at first", x.count(4), 60);
        x.melt(0);
        EDGES.due("10 percent of 55, rounded up, at first", x.count(8), 6);
    }

    private static void rowsFromZeroTo9999() {
        EDGES.of("Cuts", "A row of cuts is a number from 0 to 9999");
        PinHouse x = house(0, 100);
        EDGES.due("a lock by -1", x.door(0, 1, -1, -1), -2);
        EDGES.due("a lock by 10000", x.door(0, 1, 10000, 10000), -2);
        EDGES.due("a lock by 0 and 9999", x.door(0, 1, 0, 9999), 0);
        EDGES.due("a key by 0", x.key(0, 0), 0);
        EDGES.due("a key by 9999", x.key(9999, 0), 1);
        EDGES.due("a key by -1", x.key(-1, 0), -2);
        EDGES.due("a key by 10000", x.key(10000, 0), -2);
        EDGES.due("0 and 9999 open it", x.ofDoor(0, 6), 3);
    }

    private static void zerosInFront() {
        EDGES.of("Cuts", "four digits from left to right (zeros in front, too), each of them the depth of a cut, places 0 to 3");
        PinHouse x = house(0, 100);
        EDGES.due("5 is 0005", x.key(5, 0), 0);
        EDGES.due("7 is 0007", x.key(7, 0), -5);
        EDGES.due("70 is 0070", x.key(70, 0), -5);
        EDGES.due("700 is 0700", x.key(700, 0), -5);
        EDGES.due("7000", x.key(7000, 0), -5);
        x.door(0, 1, 7, 7);
        x.door(0, 1, 70, 700);
        EDGES.due("0007 opens 0007", x.opens(7, 0), 1);
        EDGES.due("7000 does not", x.opens(7000, 0), 0);
        EDGES.due("7007 does not", x.opens(7007, 0), 0);
        EDGES.due("0770 opens 0070/0700", x.opens(770, 1), 1);
        EDGES.due("0000 opens 0070/0700", x.opens(0, 1), 1);
        EDGES.due("7700 does not", x.opens(7700, 1), 0);
    }

    private static void stepAtMost() {
        EDGES.of("Cuts", "A row of cuts can be a key if depths side by side differ by STEP at most");
        for (int step = 1; step <= 9; step++) {
            int[] units = {1, 10, 100, 1000};
            for (int unit : units) stepOf(step, 0, unit);
            for (int unit : units) stepOf(step, 9999, -unit);
            stepOf(step, 0, 11);
            stepOf(step, 0, 1100);
        }
    }

    /** A row with one step, which is just allowed, and one that is a depth too great. */
    private static void stepOf(int step, int from, int unit) {
        PinHouse x = new PinHouse();
        x.set(PinHouse.STEP, step);
        EDGES.due("STEP " + step + ": key(" + (from + step * unit) + ")", x.key(from + step * unit, 0), 0);
        if (step == 9) return;
        int beyond = from + (step + 1) * unit;
        EDGES.due("STEP " + step + ": key(" + beyond + ")", x.key(beyond, 0), -5);
    }

    private static void sideBySideOnly() {
        EDGES.of("Cuts", "depths side by side");
        PinHouse x = new PinHouse();
        EDGES.due("places 0 and 3 may differ by 9", x.key(369, 0), 0);
        EDGES.due("places 3 and 0 may differ by 9", x.key(9630, 0), 1);
        EDGES.due("places 0 and 2 may differ by 9", x.key(495, 0), 2);
        EDGES.due("places 1 and 3 may differ by 9", x.key(4049, 0), 3);
        x.set(PinHouse.STEP, 1);
        EDGES.due("depths 0 and 9 are not side by side", x.key(9000, 0), -5);
        EDGES.due("depths 9 and 0 are not side by side", x.key(9990, 0), -5);
        EDGES.due("places 0 and 2 may differ by 2", x.key(1232, 0), 4);
    }

    private static void eightRooms() {
        EDGES.of("Doors and locks", "There are 8 rooms");
        PinHouse x = house(0, 100);
        EDGES.due("a key in room 7", x.key(0, 7), 0);
        EDGES.due("a key in room 8", x.key(0, 8), -2);
        EDGES.due("a door to room 7", x.door(0, 7, 0, 0), 0);
        EDGES.due("a door to room 8", x.door(0, 8, 0, 0), -2);
        EDGES.due("a way to room 7", x.doorsTo(7), -6);
        EDGES.due("a way to room 8", x.doorsTo(8), -2);
    }

    private static void upToTenDoors() {
        EDGES.of("Doors and locks", "up to 10 doors");
        PinHouse x = house(0, 1000);
        for (int door = 0; door < 10; door++) EDGES.due("door " + door, x.door(0, 1, 0, 0), door);
        EDGES.due("the 11th", x.door(0, 1, 0, 0), -4);
        x.undo();
        EDGES.due("one in place of an undone one", x.door(2, 3, 0, 0), 9);
        EDGES.due("the 11th", x.door(0, 1, 0, 0), -4);
    }

    private static void twoDifferentRooms() {
        EDGES.of("Doors and locks", "A door is between two different rooms");
        for (int room = 0; room < 8; room++) {
            int same = room;
            EDGES.refused("a door from " + room + " to itself", -2, Edges::rich, x -> x.door(same, same, 0, 0));
        }
        PinHouse x = house(0, 100);
        EDGES.due("two doors between the same rooms", x.door(0, 1, 0, 0) * 10 + x.door(0, 1, 0, 0), 1);
        EDGES.due("and one the other way round", x.door(1, 0, 0, 0), 2);
    }

    private static void theSameRow() {
        EDGES.of("Doors and locks", "the first and the second row of the lock (they may be the same row)");
        PinHouse x = house(0, 100);
        EDGES.due("a door", x.door(0, 1, 4321, 4321), 0);
        EDGES.due("its weight", x.ofDoor(0, 4), 14);
        EDGES.due("one row opens it", x.chanceKeys(1), 1);
        EDGES.due("cut anew", x.cut(0, 1234, 1234), 86);
        EDGES.due("planned", x.plan(0, 1111, 1111), 1);
        EDGES.due("carried out", x.carryPlan(), 92);
    }

    private static void eachPlaceOpens() {
        EDGES.of("Doors and locks", "A key opens a lock if at each place its depth is one of the two depths there");
        PinHouse x = house(0, 100);
        x.door(0, 1, 1359, 2468);
        int[] opening = {1359, 2468, 1368, 2459, 1468, 2359, 1459, 2368};
        for (int cuts : opening) EDGES.due("opens(" + cuts + ")", x.opens(cuts, 0), 1);
        int[] failing = {359, 3359, 1259, 1559, 1349, 1379, 1357, 1350, 3591, 2648, 8642, 0, 9999};
        for (int cuts : failing) EDGES.due("opens(" + cuts + ")", x.opens(cuts, 0), 0);
        x.set(PinHouse.STEP, 9);
        EDGES.due("sixteen rows in all", x.chanceKeys(1), 16);
    }

    private static void oneGramAndTheDepth() {
        EDGES.of("Doors and locks", "A lock weighs, for each pin, 1 gram and the depth of the first row");
        PinHouse x = house(0, 200);
        x.door(0, 1, 0, 0);
        EDGES.due("the least lock", x.ofDoor(0, 4), 4);
        x.door(0, 1, 9999, 9999);
        EDGES.due("the deepest one", x.ofDoor(1, 4), 40);
        x.door(0, 1, 9000, 9000);
        x.door(0, 1, 9, 9);
        EDGES.due("the first pin counts", x.ofDoor(2, 4), 13);
        EDGES.due("the last pin counts", x.ofDoor(3, 4), 13);
        EDGES.due("the brass for them", x.count(7), 200 - 4 - 40 - 13 - 13);
    }

    private static void oneGramMoreIfDifferent() {
        EDGES.of("Doors and locks", "and 1 gram more if both depths differ");
        PinHouse x = house(0, 300);
        int[] second = {1, 10, 100, 1000, 1001, 110, 1110, 1111, 9999};
        int[] weight = {5, 5, 5, 5, 6, 6, 7, 8, 8};
        for (int door = 0; door < second.length; door++) {
            x.door(0, 1, 0, second[door]);
            EDGES.due("weight of 0000/" + second[door], x.ofDoor(door, 4), weight[door]);
        }
        x.door(0, 1, 9999, 8888);
        EDGES.due("the heaviest lock", x.ofDoor(9, 4), 44);
        EDGES.due("as much by less depths in the second row", x.cut(9, 9999, 0), x.count(7));
        EDGES.due("the heaviest lock", x.ofDoor(9, 4), 44);
        x.cut(9, 0, 9999);
        EDGES.due("the depths of the second row weigh nothing", x.ofDoor(9, 4), 8);
    }

    private static void allThatWereEverCut() {
        EDGES.of("Keys", "There are up to 16 keys (all that were ever cut)");
        PinHouse x = new PinHouse();
        for (int key = 0; key < 16; key++) {
            EDGES.due("key " + key, x.key(0, 0), key);
            x.melt(key);
        }
        EDGES.due("a 17th, though all are melted", x.key(0, 0), -4);
        EDGES.due("keys", x.count(3), 16);
        x.undo();
        x.undo();
        EDGES.due("one in place of an undone one", x.key(0, 0), 15);
        EDGES.due("the 17th", x.key(0, 0), -4);
    }

    private static void whereAKeyCanBe() {
        EDGES.of("Keys", "A key is in a room, is carried by the walker, or was melted");
        PinHouse x = new PinHouse();
        x.key(0, 0);
        EDGES.due("in a room", x.ofKey(0, 2), 0);
        x.take(0);
        EDGES.due("carried", x.ofKey(0, 2), 8);
        EDGES.due("not in the room", x.take(0), -5);
        x.melt(0);
        EDGES.due("melted", x.ofKey(0, 2), 9);
        EDGES.due("not carried", x.count(1), 0);
        EDGES.due("not in the room", x.take(0), -5);
    }

    private static void brassComesIn() {
        EDGES.of("Brass", "Brass comes in by brass(), into the box, and by blanks");
        PinHouse x = new PinHouse();
        x.brass(7);
        EDGES.due("by brass", x.count(4), 7);
        EDGES.due("into the box", x.count(7), 7);
        x.key(0, 0);
        EDGES.due("by a blank", x.count(4), 67);
        EDGES.due("not into the box", x.count(7), 7);
        x.melt(0);
        EDGES.due("not by melting", x.count(4), 67);
        x.key(9999, 0);
        EDGES.due("by a blank, also where it is filed", x.count(4), 127);
    }

    private static void lockFromTheBox() {
        EDGES.of("Brass", "A lock is made of brass from the box");
        PinHouse x = house(0, 20);
        x.key(0, 0);
        EDGES.due("brass of keys does not count", x.door(0, 1, 9999, 9999), -5);
        EDGES.due("a lock of 20 grams", x.door(0, 1, 4444, 4444), 0);
        EDGES.due("the box", x.count(7), 0);
        EDGES.due("in locks", x.count(5), 20);
        EDGES.due("none came in", x.count(4), 80);
    }

    private static void blankAsItWas() {
        EDGES.of("Keys", "A key weighs BLANK, as it was when it was cut, less all its depths");
        PinHouse x = new PinHouse();
        x.set(PinHouse.BLANK, 40);
        x.key(9999, 0);
        EDGES.due("the lightest key", x.ofKey(0, 1), 4);
        x.set(PinHouse.BLANK, 90);
        EDGES.due("it stays", x.ofKey(0, 1), 4);
        x.key(0, 0);
        EDGES.due("the heaviest key", x.ofKey(1, 1), 90);
        x.set(PinHouse.BLANK, 41);
        EDGES.due("it stays", x.ofKey(1, 1), 90);
        EDGES.due("in keys", x.count(6), 94);
        EDGES.due("came in", x.count(4), 130);
        x.set(PinHouse.LOSS, 0);
        EDGES.due("melted, it gives what it weighed", x.melt(1), 36 + 90);
    }

    private static void depthsGoToTheBox() {
        EDGES.of("Brass", "When a key is cut, its depths together go from the blank to the box");
        PinHouse x = new PinHouse();
        x.key(0, 0);
        EDGES.due("no depth", x.count(7), 0);
        x.key(9999, 0);
        EDGES.due("the deepest", x.count(7), 36);
        x.key(3210, 0);
        EDGES.due("3210", x.count(7), 42);
    }

    private static void lossOfAll() {
        EDGES.of("Brass", "When something is melted, LOSS percent of what it weighs in all");
        PinHouse x = house(50, 44);
        x.door(0, 1, 9999, 0);
        x.cut(0, 0, 0);
        EDGES.due("of 44 grams, with those for different depths", x.count(8), 22);
        x.set(PinHouse.BLANK, 50);
        x.key(0, 0);
        x.melt(0);
        EDGES.due("of 50 grams", x.count(8), 22 + 25);
    }

    private static void lossRoundedUp() {
        EDGES.of("Brass", "rounded up, is lost");
        // 49 percent of 49 grams are 24.01.
        PinHouse z = house(49, 1);
        z.key(2333, 0);
        z.melt(0);
        EDGES.due("of 49 grams by 49 percent", z.count(8), 25);
        int[][] due = {{1, 1}, {50, 26}, {49, 25}, {2, 2}, {10, 6}, {0, 0}};
        for (int[] one : due) {
            PinHouse x = house(one[0], 1);
            x.key(1233, 0);
            x.melt(0);
            EDGES.due("of 51 grams by " + one[0] + " percent", x.count(8), one[1]);
        }
        PinHouse y = house(1, 9);
        y.door(0, 1, 0, 0);
        EDGES.due("of 4 grams by 1 percent", y.cut(0, 0, 0), 4);
    }

    private static void restGoesToTheBox() {
        EDGES.of("Brass", "and the rest goes to the box");
        PinHouse x = new PinHouse();
        x.set(PinHouse.LOSS, 50);
        x.key(1000, 0);
        EDGES.due("59 grams by 50 percent", x.melt(0), 1 + 29);
        x.set(PinHouse.LOSS, 0);
        x.key(0, 0);
        EDGES.due("without loss all of it", x.melt(1), 30 + 60);
    }

    private static void brassIsSomewhere() {
        EDGES.of("Brass", "So all brass that came in is in locks, in keys, in the box, or lost");
        PinHouse x = Edges.rich();
        brassOf("rich", x);
        x.carryPlan();
        brassOf("with the plan carried out", x);
        x.carryOut();
        brassOf("with the pad carried out", x);
        x.melt(0);
        x.melt(1);
        x.melt(2);
        brassOf("with all keys melted", x);
        x.restore(1);
        brassOf("restored", x);
    }

    private static void brassOf(String which, PinHouse x) {
        EDGES.due("the brass, " + which, x.count(5) + x.count(6) + x.count(7) + x.count(8), x.count(4));
    }

    private static void meltedFirst() {
        EDGES.of("Brass", "its pins are melted (all together); then the new pins are made from the box");
        PinHouse x = house(0, 40);
        x.door(0, 1, 9999, 9999);
        EDGES.due("box", x.count(7), 0);
        EDGES.due("made of its own brass alone", x.cut(0, 9998, 9999), 0);
        EDGES.due("less", x.cut(0, 0, 0), 36);
    }

    private static void meltedTogether() {
        EDGES.of("Brass", "(all together)");
        // 4 pins of 4 grams, by 10 percent: 2 of 16 together, 4 if each were rounded up for itself.
        PinHouse x = house(10, 16);
        x.door(0, 1, 3333, 3333);
        EDGES.due("the box then", x.cut(0, 0, 0), 10);
        EDGES.due("lost", x.count(8), 2);
    }

    private static void enoughThen() {
        EDGES.of("Brass", "if there is enough in it then");
        PinHouse x = house(10, 17);
        x.door(0, 1, 3333, 3333);
        EDGES.due("1 and 16 less 2, for 16", x.cut(0, 3333, 3333), -5);
        EDGES.due("1 and 16 less 2, for 15", x.cut(0, 3332, 3332), 0);
        PinHouse y = house(10, 17);
        y.door(0, 1, 3333, 3333);
        EDGES.due("15 with a different depth make 16", y.cut(0, 3332, 3333), -5);
    }

    private static void nothingChanges() {
        EDGES.of("Brass", "otherwise it is not possible (and nothing changes)");
        EDGES.refused("cut", -5, Edges::poor, x -> x.cut(0, 9999, 9999));
        PinHouse x = Edges.poor();
        x.cut(0, 9999, 9999);
        EDGES.due("the lock stays", x.ofDoor(0, 2) * 10000L + x.ofDoor(0, 3), 11111112);
        EDGES.due("it was not cut anew", x.ofDoor(0, 5), 0);
        EDGES.due("no more is lost", x.count(8), Edges.poor().count(8));
        EDGES.due("the box stays", x.count(7), 0);
    }

    private static void upToSixCuts() {
        EDGES.of("The plan", "The plan is a list of up to 6 cuts");
        PinHouse x = house(0, 1000);
        for (int door = 0; door < 10; door++) x.door(0, 1, 0, 0);
        for (int door = 9; door > 3; door--) EDGES.due("plan(" + door + ")", x.plan(door, 1, 1), 10 - door);
        EDGES.due("a seventh", x.plan(3, 1, 1), -4);
        EDGES.due("cuts", x.count(9), 6);
        x.undo();
        EDGES.due("one in place of an undone one", x.plan(3, 1, 1), 6);
        EDGES.due("its place", x.ofDoor(3, 7), 5);
    }

    private static void doorOnceInPlan() {
        EDGES.of("The plan", "a door can be in it once");
        PinHouse x = house(0, 100);
        x.door(0, 1, 0, 0);
        x.door(0, 1, 0, 0);
        EDGES.due("once", x.plan(1, 1, 1), 1);
        EDGES.due("twice, by the same rows", x.plan(1, 1, 1), -5);
        EDGES.due("twice, by other rows", x.plan(1, 2, 2), -5);
        EDGES.due("another one", x.plan(0, 1, 1), 2);
        EDGES.due("twice, though it is not the latest", x.plan(1, 2, 2), -5);
        x.undo();
        x.undo();
        EDGES.due("again after undo", x.plan(1, 2, 2), 1);
    }

    private static void oneAfterTheOther() {
        EDGES.of("The plan", "An order of the plan can be carried out if each lock, one after the other, can be cut anew");
        // Box 0; the lock at place 1 leaves 5 grams, the one at place 0 needs 5.
        PinHouse x = house(0, 4 + 9);
        x.door(0, 1, 0, 0);
        x.door(0, 1, 5, 5);
        x.plan(0, 5, 5);
        x.plan(1, 0, 0);
        EDGES.due("orders", x.planOrders(), 1);
        EDGES.due("first the one that leaves brass", x.planOrder(0), 1);
        EDGES.due("then the one that needs it", x.planOrder(1), 0);
        EDGES.due("it takes the last gram", x.carryPlan(), 0);
        EDGES.due("lock 0", x.ofDoor(0, 2), 5);
        EDGES.due("lock 1", x.ofDoor(1, 2), 0);
        // The brass is enough for each of both, and for both together only by a gram more.
        PinHouse y = house(0, 8 + 9);
        y.door(0, 1, 0, 0);
        y.door(0, 1, 0, 0);
        y.plan(0, 5, 5);
        y.plan(1, 5, 5);
        EDGES.due("orders, a gram short at the end", y.planOrders(), 0);
        y.brass(1);
        EDGES.due("orders, just enough", y.planOrders(), 2);
    }

    private static void comparedByPlaces() {
        EDGES.of("The plan", "Orders are compared by their first cuts, then by the second ones, and so on, each by its place in the plan");
        // Box 0. Place 0 needs 3 grams, place 1 needs 3, places 2 and 3 leave 3 each: 2 0 3 1 is the least order.
        PinHouse x = house(0, 4 + 4 + 7 + 7);
        x.door(0, 1, 0, 0);
        x.door(0, 1, 0, 0);
        x.door(0, 1, 3, 3);
        x.door(0, 1, 3, 3);
        x.plan(1, 3, 3);
        x.plan(0, 3, 3);
        x.plan(3, 0, 0);
        x.plan(2, 0, 0);
        int[] want = {2, 0, 3, 1, -6, -6};
        for (int place = 0; place < 6; place++) EDGES.due("planOrder(" + place + ")", x.planOrder(place), want[place]);
        EDGES.due("orders", x.planOrders(), 8);
    }

    private static void roomZeroAtFirst() {
        EDGES.of("The walker", "The walker is in a room (0 at first)");
        PinHouse x = new PinHouse();
        EDGES.due("the room", x.count(0), 0);
        EDGES.due("reach", x.reach(), 1);
        x.key(0, 0);
        EDGES.due("a key in room 0", x.take(0), 1);
    }

    private static void keysThatAreThere() {
        EDGES.of("The walker", "can take keys that are there, put carried ones down");
        PinHouse x = new PinHouse();
        x.key(0, 1);
        EDGES.due("a key in the next room", x.take(0), -5);
        x.key(0, 0);
        EDGES.due("a key here that is not carried", x.putDown(1), -5);
        EDGES.due("take it", x.take(1), 2);
        EDGES.due("it is not there then", x.take(1), -5);
        EDGES.due("put it down", x.putDown(1), 0);
        EDGES.due("it is not carried then", x.putDown(1), -5);
        EDGES.due("it is there again", x.take(1), 2);
    }

    private static void doorOfThisRoom() {
        EDGES.of("The walker", "go through a door of this room, to the other room");
        PinHouse x = house(0, 100);
        x.door(0, 7, 0, 0);
        x.door(6, 7, 0, 0);
        x.key(0, 0);
        x.take(0);
        EDGES.due("a door elsewhere", x.go(1), -5);
        EDGES.due("from its first room", x.go(0), 7);
        EDGES.due("from its second room", x.go(1), 6);
        EDGES.due("from its first room", x.go(1), 7);
        EDGES.due("from its second room", x.go(0), 0);
        EDGES.due("a door elsewhere", x.go(1), -5);
    }

    private static void carriedKeyOpens() {
        EDGES.of("The walker", "if a key that is carried opens its lock");
        PinHouse x = house(0, 100);
        x.door(0, 1, 1111, 2222);
        x.key(1112, 0);
        x.key(1113, 0);
        EDGES.due("no key", x.go(0), -5);
        x.take(1);
        EDGES.due("the key that opens it lies in the room", x.go(0), -5);
        x.take(0);
        EDGES.due("one of two carried keys opens it", x.go(0), 1);
        x.putDown(0);
        EDGES.due("put down", x.go(0), -5);
        x.take(0);
        x.melt(0);
        EDGES.due("melted", x.go(0), -5);
    }

    private static void usedFor512Calls() {
        EDGES.of("What it is", "An object is used for at most 512 calls after it has been made");
        PinHouse x = new PinHouse();
        for (int call = 1; call <= 512; call++) EDGES.due("call " + call, x.brass(1000), call * 1000);
        PinHouse y = house(50, 44);
        y.door(0, 1, 9999, 0);
        y.key(9999, 0);
        y.take(0);
        for (int call = 6; call <= 512; call++) EDGES.due("call " + call, y.go(0), call % 2 == 0 ? 1 : 0);
    }
}
