/** Promises 17 to 19: opens, chanceKeys, justFor. */
public final class ChanceTest {
    private static final Checks CHECKS = new Checks("ChanceTest");

    public static void main(String[] args) {
        opens();
        chanceKeys();
        justFor();
        errors();
        againstAllRows();
        CHECKS.finish();
    }

    private static PinHouse house() {
        PinHouse x = new PinHouse();
        x.brass(300);
        x.door(0, 1, 1234, 5678);
        x.door(0, 1, 1674, 5238);
        x.door(0, 1, 9, 9);
        return x;
    }

    private static void opens() {
        PinHouse x = house();
        CHECKS.due("first row", x.opens(1234, 0), 1);
        CHECKS.due("second row", x.opens(5678, 0), 1);
        CHECKS.due("mixed", x.opens(1278, 0), 1);
        CHECKS.due("wrong at the left", x.opens(2234, 0), 0);
        CHECKS.due("wrong at the second", x.opens(1334, 0), 0);
        CHECKS.due("wrong at the third", x.opens(1244, 0), 0);
        CHECKS.due("wrong at the right", x.opens(1235, 0), 0);
        CHECKS.due("cannot be a key", x.opens(9, 2), 1);
        CHECKS.due("cuts -1", x.opens(-1, 0), -2);
        CHECKS.due("cuts 10000", x.opens(10000, 0), -2);
        CHECKS.due("door 3", x.opens(0, 3), -1);
        CHECKS.due("door -1", x.opens(0, -1), -1);
        CHECKS.due("NO_SUCH before BAD_VALUE", x.opens(-1, 3), -1);
        CHECKS.due("no change", x.count(12), 4);
    }

    private static void chanceKeys() {
        PinHouse x = house();
        CHECKS.due("all that can be a key", x.chanceKeys(0), 5430);
        CHECKS.due("door 2 has none", x.chanceKeys(4), 0);
        x.set(PinHouse.STEP, 9);
        CHECKS.due("all rows", x.chanceKeys(0), 10000);
        CHECKS.due("door 0", x.chanceKeys(1), 16);
        CHECKS.due("doors 0 and 1", x.chanceKeys(3), 16);
        CHECKS.due("door 2", x.chanceKeys(4), 1);
        CHECKS.due("doors 0 and 2", x.chanceKeys(5), 0);
        x.set(PinHouse.STEP, 1);
        CHECKS.due("door 0 by step 1", x.chanceKeys(1), 2);
        CHECKS.due("no doors by step 1", x.chanceKeys(0), 230);
    }

    private static void justFor() {
        PinHouse x = new PinHouse();
        CHECKS.due("no doors at all", x.justFor(0), 0);
        x.brass(300);
        x.door(0, 1, 0, 1111);
        CHECKS.due("the least other row", x.justFor(0), 2);
        CHECKS.due("door 0", x.justFor(1), 0);
        x.door(0, 1, 0, 111);
        CHECKS.due("door 0 alone", x.justFor(1), 1000);
        CHECKS.due("door 1 alone", x.justFor(2), -6);
        CHECKS.due("both", x.justFor(3), 0);
        x.door(0, 1, 7770, 70);
        CHECKS.due("door 2 alone: 0070 to 7770 by step 5", x.justFor(4), -6);
        x.set(PinHouse.STEP, 7);
        CHECKS.due("by step 7", x.justFor(4), 70);
        CHECKS.due("no change", x.count(12), 5);
    }

    private static void errors() {
        PinHouse x = house();
        int[] wrong = {-1, Integer.MIN_VALUE, 8, 9, 512, 1024, Integer.MAX_VALUE};
        for (int doors : wrong) {
            CHECKS.due("chanceKeys(" + doors + ")", x.chanceKeys(doors), -1);
            CHECKS.due("justFor(" + doors + ")", x.justFor(doors), -1);
        }
        for (int door = 3; door < 10; door++) x.door(0, 1, 0, 0);
        CHECKS.due("all ten doors", x.chanceKeys(1023), 0);
        CHECKS.due("all ten doors", x.justFor(1023), -6);
        CHECKS.due("the last door", x.chanceKeys(512), 1);
        CHECKS.due("an eleventh door", x.chanceKeys(1024), -1);
        CHECKS.due("an eleventh door", x.justFor(1024), -1);
    }

    private static void againstAllRows() {
        PinHouse x = new PinHouse();
        x.brass(1000);
        int[] rows = {1357, 2468, 1458, 2367, 1234, 5678, 1357, 1357};
        for (int door = 0; door < 4; door++) x.door(0, 1, rows[2 * door], rows[2 * door + 1]);
        for (int step = 1; step <= 9; step++) {
            x.set(PinHouse.STEP, step);
            for (int doors = 0; doors < 16; doors++) compareWithAllRows(x, rows, step, doors);
        }
    }

    private static void compareWithAllRows(PinHouse x, int[] rows, int step, int doors) {
        int many = 0;
        int least = -6;
        for (int row = 9999; row >= 0; row--) {
            int opened = openedBy(rows, row);
            if (!canBeKey(row, step)) continue;
            if ((opened & doors) == doors) many++;
            if (opened == doors) least = row;
        }
        CHECKS.due("chanceKeys(" + doors + ") by step " + step, x.chanceKeys(doors), many);
        CHECKS.due("justFor(" + doors + ") by step " + step, x.justFor(doors), least);
    }

    private static boolean canBeKey(int row, int step) {
        String cuts = String.format("%04d", row);
        for (int place = 1; place < 4; place++) {
            if (Math.abs(cuts.charAt(place) - cuts.charAt(place - 1)) > step) return false;
        }
        return true;
    }

    private static int openedBy(int[] rows, int row) {
        String cuts = String.format("%04d", row);
        int set = 0;
        for (int door = 0; door < rows.length / 2; door++) {
            String first = String.format("%04d", rows[2 * door]);
            String second = String.format("%04d", rows[2 * door + 1]);
            boolean opens = true;
            for (int place = 0; place < 4; place++) {
                char depth = cuts.charAt(place);
                opens &= depth == first.charAt(place) || depth == second.charAt(place);
            }
            if (opens) set |= 1 << door;
        }
        return set;
    }
}
