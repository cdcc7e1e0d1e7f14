/** Compares answers with those that are due, and ends a test program. */
final class Checks {
    private final String test;
    private int passed, failed;

    Checks(String test) {
        this.test = test;
    }

    void due(String call, long got, long want) {
        if (got == want) {
            passed++;
        } else {
            failed++;
            System.out.println(test + ": " + call + " answered " + got + ", due is " + want);
        }
    }

    void isTrue(String what, boolean holds) {
        due(what, holds ? 1 : 0, 1);
    }

    /** All answers of count() but those about the pad and the history, as one number to compare. */
    static long sumOf(PinHouse house) {
        long sum = 0;
        for (int what = 0; what <= 15; what++) {
            if (what != 11 && what != 12) sum = sum * 31 + house.count(what);
        }
        for (int door = 0; door < house.count(2); door++) {
            for (int what = 0; what <= 7; what++) sum = sum * 31 + house.ofDoor(door, what);
        }
        for (int key = 0; key < house.count(3); key++) {
            for (int what = 0; what <= 3; what++) sum = sum * 31 + house.ofKey(key, what);
        }
        return sum;
    }

    /** Puts a text on the pad; returns the last answer of put(). */
    static int write(PinHouse house, String text) {
        int answer = house.count(11);
        for (int from = 0; from < text.length(); from += 8) {
            answer = house.put(packed(text.substring(from, Math.min(text.length(), from + 8))));
        }
        return answer;
    }

    /** Up to 8 characters as the number that put() takes. */
    static long packed(String characters) {
        long number = 0;
        for (int place = 0; place < characters.length(); place++) number = number << 8 | characters.charAt(place);
        return number;
    }

    void finish() {
        System.out.println(test + ": " + passed + " passed, " + failed + " failed");
        if (failed > 0) System.exit(1);
    }
}
