/** Promises 26 to 29: put, wipe, fault, carryOut. */
public final class TextTest {
    private static final Checks CHECKS = new Checks("TextTest");

    public static void main(String[] args) {
        put();
        putErrors();
        putLimits();
        wipe();
        faults();
        longTexts();
        everySign();
        carryOut();
        carryOutUpToAnError();
        carryOutErrors();
        everyOrder();
        CHECKS.finish();
    }

    private static void put() {
        PinHouse x = new PinHouse();
        CHECKS.due("one", x.put('t'), 1);
        CHECKS.due("the last character is the lowest", x.put(Checks.packed("A;g0")), 5);
        CHECKS.due("eight", x.put(Checks.packed("12345678")), 13);
        CHECKS.due("length", x.count(11), 13);
        CHECKS.due("the order of characters", x.fault(), 5);
        CHECKS.due("no change", x.count(12), 0);
    }

    private static void putErrors() {
        PinHouse x = new PinHouse();
        CHECKS.due("no character", x.put(0), -2);
        CHECKS.due("code 32", x.put(32), -2);
        CHECKS.due("code 127", x.put(127), -2);
        CHECKS.due("code 128", x.put(128), -2);
        CHECKS.due("code 255", x.put(255), -2);
        CHECKS.due("code 33", x.put(33), 1);
        CHECKS.due("code 126", x.put(126), 2);
        CHECKS.due("0 at the end", x.put('a' << 8), -2);
        CHECKS.due("0 between", x.put((long) 'a' << 16 | 'b'), -2);
        CHECKS.due("0 between, far", x.put((long) 'a' << 56 | 'b'), -2);
        CHECKS.due("one bit far above", x.put(1L << 62 | 'b'), -2);
        CHECKS.due("below 0", x.put(-1), -2);
        CHECKS.due("the least", x.put(Long.MIN_VALUE), -2);
        CHECKS.due("the most", x.put(Long.MAX_VALUE), -2);
        CHECKS.due("a first code of 128 and more", x.put(0x8061616161616161L), -2);
        CHECKS.due("a first code of 32", x.put(0x2061616161616161L), -2);
        CHECKS.due("a first code of 127", x.put(0x7F61616161616161L), -2);
        CHECKS.due("a first code of 126", x.put(0x7E61616161616161L), 10);
        CHECKS.due("a code of 32 between", x.put(0x6161612061616161L), -2);
        CHECKS.due("length", x.count(11), 10);
    }

    private static void putLimits() {
        PinHouse x = new PinHouse();
        CHECKS.due("72", Checks.write(x, "a".repeat(72)), 72);
        CHECKS.due("79", x.put(Checks.packed("aaaaaaa")), 79);
        CHECKS.due("81", x.put(Checks.packed("aa")), -4);
        CHECKS.due("87", x.put(Checks.packed("aaaaaaaa")), -4);
        CHECKS.due("BAD_VALUE before TOO_MANY", x.put(Checks.packed("a a")), -2);
        CHECKS.due("length", x.count(11), 79);
        CHECKS.due("80", x.put('a'), 80);
        CHECKS.due("81", x.put('a'), -4);
        CHECKS.due("wipe", x.wipe(), 80);
        CHECKS.due("again", x.put('a'), 1);
    }

    private static void wipe() {
        PinHouse x = new PinHouse();
        CHECKS.due("empty", x.wipe(), 0);
        Checks.write(x, "b5;b6;b77;b8");
        CHECKS.due("12", x.wipe(), 12);
        CHECKS.due("empty then", x.count(11), 0);
        CHECKS.due("wiped", x.fault(), 0);
        CHECKS.due("no change", x.count(12), 0);
        Checks.write(x, "b5");
        CHECKS.due("what was wiped does not come back", x.fault(), -6);
        x.wipe();
        String whole = "c1=1234/5678;k1234;tA;g1;b12";
        for (int length = 0; length < whole.length(); length++) {
            Checks.write(x, whole);
            x.wipe();
            Checks.write(x, whole.substring(0, length));
            PinHouse y = new PinHouse();
            Checks.write(y, whole.substring(0, length));
            CHECKS.due("fault after what was wiped, " + length, x.fault(), y.fault());
            x.wipe();
        }
    }

    private static void fault(String text, int want) {
        PinHouse x = new PinHouse();
        Checks.write(x, text);
        CHECKS.due("fault of '" + text + "'", x.fault(), want);
        CHECKS.due("length stays of '" + text + "'", x.count(11), text.length());
    }

    private static void faults() {
        String[] right = {"k0000", "k9999", "c0=1234/5678", "c9=0000/9999", "tA", "tP", "pA", "pP", "g0", "g9", "b0",
            "b9", "b10", "b99", "b100", "b999", "b0;b0", "k1234;tA;g0;pA;c0=0000/0000;b12"};
        for (String text : right) fault(text, -6);
        fault("", 0);
        String[] early = {"k", "k1", "k12", "k123", "c", "c1", "c1=", "c1=1", "c1=12", "c1=123", "c1=1234", "c1=1234/",
            "c1=1234/5", "c1=1234/56", "c1=1234/567", "t", "p", "g", "b", "b1;", "tA;", "tA;k12", "b0;c1=1234"};
        for (String text : early) fault(text, text.length());
        String[] wrongAtTheEnd = {"K", ";", "x", "0", "A", "kx", "k1x", "k12x", "k123x", "k1234x", "k12345", "k12;", "cA",
            "c12", "c1=x", "c1=1234=", "c1=12345", "c1=1234/x", "c1=1234/56789", "c1=1234/567;", "t0", "ta", "tQ", "t@",
            "tAA", "pQ", "p;", "gA", "g01", "g:", "g/", "bx", "b;", "b-", "b00", "b01", "b0x", "b1x", "b1234", "b9990", "b1000",
            "tA;;", "tA,", "b1;k12/", "tA;b"  + "B", "b12;b012"};
        for (String text : wrongAtTheEnd) {
            int last = text.length() - 1;
            int want = text.equals("b012") || text.equals("b12;b012") ? last - 1 : last;
            fault(text, want);
        }
        fault("b0123", 2);
        fault("b1000;x", 4);
        fault("x;b1", 0);
        fault("k1234x;y", 5);
        fault("k12;tA", 3);
    }

    private static void longTexts() {
        fault("tA;".repeat(26) + "b1", -6);
        fault("b1;b" + "1;b".repeat(25) + "1", -6);
        fault("tA;".repeat(26) + "b;", 79);
        fault("tA;".repeat(26) + "b", 79);
        fault("tA;".repeat(26), 78);
        fault("tA;".repeat(25) + "b123;", 80);
        fault("tA;".repeat(25) + "k123", 79);
        fault("tA;".repeat(26) + "c1", 80);
        fault("tA;".repeat(24) + "c1=12345", 79);
        fault("tA;".repeat(24) + "c1=1234/", 80);
        fault("tA;".repeat(24) + "b1;c1=12", 80);
        fault("b10;" + "tA;".repeat(24) + "c1=1", 80);
        fault("tA;".repeat(25) + "k1234", -6);
        fault("tA;".repeat(25) + "k123x", 79);
    }

    /** Every sign after some beginnings: it stands there or it is the fault. */
    private static void everySign() {
        String[] beginnings = {"", "k", "c", "c0", "c0=0000", "t", "p", "g", "b", "b0", "b1", "b11", "b111", "tA"};
        String[] fitting = {"kctpgb", "0123456789", "0123456789", "=", "/", "ABCDEFGHIJKLMNOP", "ABCDEFGHIJKLMNOP",
            "0123456789", "0123456789", ";", ";0123456789", ";0123456789", ";", ";"};
        for (int place = 0; place < beginnings.length; place++) {
            PinHouse x = new PinHouse();
            for (char sign = 33; sign <= 126; sign++) {
                String text = beginnings[place] + sign;
                Checks.write(x, text);
                boolean fits = fitting[place].indexOf(sign) >= 0;
                boolean isFault = x.fault() == beginnings[place].length();
                CHECKS.isTrue("'" + text + "' " + (fits ? "has no fault there" : "has its fault there"), isFault != fits);
                x.wipe();
            }
        }
    }

    private static void carryOut() {
        PinHouse x = new PinHouse();
        x.brass(50);
        x.door(0, 1, 123, 123);
        Checks.write(x, "k0123;tA;g0;k1111;pA;b7");
        CHECKS.due("carried out", x.carryOut(), 6);
        CHECKS.due("the pad is empty", x.count(11), 0);
        CHECKS.due("room", x.count(0), 1);
        CHECKS.due("the second key is in the room of the walker then", x.ofKey(1, 2), 1);
        CHECKS.due("box", x.count(7), 50 - 10 + 6 + 4 + 7);
        CHECKS.due("one change", x.count(12), 3);
        CHECKS.due("undo", x.undo(), 2);
        CHECKS.due("all is undone", x.count(3), 0);
        CHECKS.due("room", x.count(0), 0);
        CHECKS.due("the pad stays empty", x.count(11), 0);
    }

    private static void carryOutUpToAnError() {
        PinHouse x = new PinHouse();
        Checks.write(x, "b5;b6;tA;b7");
        CHECKS.due("two", x.carryOut(), 2);
        CHECKS.due("box", x.count(7), 11);
        CHECKS.due("the pad is empty", x.count(11), 0);
        CHECKS.due("one change", x.count(12), 1);
        Checks.write(x, "b0;b7");
        CHECKS.due("none", x.carryOut(), 0);
        CHECKS.due("box", x.count(7), 11);
        CHECKS.due("a change all the same", x.count(12), 2);
        CHECKS.due("undo", x.undo(), 1);
        CHECKS.due("box", x.count(7), 11);
        String[] none = {"k0909", "c0=0000/0000", "tA", "pA", "g0", "b0"};
        for (String text : none) {
            PinHouse y = new PinHouse();
            Checks.write(y, text);
            CHECKS.due("'" + text + "'", y.carryOut(), 0);
            CHECKS.due("'" + text + "' is gone", y.count(11), 0);
        }
    }

    private static void carryOutErrors() {
        PinHouse x = new PinHouse();
        CHECKS.due("empty", x.carryOut(), -3);
        CHECKS.due("no change", x.count(12), 0);
        Checks.write(x, "b5;b6;");
        CHECKS.due("a fault at the end", x.carryOut(), -3);
        CHECKS.due("nothing done", x.count(7), 0);
        CHECKS.due("the pad stays", x.count(11), 6);
        Checks.write(x, "b1");
        CHECKS.due("mended", x.carryOut(), 3);
        CHECKS.due("box", x.count(7), 12);
    }

    private static void everyOrder() {
        PinHouse x = new PinHouse();
        Checks.write(x, "b999;k0010;tA");
        CHECKS.due("three", x.carryOut(), 3);
        CHECKS.due("box", x.count(7), 1000);
        for (int key = 1; key < 16; key++) x.key(key % 6, 0);
        for (int door = 0; door < 10; door++) x.door(0, 7, 0, 0);
        int box = x.count(7);
        Checks.write(x, "tP;tB;pA;pP;c9=1000/0020;c8=0010/0010;tA;g8");
        CHECKS.due("eight", x.carryOut(), 8);
        CHECKS.due("carried", x.count(1), 3);
        CHECKS.due("key P", x.ofKey(15, 2), 0);
        CHECKS.due("first row of door 9", x.ofDoor(9, 2), 1000);
        CHECKS.due("second row of door 9", x.ofDoor(9, 3), 20);
        CHECKS.due("box", x.count(7), box + 3 - 7 + 3 - 5);
        CHECKS.due("room", x.count(0), 7);
        Checks.write(x, "b12;b0");
        CHECKS.due("one", x.carryOut(), 1);
        Checks.write(x, "b10;b100");
        CHECKS.due("two", x.carryOut(), 2);
        CHECKS.due("box", x.count(7), box - 6 + 122);
        x.wipe();
        Checks.write(x, "b1;".repeat(26) + "b1");
        CHECKS.due("27 orders", x.carryOut(), 27);
        CHECKS.due("box", x.count(7), box - 6 + 122 + 27);
    }
}
