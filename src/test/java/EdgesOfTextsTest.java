/** The boundary cases of texts, and those that promises 26 to 29 name: put, wipe, fault, carryOut. */
public final class EdgesOfTextsTest {
    private static final Edges EDGES = new Edges("EdgesOfTextsTest");

    public static void main(String[] args) {
        eightyCharacters();
        rowOfOrders();
        kinds();
        cutsAreFourDigits();
        doorIsADigit();
        keyIsALetter();
        numberUpTo999();
        withoutLeadingZeros();
        digitAbove999();
        firstCharacterThatCannotStand();
        textEndsTooEarly();
        lowestBitsAreTheLast();
        oneToEightCharacters();
        zeroBitsEnd();
        lengthThen();
        noCharacter();
        codeOutOfRange();
        bitAboveZeroBits();
        padWouldBeLonger();
        putIsNoChange();
        wipeReturnsTheLength();
        noFault();
        faultChangesNothing();
        everyOrderOfAText();
        upToTheFirstError();
        errorsOfOrders();
        howManyOrders();
        faultFirst();
        emptiesThePad();
        padWithAFault();
        carryOutIsOneChange();
        noneCarriedOut();
        keyInTheRoomThen();
        EDGES.finish();
    }

    private static PinHouse withPad(String text) {
        PinHouse x = new PinHouse();
        Checks.write(x, text);
        EDGES.due("the length of '" + text + "'", x.count(11), text.length());
        return x;
    }

    private static void right(String text) {
        EDGES.due("fault of '" + text + "'", withPad(text).fault(), -6);
    }

    private static void wrong(String text, int fault) {
        EDGES.due("fault of '" + text + "'", withPad(text).fault(), fault);
    }

    private static void eightyCharacters() {
        EDGES.of("Texts", "The pad is a text of at most 80 characters");
        String text = "tA;".repeat(26) + "g0";
        right(text);
        PinHouse x = withPad(text);
        EDGES.due("a character more", x.put(';'), -4);
        EDGES.due("the length", x.count(11), 80);
        wrong("tA;".repeat(26) + "g;", 79);
        wrong("tA;".repeat(26) + "b", 79);
        wrong("tA;".repeat(25) + "c0=12", 80);
        right("b1;".repeat(26) + "b1");
    }

    private static void rowOfOrders() {
        EDGES.of("Texts", "text = order { \";\" order }");
        right("tA");
        right("tA;tA");
        right("tA;pA;g0;b1;k0000;c0=0000/0000");
        wrong(";", 0);
        wrong(";tA", 0);
        wrong("tA;", 3);
        wrong("tA;;tA", 3);
        wrong("tAtA", 2);
        wrong("tA,tA", 2);
        wrong("tA:tA", 2);
        wrong("tA;tA;", 6);
    }

    private static void kinds() {
        EDGES.of("Texts", "order = \"k\" cuts | \"c\" door \"=\" cuts \"/\" cuts | \"t\" key | \"p\" key | \"g\" door | \"b\" number");
        for (String kind : new String[] {"k0000", "c0=0000/0000", "tA", "pA", "g0", "b0"}) {
            right(kind);
            right("tA;" + kind);
            wrong(kind.toUpperCase(), 0);
            wrong("tA;" + kind.toUpperCase(), 3);
        }
        for (char sign = 33; sign <= 126; sign++) {
            boolean kind = "kctpgb".indexOf(sign) >= 0;
            EDGES.due("fault of '" + sign + "'", withPad("" + sign).fault(), kind ? 1 : 0);
            EDGES.due("fault of 'b1;" + sign + "'", withPad("b1;" + sign).fault(), kind ? 4 : 3);
        }
        wrong("c0-0000/0000", 2);
        wrong("c0/0000=0000", 2);
        wrong("c0=0000=0000", 7);
        wrong("c0=0000;", 7);
        wrong("c=0000/0000", 1);
    }

    private static void cutsAreFourDigits() {
        EDGES.of("Texts", "cuts are four digits");
        right("k0000");
        right("k9999");
        right("k0909");
        wrong("k", 1);
        wrong("k000", 4);
        wrong("k000;", 4);
        wrong("k00000", 5);
        wrong("k/000", 1);
        wrong("k:000", 1);
        wrong("k0:00", 2);
        wrong("k00/0", 3);
        wrong("k000:", 4);
        wrong("k-123", 1);
        right("c0=9999/0000");
        wrong("c0=999/0000", 6);
        wrong("c0=99999/0000", 7);
        wrong("c0=9999/000", 11);
        wrong("c0=9999/00000", 12);
        wrong("c0=9999/000:", 11);
    }

    private static void doorIsADigit() {
        EDGES.of("Texts", "a door is a digit from 0 to 9");
        for (char door = '0'; door <= '9'; door++) {
            right("g" + door);
            right("c" + door + "=0000/0000");
        }
        for (String sign : new String[] {"/", ":", "A", "-", ";"}) {
            wrong("g" + sign, 1);
            wrong("c" + sign + "=0000/0000", 1);
        }
        wrong("g00", 2);
        wrong("g10", 2);
        wrong("c00=0000/0000", 2);
    }

    private static void keyIsALetter() {
        EDGES.of("Texts", "a key a letter from A to P");
        for (char key = 'A'; key <= 'P'; key++) {
            right("t" + key);
            right("p" + key);
        }
        for (String sign : new String[] {"@", "Q", "Z", "a", "p", "0", ";"}) {
            wrong("t" + sign, 1);
            wrong("p" + sign, 1);
        }
        wrong("tAB", 2);
        wrong("pPA", 2);
    }

    private static void numberUpTo999() {
        EDGES.of("Texts", "A number is 0 to 999");
        for (int number = 0; number <= 999; number++) {
            EDGES.due("fault of b" + number, withPad("b" + number).fault(), -6);
        }
        EDGES.due("b999 is carried out", withPad("b999").carryOut(), 1);
        EDGES.due("b0 can stand, but brass(0) is an error", withPad("b0").carryOut(), 0);
        wrong("b-1", 1);
        wrong("b+1", 1);
        wrong("b/", 1);
        wrong("b:", 1);
        wrong("b1:", 2);
        wrong("b1/", 2);
        wrong("b12:", 3);
    }

    private static void withoutLeadingZeros() {
        EDGES.of("Texts", "without leading zeros");
        right("b0");
        right("b0;b0");
        right("b10");
        right("b100");
        right("b101");
        for (char digit = '0'; digit <= '9'; digit++) wrong("b0" + digit, 2);
        wrong("b007", 2);
        wrong("b1;b00", 5);
        right("k0001;c0=0000/0007");
    }

    private static void digitAbove999() {
        EDGES.of("Texts", "(also of a digit by which a number would be above 999)");
        wrong("b1000", 4);
        wrong("b9990", 4);
        wrong("b9999", 4);
        wrong("b10000", 4);
        wrong("b1000;x", 4);
        wrong("b1;b1000", 7);
        wrong("b1234567", 4);
        right("b999;b999");
    }

    private static void firstCharacterThatCannotStand() {
        EDGES.of("Texts", "The fault is the index of the first character that cannot stand at its place when the text is read from left to right");
        wrong("x", 0);
        wrong("xx", 0);
        wrong("k0000x", 5);
        wrong("k0000x;y", 5);
        wrong("tQ;pQ", 1);
        wrong("tA;pQ;x", 4);
        wrong("b1;b1;b1;B1", 9);
        wrong("k123x;", 4);
        wrong("~".repeat(80), 0);
        wrong("b1;".repeat(26) + "b~", 79);
    }

    private static void textEndsTooEarly() {
        EDGES.of("Texts", "if there is none and the text ends too early (also if it is empty), it is the length of the text");
        EDGES.due("an empty pad", new PinHouse().fault(), 0);
        PinHouse x = withPad("tA");
        x.wipe();
        EDGES.due("a wiped pad", x.fault(), 0);
        for (String whole : new String[] {"k0000", "c0=0000/0000", "tA", "pA", "g0", "b"}) {
            for (int length = 1; length < whole.length(); length++) {
                wrong(whole.substring(0, length), length);
                wrong("b1;" + whole.substring(0, length), 3 + length);
            }
        }
        wrong("b", 1);
        wrong("b1;", 3);
        wrong("b1;b", 4);
        wrong("b1;".repeat(25) + "c0=00", 80);
    }

    private static void lowestBitsAreTheLast() {
        EDGES.of("Promise 26", "its lowest 8 bits are the last character, the next 8 bits the one before, and so on");
        PinHouse x = new PinHouse();
        EDGES.due("'b1'", x.put('b' << 8 | '1'), 2);
        EDGES.due("fault", x.fault(), -6);
        x.wipe();
        EDGES.due("'1b'", x.put('1' << 8 | 'b'), 2);
        EDGES.due("fault", x.fault(), 0);
        x.wipe();
        EDGES.due("'b12;b34;'", x.put(Checks.packed("b12;b34;")), 8);
        EDGES.due("'b56'", x.put(Checks.packed("b56")), 11);
        EDGES.due("carried out", x.carryOut(), 3);
        EDGES.due("the box", x.count(7), 12 + 34 + 56);
    }

    private static void oneToEightCharacters() {
        EDGES.of("Promise 26", "1 to 8 characters");
        String text = "b1;b1;b1";
        for (int many = 1; many <= 8; many++) {
            PinHouse x = new PinHouse();
            EDGES.due(many + " characters", x.put(Checks.packed(text.substring(0, many))), many);
            EDGES.due("fault", x.fault(), many % 3 == 2 ? -6 : many);
        }
    }

    private static void zeroBitsEnd() {
        EDGES.of("Promise 26", "8 bits that are 0 mean that there are no more characters, and everything above them has to be 0, too");
        EDGES.due("one character", new PinHouse().put('b'), 1);
        EDGES.due("eight, so that no bits are above", new PinHouse().put(Checks.packed("bbbbbbbb")), 8);
        EDGES.due("seven, with 8 bits above", new PinHouse().put(Checks.packed("bbbbbbb")), 7);
        EDGES.due("seven and a bit", new PinHouse().put(Checks.packed("bbbbbbb") | 1L << 56), -2);
        EDGES.due("six and a character above 8 bits", new PinHouse().put(Checks.packed("bbbbbb") | (long) 'b' << 56), -2);
        EDGES.due("nothing and a character above 8 bits", new PinHouse().put('b' << 8), -2);
    }

    private static void lengthThen() {
        EDGES.of("Promise 26", "Returns the length of the pad then");
        PinHouse x = new PinHouse();
        for (int length = 1; length <= 80; length++) EDGES.due("a character more", x.put('b'), length);
        EDGES.due("no more", x.put('b'), -4);
        EDGES.due("the length", x.count(11), 80);
    }

    private static void noCharacter() {
        EDGES.of("Promise 26", "BAD_VALUE if there is no character");
        EDGES.refused("put(0)", -2, Edges::rich, x -> x.put(0));
        EDGES.refused("put(0) in a new house", -2, PinHouse::new, x -> x.put(0));
    }

    private static void codeOutOfRange() {
        EDGES.of("Promise 26", "a code is not 33 to 126");
        for (int place = 0; place < 8; place++) {
            for (int code = 0; code <= 255; code++) {
                PinHouse x = new PinHouse();
                long characters = Checks.packed("aaaaaaaa") & ~(255L << 8 * place) | (long) code << 8 * place;
                // 8 bits that are 0 end the characters, and are in order in the highest place alone.
                int want = code >= 33 && code <= 126 ? 8 : code == 0 && place == 7 ? 7 : -2;
                EDGES.due("code " + code + " at place " + place, x.put(characters), want);
                EDGES.due("the length then", x.count(11), Math.max(0, want));
            }
        }
        for (int code : new int[] {1, 10, 31, 32, 127, 128, 255}) {
            EDGES.refused("code " + code + " alone", -2, Edges::rich, x -> x.put(code));
            EDGES.refused("code " + code + " before", -2, Edges::rich, x -> x.put((long) code << 8 | 'a'));
            EDGES.refused("code " + code + " as the first of 8", -2, Edges::rich, x -> x.put((long) code << 56 | 0x61616161616161L));
        }
        EDGES.refused("put(-1)", -2, Edges::rich, x -> x.put(-1));
        EDGES.refused("the least", -2, Edges::rich, x -> x.put(Long.MIN_VALUE));
        EDGES.refused("the most", -2, Edges::rich, x -> x.put(Long.MAX_VALUE));
        EDGES.due("33", new PinHouse().put(33), 1);
        EDGES.due("126", new PinHouse().put(126), 1);
    }

    private static void bitAboveZeroBits() {
        EDGES.of("Promise 26", "or a bit above 8 bits that are 0 is not 0");
        for (int many = 1; many <= 6; many++) {
            long characters = Checks.packed("b1;b1;b1".substring(0, many));
            for (int bit = 8 * many + 8; bit < 64; bit++) {
                long wrong = characters | 1L << bit;
                EDGES.due(many + " characters and bit " + bit, new PinHouse().put(wrong), -2);
            }
        }
        EDGES.refused("a character above", -2, Edges::rich, x -> x.put((long) 'a' << 16 | 'a'));
        EDGES.refused("the highest bit", -2, Edges::rich, x -> x.put(Long.MIN_VALUE | 'a'));
        EDGES.refused("characters above 8 bits at the end", -2, Edges::rich, x -> x.put(Checks.packed("abc") << 8));
        EDGES.refused("one bit above nothing", -2, Edges::rich, x -> x.put(1L << 8));
    }

    private static void padWouldBeLonger() {
        EDGES.of("Promise 26", "TOO_MANY if the pad would be longer than 80");
        for (int many = 1; many <= 8; many++) {
            String characters = "12345678".substring(0, many);
            int before = 81 - many;
            EDGES.refused(many + " after " + before, -4, () -> withPad("1".repeat(before)), x -> x.put(Checks.packed(characters)));
            EDGES.due(many + " after " + (before - 1), withPad("1".repeat(before - 1)).put(Checks.packed(characters)), 80);
        }
        PinHouse x = withPad("1".repeat(80));
        x.wipe();
        EDGES.due("after a wipe", x.put('a'), 1);
    }

    private static void putIsNoChange() {
        EDGES.of("Promise 30", "everything except the pad");
        PinHouse x = new PinHouse();
        x.brass(1);
        x.put('b');
        EDGES.due("changes", x.count(12), 1);
        x.undo();
        EDGES.due("the pad stays", x.count(11), 1);
        EDGES.due("what it holds", x.fault(), 1);
        x.wipe();
        EDGES.due("changes", x.count(12), 0);
        EDGES.due("nothing to undo", x.undo(), -5);
        EDGES.due("the pad stays empty", x.count(11), 0);
    }

    private static void wipeReturnsTheLength() {
        EDGES.of("Promise 27", "Empties the pad, and returns the length that it had");
        PinHouse x = new PinHouse();
        EDGES.due("an empty pad", x.wipe(), 0);
        for (int length : new int[] {1, 8, 79, 80}) {
            Checks.write(x, "b".repeat(length));
            EDGES.due(length + " characters", x.wipe(), length);
            EDGES.due("the length then", x.count(11), 0);
            EDGES.due("again", x.wipe(), 0);
        }
        Checks.write(x, "b1");
        EDGES.due("what is put then stands at the beginning", x.fault(), -6);
    }

    private static void noFault() {
        EDGES.of("Promise 28", "Returns the fault of the pad, NONE if there is none");
        PinHouse x = new PinHouse();
        EDGES.due("empty", x.fault(), 0);
        x.put('b');
        EDGES.due("'b'", x.fault(), 1);
        x.put('1');
        EDGES.due("'b1'", x.fault(), -6);
        x.put(';');
        EDGES.due("'b1;'", x.fault(), 3);
        x.put('x');
        EDGES.due("'b1;x'", x.fault(), 3);
        x.put('x');
        EDGES.due("'b1;xx'", x.fault(), 3);
        EDGES.due("orders that are errors are no faults", withPad("g9;tP;c9=9999/9999;k0909;b0").fault(), -6);
    }

    private static void faultChangesNothing() {
        EDGES.of("Promise 28", "Returns the fault of the pad");
        EDGES.asked("a right text", -6, Edges::rich, PinHouse::fault);
        EDGES.asked("an empty pad", 0, PinHouse::new, PinHouse::fault);
        EDGES.asked("a wrong text", 3, () -> withPad("b1;1"), PinHouse::fault);
    }

    private static void everyOrderOfAText() {
        EDGES.of("Texts", "\"k\": key() in the room of the walker; \"c\": cut() a lock anew; \"t\": take(); \"p\": putDown(); \"g\": go(); \"b\": brass()");
        PinHouse x = new PinHouse();
        Checks.write(x, "b1");
        EDGES.due("b1", x.carryOut(), 1);
        EDGES.due("the box", x.count(7), 1);
        x.brass(999);
        for (int key = 0; key < 15; key++) x.key(0, 7);
        Checks.write(x, "k0012");
        EDGES.due("k0012", x.carryOut(), 1);
        EDGES.due("its cuts", x.ofKey(15, 0), 12);
        EDGES.due("its room", x.ofKey(15, 2), 0);
        Checks.write(x, "tP");
        EDGES.due("tP", x.carryOut(), 1);
        EDGES.due("carried", x.count(1), 1 << 15);
        for (int door = 0; door < 10; door++) x.door(0, 7, 9, 9);
        Checks.write(x, "c9=0512/8012");
        EDGES.due("c9=0512/8012", x.carryOut(), 1);
        EDGES.due("its first row", x.ofDoor(9, 2), 512);
        EDGES.due("its second row", x.ofDoor(9, 3), 8012);
        Checks.write(x, "g9");
        EDGES.due("g9", x.carryOut(), 1);
        EDGES.due("the room", x.count(0), 7);
        Checks.write(x, "pP");
        EDGES.due("pP", x.carryOut(), 1);
        EDGES.due("where key P is", x.ofKey(15, 2), 7);
        Checks.write(x, "tA;tO");
        EDGES.due("tA;tO", x.carryOut(), 2);
        EDGES.due("carried", x.count(1), 1 | 1 << 14);
    }

    private static void upToTheFirstError() {
        EDGES.of("Promise 29", "up to the first one that returns an error");
        String[] texts = {"b0;b1;b2", "b1;b0;b2", "b1;b2;b0", "b1;b2;b3"};
        int[] done = {0, 1, 2, 3};
        int[] box = {0, 1, 3, 6};
        for (int text = 0; text < texts.length; text++) {
            PinHouse x = withPad(texts[text]);
            EDGES.due("'" + texts[text] + "'", x.carryOut(), done[text]);
            EDGES.due("the box", x.count(7), box[text]);
        }
    }

    private static void errorsOfOrders() {
        EDGES.of("Promise 29", "one that returns an error");
        for (String wrong : new String[] {"c3=0000/0000", "k0909", "tA", "tC", "tD", "tE", "pB", "pD", "pE", "g1", "g3", "b0"}) {
            refusedOrder(Edges.rich(), wrong);
            refusedOrder(Edges.rich(), "b1;" + wrong);
        }
        refusedOrder(Edges.poor(), "c0=9999/0000");
        refusedOrder(Edges.fullOfKeys(), "k0000");
    }

    /** The last order of a text is refused: those before it stand, and the one after it is not carried out. */
    private static void refusedOrder(PinHouse x, String text) {
        int before = text.startsWith("b1;") ? 1 : 0;
        int box = x.count(7);
        x.wipe();
        Checks.write(x, text + ";b5");
        EDGES.due("'" + text + ";b5'", x.carryOut(), before);
        EDGES.due("the box after '" + text + ";b5'", x.count(7), box + before);
    }

    private static void howManyOrders() {
        EDGES.of("Promise 29", "Returns how many orders were carried out");
        for (int many = 1; many <= 27; many++) {
            PinHouse x = withPad("b1" + ";b1".repeat(many - 1));
            EDGES.due(many + " orders", x.carryOut(), many);
            EDGES.due("the box", x.count(7), many);
        }
    }

    private static void faultFirst() {
        EDGES.of("Promise 29", "one after the other");
        PinHouse x = withPad("b1;b2");
        for (int times = 0; times < 3; times++) EDGES.due("fault", x.fault(), -6);
        EDGES.due("carried out once, however often its fault was asked for", x.carryOut(), 2);
        EDGES.due("the box", x.count(7), 3);
        Checks.write(x, "b4");
        EDGES.due("a shorter text then", x.carryOut(), 1);
        EDGES.due("the box", x.count(7), 7);
    }

    private static void emptiesThePad() {
        EDGES.of("Promise 29", "and empties the pad");
        for (String text : new String[] {"b1", "b0", "b1;b0;b1", "tA", "b1;".repeat(26) + "b1"}) {
            PinHouse x = withPad(text);
            x.carryOut();
            EDGES.due("the length after '" + text + "'", x.count(11), 0);
            EDGES.due("again", x.carryOut(), -3);
            x.put('b');
            EDGES.due("what is put then", x.fault(), 1);
        }
        EDGES.due("27 orders", withPad("b1;".repeat(26) + "b1").carryOut(), 27);
    }

    private static void padWithAFault() {
        EDGES.of("Promise 29", "BAD_TEXT if the pad has a fault (then it stays)");
        EDGES.refused("an empty pad", -3, PinHouse::new, PinHouse::carryOut);
        for (String text : new String[] {"x", "b1;", "b1;b2;x", "b1;b2;b00", "b1000", "b1;k000", "b1x"}) {
            EDGES.refused("'" + text + "'", -3, () -> withPad(text), PinHouse::carryOut);
        }
        PinHouse x = withPad("b1;b2;");
        EDGES.due("a fault at the end", x.carryOut(), -3);
        EDGES.due("no order is carried out", x.count(7), 0);
        Checks.write(x, "b3");
        EDGES.due("the pad stayed", x.carryOut(), 3);
        EDGES.due("the box", x.count(7), 6);
    }

    private static void carryOutIsOneChange() {
        EDGES.of("Promise 29", "This is a change (one, with all of them; also if none is carried out)");
        PinHouse x = new PinHouse();
        x.brass(1);
        Checks.write(x, "b1;b2;b3;b4;b5;b6;b7;b8");
        EDGES.due("eight orders", x.carryOut(), 8);
        EDGES.due("one change", x.count(12), 2);
        EDGES.due("undo", x.undo(), 1);
        EDGES.due("all of them are undone", x.count(7), 1);
        EDGES.due("the pad stays empty", x.count(11), 0);
        Checks.write(x, "b1;b0");
        x.carryOut();
        EDGES.due("one change, up to an error", x.count(12), 2);
        EDGES.due("undo", x.undo(), 1);
        EDGES.due("the box", x.count(7), 1);
    }

    private static void noneCarriedOut() {
        EDGES.of("Promise 29", "also if none is carried out");
        PinHouse x = withPad("b0;b1");
        EDGES.due("none", x.carryOut(), 0);
        EDGES.due("a change", x.count(12), 1);
        EDGES.due("undo", x.undo(), 0);
        PinHouse y = new PinHouse();
        for (int grams = 1; grams <= 6; grams++) y.brass(grams);
        Checks.write(y, "g0");
        EDGES.due("none", y.carryOut(), 0);
        for (int left = 5; left >= 0; left--) EDGES.due("undo", y.undo(), left);
        EDGES.due("it dropped the oldest state", y.count(7), 1);
    }

    private static void keyInTheRoomThen() {
        EDGES.of("Texts", "key() in the room of the walker");
        PinHouse x = new PinHouse();
        x.brass(4);
        x.door(0, 7, 0, 0);
        Checks.write(x, "k0000;tA;g0;k0001;g0;k0002");
        EDGES.due("carried out", x.carryOut(), 6);
        EDGES.due("the key before the way", x.ofKey(1, 2), 7);
        EDGES.due("the key after the way back", x.ofKey(2, 2), 0);
    }
}
