/** No call throws or changes by an error, whatever its arguments are, in many states, and after the 512th call. */
public final class WildTest {
    private static final Checks CHECKS = new Checks("WildTest");
    private static final int[] WILD = {Integer.MIN_VALUE, Integer.MIN_VALUE + 1, -10000, -7, -1, 0, 1, 2, 3, 5, 7, 8, 9, 10,
        15, 16, 31, 32, 33, 63, 64, 512, 1023, 1024, 1111, 9999, 10000, 65536, Integer.MAX_VALUE - 1, Integer.MAX_VALUE};

    private long seed = 4711;

    public static void main(String[] args) {
        WildTest test = new WildTest();
        test.eachFirstCall();
        for (int run = 0; run < 300; run++) test.longRun(run % 10 == 0 ? 5000 : 512);
        CHECKS.finish();
    }

    private int below(int bound) {
        seed = seed * 6364136223846793005L + 1442695040888963407L;
        return (int) ((seed >>> 33) % bound);
    }

    private int wild() {
        int kind = below(8);
        if (kind == 0) return below(2) == 0 ? below(1 << 30) : -below(1 << 30);
        return kind < 5 ? WILD[below(WILD.length)] : below(12);
    }

    private void eachFirstCall() {
        for (int method = 0; method < 31; method++) {
            for (int one : WILD) checked(new PinHouse(), method, one, one, one, one);
        }
    }

    private void longRun(int calls) {
        PinHouse x = new PinHouse();
        if (below(3) > 0) x.brass(1000);
        for (int call = 0; call < calls; call++) checked(x, below(31), wild(), wild(), wild(), wild());
    }

    /** An error must change nothing, and all the brass must be somewhere. */
    private void checked(PinHouse x, int method, int a, int b, int c, int d) {
        long before = Checks.sumOf(x);
        int pad = x.count(11);
        int states = x.count(12);
        int answer;
        try {
            answer = call(x, method, a, b, c, d);
        } catch (RuntimeException thrown) {
            CHECKS.isTrue("call " + method + " of " + a + ", " + b + ", " + c + ", " + d + " threw " + thrown, false);
            return;
        }
        String told = "call " + method + " of " + a + ", " + b + ", " + c + ", " + d + " with the answer " + answer;
        if (answer < 0) {
            boolean same = Checks.sumOf(x) == before && x.count(11) == pad && x.count(12) == states;
            CHECKS.isTrue(told + " changes nothing", same);
        }
        CHECKS.isTrue(told + " is an error code or a number", answer >= -6);
        CHECKS.isTrue(told + " keeps all the brass", x.count(5) + x.count(6) + x.count(7) + x.count(8) == x.count(4));
    }

    private int call(PinHouse x, int method, int a, int b, int c, int d) {
        switch (method) {
            case 0: return x.set(a, b);
            case 1: return x.brass(a);
            case 2: return x.door(a, b, c, d);
            case 3: return x.cut(a, b, c);
            case 4: return x.key(a, b);
            case 5: return x.melt(a);
            case 6: return x.take(a);
            case 7: return x.putDown(a);
            case 8: return x.go(a);
            case 9: return x.plan(a, b, c);
            case 10: return x.dropPlan();
            case 11: return x.carryPlan();
            case 12: return x.ofDoor(a, b);
            case 13: return x.ofKey(a, b);
            case 14: return x.count(a);
            case 15: return x.opens(a, b);
            case 16: return x.chanceKeys(a);
            case 17: return x.justFor(a);
            case 18: return x.reach();
            case 19: return x.doorsTo(a);
            case 20: return x.planOrder(a);
            case 21: return x.planOrders();
            case 22: return x.mustBeLast();
            case 23: return x.brassForPlan();
            case 24: return x.put(below(3) > 0 ? piece() : (long) a << 32 ^ b);
            case 25: return x.wipe();
            case 26: return x.fault();
            case 27: return x.carryOut();
            case 28: return x.undo();
            case 29: return x.save(a);
            default: return x.restore(a);
        }
    }

    private long piece() {
        String[] pieces = {"k1111", "c0=0000", "/0000", "tA", "pA", "g0", "b9", ";", "99", "b0", "kk", "~", "tP;pB;g1"};
        return Checks.packed(pieces[below(pieces.length)]);
    }
}
