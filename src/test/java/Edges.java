import java.util.function.Supplier;
import java.util.function.ToIntFunction;

/** Checks of single sentences of the document: what fails is told with the sentence that it breaks. */
final class Edges {
    private final Checks checks;
    private String sentence = "";

    Edges(String test) {
        checks = new Checks(test);
    }

    /** Names the sentence, in the document's own words, that the next checks are about. */
    void of(String where, String words) {
        sentence = where + " (\"" + words + "\"): ";
    }

    void due(String call, long got, long want) {
        checks.due(sentence + call, got, want);
    }

    /** A call that is refused: it answers its error, and then everything is as if it had not been made. */
    void refused(String call, int want, Supplier<PinHouse> made, ToIntFunction<PinHouse> called) {
        due(call, called.applyAsInt(made.get()), want);
        same(call, made, called);
    }

    /** A question: it answers, and then everything is as if it had not been asked. */
    void asked(String call, int want, Supplier<PinHouse> made, ToIntFunction<PinHouse> called) {
        refused(call, want, made, called);
    }

    private void same(String call, Supplier<PinHouse> made, ToIntFunction<PinHouse> called) {
        String without = Everything.of(made);
        String with = Everything.of(() -> {
            PinHouse x = made.get();
            called.applyAsInt(x);
            return x;
        });
        checks.isTrue(sentence + call + " changes nothing", with.equals(without));
    }

    /** A house with something of each kind: little brass is left in it, and its last change is not its first. */
    static PinHouse rich() {
        PinHouse x = new PinHouse();
        x.brass(120);
        x.door(0, 1, 1111, 1112);
        x.door(1, 2, 2222, 2222);
        x.door(3, 4, 3333, 3333);
        x.key(1111, 0);
        x.key(2222, 0);
        x.key(3333, 5);
        x.key(4444, 0);
        x.save(1);
        x.take(0);
        x.melt(3);
        x.save(0);
        x.plan(2, 0, 1);
        x.plan(0, 4444, 4445);
        x.set(PinHouse.LOSS, 20);
        Checks.write(x, "b1;tB;b2");
        return x;
    }

    /** A rich house with nothing in its box. */
    static PinHouse poor() {
        PinHouse x = rich();
        for (int times = 0; times < 3; times++) x.door(6, 7, 9999, 0);
        x.door(6, 7, 9980, 9980);
        return x;
    }

    /** A rich house with ten doors. */
    static PinHouse fullOfDoors() {
        PinHouse x = rich();
        while (x.count(2) < 10) x.door(6, 7, 0, 0);
        return x;
    }

    /** A rich house with sixteen keys. */
    static PinHouse fullOfKeys() {
        PinHouse x = rich();
        while (x.count(3) < 16) x.key(0, 7);
        return x;
    }

    /** A rich house with six cuts in its plan, and ten doors. */
    static PinHouse fullPlan() {
        PinHouse x = fullOfDoors();
        for (int door = 4; x.count(9) < 6; door++) x.plan(door, 1, 1);
        return x;
    }

    void finish() {
        checks.finish();
    }
}
