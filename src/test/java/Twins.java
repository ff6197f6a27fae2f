import java.util.function.Consumer;
import java.util.function.Function;
import java.util.function.Supplier;

/** Compares an office in which a call was tried with one in which it was not: what a look, undo, restore, read tell. */
final class Twins {
    private static final int UNDOS = 14;
    private static final int INPUT = 13;

    private Twins() {
    }

    /** Nothing at all is different. */
    static void areSame(String what, Supplier<BuskPitches> office, Consumer<BuskPitches> call) {
        haveSameState(what, office, call);
        haveSameTexts(what, office, call);
        haveSameReason(what, office, call);
    }

    /** What changes can change is the same, what can be undone, and the snapshot. */
    static void haveSameState(String what, Supplier<BuskPitches> office, Consumer<BuskPitches> call) {
        int undos = office.get().account(UNDOS);
        for (int k = 0; k <= undos; k++) {
            int steps = k;
            compare(what + ": the state behind " + k + " undos", office, call, x -> undone(x, steps));
        }
        compare(what + ": the snapshot", office, call, Twins::restored);
    }

    /** The input and the error position are the same. */
    static void haveSameTexts(String what, Supplier<BuskPitches> office, Consumer<BuskPitches> call) {
        compare(what + ": the error position", office, call, x -> "" + x.errorPosition());
        compare(what + ": the input", () -> withInput(office.get()), call, Twins::readOut);
    }

    static void haveSameReason(String what, Supplier<BuskPitches> office, Consumer<BuskPitches> call) {
        compare(what + ": the reason", office, call, Twins::reason);
    }

    private static void compare(String what, Supplier<BuskPitches> office, Consumer<BuskPitches> call,
            Function<BuskPitches, String> look) {
        BuskPitches tried = office.get();
        attempt(() -> call.accept(tried));
        Check.sameText(what, look.apply(office.get()), look.apply(tried));
    }

    /** The name of the class of what was thrown, if something was. */
    static String attempt(Runnable call) {
        try {
            call.run();
            return "";
        } catch (RuntimeException e) {
            return e.getClass().getName();
        }
    }

    private static String undone(BuskPitches x, int steps) {
        for (int k = 0; k < steps; k++) {
            x.undo();
        }
        return Observed.withAllCounts(x);
    }

    private static String restored(BuskPitches x) {
        return attempt(x::restore) + Observed.withAllCounts(x);
    }

    private static BuskPitches withInput(BuskPitches x) {
        if (x.account(INPUT) == 0) {
            Offices.write(x, "c9;c17");
        }
        return x;
    }

    private static String readOut(BuskPitches x) {
        return x.account(INPUT) + attempt(x::read) + x.errorPosition() + Observed.withAllCounts(x);
    }

    private static String reason(BuskPitches x) {
        return attempt(() -> x.refusal(false)).isEmpty() ? x.refusal(false) + " " + x.refusal(true) : "none";
    }
}
