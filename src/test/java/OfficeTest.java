import java.lang.reflect.InvocationTargetException;
import java.lang.reflect.Method;
import java.util.ArrayList;
import java.util.Comparator;
import java.util.List;
import java.util.function.Consumer;
import java.util.function.ObjIntConsumer;
import java.util.function.Supplier;
import java.util.NoSuchElementException;

/** What the tests of the project share. */
abstract class OfficeTest {
    static final Class<IndexOutOfBoundsException> NO_SUCH = IndexOutOfBoundsException.class;
    static final Class<IllegalArgumentException> RANGE = IllegalArgumentException.class;
    static final Class<UnsupportedOperationException> REFUSED = UnsupportedOperationException.class;
    static final Class<NoSuchElementException> NO_ELEMENT = NoSuchElementException.class;
    static final Class<IllegalStateException> STATE = IllegalStateException.class;
    static final int LOW = Integer.MIN_VALUE;
    static final int HIGH = Integer.MAX_VALUE;
    static final int FIDDLE = 0;
    static final int ACCORDION = 1;
    static final int[] NOT_PITCHES = {-1, 8, LOW, HIGH};

    /** Runs every test of the class, a test being a method with the sentences that it is for. */
    static void runAll(Class<?> tests) {
        List<Method> methods = new ArrayList<>();
        for (Method method : tests.getDeclaredMethods()) {
            if (method.isAnnotationPresent(Says.class)) {
                methods.add(method);
            }
        }
        methods.sort(Comparator.comparing(Method::getName));
        for (Method method : methods) {
            run(method);
        }
        Check.end(tests.getName());
    }

    private static void run(Method method) {
        int before = Check.count();
        String thrown = "nothing";
        try {
            method.invoke(null);
        } catch (InvocationTargetException e) {
            thrown = e.getCause().toString();
        } catch (IllegalAccessException e) {
            thrown = e.toString();
        }
        Check.sameText(method.getName() + ": thrown out of it", "nothing", thrown);
        Check.isTrue(method.getName() + ": checks something", Check.count() > before + 1);
    }

    static int bits(float value) {
        return Float.floatToIntBits(value);
    }

    /** The call throws what is due, and nothing at all is different then. */
    static void thrown(String what, Supplier<BuskPitches> office, Class<? extends RuntimeException> due,
            Consumer<BuskPitches> call) {
        BuskPitches x = office.get();
        Check.thrown(what, due, () -> call.accept(x));
        Twins.areSame(what, office, call);
    }

    /** The same for each of the numbers. */
    static void thrownFor(int[] numbers, String what, Supplier<BuskPitches> office,
            Class<? extends RuntimeException> due, ObjIntConsumer<BuskPitches> call) {
        for (int number : numbers) {
            thrown(what + " with " + number, office, due, x -> call.accept(x, number));
        }
    }

    /** The same for numbers that no busker of the office has. */
    static void thrownForNoBusker(String what, Supplier<BuskPitches> office, ObjIntConsumer<BuskPitches> call) {
        int buskers = office.get().account(2);
        thrownFor(new int[] {-1, buskers, buskers + 1, LOW, HIGH}, what, office, NO_SUCH, call);
    }

    /** The call is refused for the reason with the detail, and but for these nothing is different then. */
    static void refused(String what, Supplier<BuskPitches> office, int reason, int detail,
            Consumer<BuskPitches> call) {
        refusedAtAll(what, office, reason, detail, call);
        Twins.haveSameTexts(what, office, call);
    }

    /** The text is refused likewise, and the input is empty then. */
    static void textRefused(String text, Supplier<BuskPitches> office, int reason, int detail) {
        refusedAtAll(text, office, reason, detail, x -> Offices.read(x, text));
        textHasError(text, office, -1);
    }

    private static void refusedAtAll(String what, Supplier<BuskPitches> office, int reason, int detail,
            Consumer<BuskPitches> call) {
        BuskPitches x = office.get();
        Check.thrown(what, REFUSED, () -> call.accept(x));
        Check.same(what + ": the reason", reason, x.refusal(false));
        Check.same(what + ": the detail", detail, x.refusal(true));
        Twins.haveSameState(what, office, call);
    }

    /** The text has no error, but an order that throws another exception than for a refusal. */
    static void textThrown(String text, Supplier<BuskPitches> office) {
        textThrownAtAll(text, office);
        textHasError(text, office, -1);
    }

    private static void textHasError(String text, Supplier<BuskPitches> office, int position) {
        BuskPitches x = office.get();
        Twins.attempt(() -> Offices.read(x, text));
        Check.same(text + ": the error position", position, x.errorPosition());
        Check.same(text + ": the input", 0, x.account(13));
    }

    /** The text has an error at the position, and but for the error position nothing is different then. */
    static void textWrong(String text, Supplier<BuskPitches> office, int position) {
        textThrownAtAll(text, office);
        textHasError(text, office, position);
    }

    private static void textThrownAtAll(String text, Supplier<BuskPitches> office) {
        BuskPitches x = office.get();
        Check.thrown(text, RANGE, () -> Offices.read(x, text));
        Twins.haveSameState(text, office, y -> Offices.read(y, text));
        Twins.haveSameReason(text, office, y -> Offices.read(y, text));
    }
}
