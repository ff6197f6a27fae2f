import java.util.function.Supplier;

/** Tests for the sentences of the promises 23 to 40, at their bounds. */
public final class MoreBoundsTests extends OfficeTest {
    public static void main(String[] args) {
        runAll(MoreBoundsTests.class);
    }

    private static Supplier<BuskPitches> busy() {
        return Offices::busyWithErrors;
    }

    @Says(promise = 23, value = "Returns its place.")
    static void p23Rack() {
        BuskPitches x = Offices.full();
        int[] fiddles = {4, 0, 6};
        int[] accordions = {7, 1, 3};
        for (int place = 0; place < 3; place++) {
            Check.same("a fiddle", place, x.rack(fiddles[place], 0));
            Check.same("an accordion", place, x.rack(accordions[place], 1));
        }
        Check.same("on racks", 6, x.account(10));
    }

    @Says(promise = 23, value = {"- `busker`: the busker", "- `rack`: the rack",
        "Throws `IndexOutOfBoundsException` if there is no such busker or rack"})
    static void p23NoBuskerOrRack() {
        thrownForNoBusker("rack", busy(), (x, busker) -> x.rack(busker, 0));
        thrownForNoBusker("rack in a new office", BuskPitches::new, (x, busker) -> x.rack(busker, 1));
        thrownFor(new int[] {-1, 2, LOW, HIGH}, "rack", busy(), NO_SUCH, (x, rack) -> x.rack(3, rack));
        thrownFor(new int[] {-1, 2}, "rack of one on a rack", busy(), NO_SUCH, (x, rack) -> x.rack(0, rack));
    }

    @Says(promise = 23, value = "Throws `UnsupportedOperationException` if it is refused for reason 10, 11 or 12; the reason"
        + " is kept for refusal")
    static void p23Refused() {
        refused("on a rack", busy(), 10, 2, x -> x.rack(4, 0));
        refused("full", busy(), 11, 0, x -> x.rack(6, 0));
        refused("the other kind", busy(), 12, 1, x -> x.rack(6, 1));
    }

    @Says(promise = 24, value = "Returns the place that it had.")
    static void p24Unrack() {
        BuskPitches x = Offices.busy();
        Check.same("the first", 0, x.unrack(0));
        Check.same("the others stay", 1, x.unrack(2));
        Check.same("the last", 2, x.unrack(4));
        Check.same("the accordion", 0, x.unrack(1));
        Check.same("none", 0, x.account(10));
        Check.same("on no rack", -1, x.buskerOf(4, 4));
    }

    @Says(promise = 24, value = {"- `busker`: the busker",
        "Throws `IndexOutOfBoundsException` if there is no such busker"})
    static void p24NoBusker() {
        thrownForNoBusker("unrack", busy(), BuskPitches::unrack);
        thrownForNoBusker("unrack in a new office", BuskPitches::new, BuskPitches::unrack);
    }

    @Says(promise = 24, value = "Throws `UnsupportedOperationException` if it is refused for reason 13; the reason is kept"
        + " for refusal")
    static void p24Refused() {
        refused("the last", busy(), 13, 7, x -> x.unrack(7));
        refused("the first", Offices::full, 13, 0, x -> x.unrack(0));
    }

    @Says(promise = 25, value = "Returns the busker.")
    static void p25OnRack() {
        BuskPitches x = Offices.busy();
        for (int place = 0; place < 3; place++) {
            Check.same("a fiddle", 2 * place, x.onRack(0, place));
        }
        Check.same("an accordion", 1, x.onRack(1, 0));
    }

    @Says(promise = 25, value = {"- `rack`: the rack", "- `place`: the place",
        "Throws `IndexOutOfBoundsException` if there is no such rack or place"})
    static void p25NoRackOrPlace() {
        thrownFor(new int[] {-1, 2, LOW, HIGH}, "a rack", busy(), NO_SUCH, (x, rack) -> x.onRack(rack, 0));
        thrownFor(new int[] {-1, 3, LOW, HIGH}, "a place", busy(), NO_SUCH, (x, place) -> x.onRack(0, place));
        thrownFor(new int[] {-1, 3}, "a place of an empty rack", BuskPitches::new, NO_SUCH, (x, place) -> x.onRack(1, place));
    }

    @Says(promise = 25, value = "Throws `NoSuchElementException` if the place is free")
    static void p25Free() {
        thrown("behind the first", busy(), NO_ELEMENT, x -> x.onRack(1, 1));
        thrown("the last", busy(), NO_ELEMENT, x -> x.onRack(1, 2));
        thrown("the first of an empty rack", BuskPitches::new, NO_ELEMENT, x -> x.onRack(0, 0));
        BuskPitches x = Offices.busy();
        x.unrack(2);
        Check.thrown("between two", NO_ELEMENT, () -> x.onRack(0, 1));
        Check.same("behind it", 4, x.onRack(0, 2));
    }

    @Says(promise = 26, value = {"Returns a busker by what is in the hat, the most first, of several the one with the"
        + " lowest number.", "- `place`: the place in this order, from 0", "Returns the busker."})
    static void p26Ranked() {
        BuskPitches even = Offices.full();
        for (int place = 0; place < 8; place++) {
            Check.same("all alike", place, even.ranked(place));
        }
        BuskPitches x = Offices.busy();
        // The hats of 5, 6 and 1 hold most; those of the others nothing.
        int[] due = {5, 6, 1, 0, 2, 3, 4, 7};
        for (int place = 0; place < 8; place++) {
            Check.same("at " + place, due[place], x.ranked(place));
        }
        Check.same("one alone", 0, Offices.with(FIDDLE, 1).ranked(0));
        BuskPitches nearly = Offices.playing(FIDDLE, 1, 0, 120);
        nearly.busker(FIDDLE, 1);
        nearly.crowd(1);
        Offices.play(nearly, 1, 7);
        nearly.pass(1);
        Check.same("0.1f each: the lower", 0, nearly.ranked(0));
        nearly.leave(0);
        nearly.pass(1);
        Check.same("0.1f more", 1, nearly.ranked(0));
        Check.same("0.1f less", 0, nearly.ranked(1));
    }

    @Says(promise = 26, value = "Throws `NoSuchElementException` if there is no such place")
    static void p26NoPlace() {
        thrownFor(new int[] {-1, 8, 9, LOW, HIGH}, "ranked", busy(), NO_ELEMENT, BuskPitches::ranked);
        thrownFor(new int[] {-1, 3, 7}, "ranked of three", () -> Offices.of(3), NO_ELEMENT, BuskPitches::ranked);
        thrownFor(new int[] {-1, 0}, "ranked of nobody", BuskPitches::new, NO_ELEMENT, BuskPitches::ranked);
    }

    @Says(promise = 27, value = "Returns how many buskers are sent home in them, or go home with snapped strings.")
    static void p27Pass() {
        BuskPitches x = new BuskPitches();
        Check.same("nobody", 0, x.pass(60));
        for (int k = 0; k < 8; k++) {
            x.busker(k % 2, 9);
            x.limit(k, k % 2 == 0 ? 120 : 80);
        }
        for (int k = 0; k < 8; k++) {
            Offices.play(x, k, k);
        }
        Check.same("not yet", 0, x.pass(2));
        Check.same("all at once", 8, x.pass(1));
        Check.same("once each", 0, x.pass(1));
        BuskPitches y = Offices.playing(FIDDLE, 1, 0, 120);
        y.busker(FIDDLE, 9);
        y.limit(5, 120);
        Offices.play(y, 1, 5);
        Check.same("in different hours", 2, y.pass(20));
        BuskPitches z = Offices.playing(FIDDLE, 1, 0, 120);
        z.leave(0);
        Check.same("who left is not counted", 0, z.pass(60));
    }

    @Says(promise = 27, value = {"- `hours`: how many, 1 to 60",
        "Throws `IllegalArgumentException` if the number is out of range"})
    static void p27OutOfRange() {
        thrownFor(new int[] {0, -1, 61, LOW, HIGH}, "pass", busy(), RANGE, BuskPitches::pass);
        BuskPitches x = Offices.busy();
        int hour = x.account(0);
        x.pass(1);
        Check.same("the least", hour + 1, x.account(0));
        x.pass(60);
        Check.same("the most", hour + 61, x.account(0));
    }

    @Says(promise = 28, value = {"Returns what would be in the hat of a busker after hours, if only hours went by.",
        "Returns the bits, as by Float.floatToIntBits."})
    static void p28HatIn() {
        for (int hours = 0; hours <= 60; hours++) {
            BuskPitches x = Offices.busy();
            int due = x.hatIn(5, hours);
            Check.same("as it is when it is asked", bits(Offices.busy().hat(5)), bits(x.hat(5)));
            if (hours > 0) {
                x.pass(hours);
            }
            Check.same("as it is then", bits(x.hat(5)), due);
        }
        BuskPitches x = Offices.busy();
        Check.same("of one at home", bits(x.hat(6)), x.hatIn(6, 60));
        Check.same("of one in the line", 0, x.hatIn(3, 60));
        BuskPitches snaps = Offices.playing(FIDDLE, 5, 0, 120);
        Check.same("as long as the strings hold", bits(20.0f), snaps.hatIn(0, 60));
    }

    @Says(promise = 28, value = {"- `busker`: the busker",
        "Throws `IndexOutOfBoundsException` if there is no such busker"})
    static void p28NoBusker() {
        thrownForNoBusker("hatIn", busy(), (x, busker) -> x.hatIn(busker, 0));
        thrownForNoBusker("hatIn in a new office", BuskPitches::new, (x, busker) -> x.hatIn(busker, 60));
    }

    @Says(promise = 28, value = {"- `hours`: how many, 0 to 60",
        "Throws `IllegalArgumentException` if the number is out of range"})
    static void p28OutOfRange() {
        thrownFor(new int[] {-1, 61, LOW, HIGH}, "hatIn", busy(), RANGE, (x, hours) -> x.hatIn(5, hours));
        BuskPitches x = Offices.busy();
        Check.same("the least", bits(x.hat(5)), x.hatIn(5, 0));
        Check.isTrue("the most", x.hatIn(5, 60) > x.hatIn(5, 59));
    }

    @Says(promise = 29, value = {"Returns how many buskers would play behind some hours, if only hours went by.",
        "Returns how many."})
    static void p29PlayingIn() {
        Check.same("nobody", 0, new BuskPitches().playingIn(60));
        BuskPitches x = new BuskPitches();
        for (int k = 0; k < 8; k++) {
            x.busker(FIDDLE, k + 1);
            x.limit(k, 120);
        }
        for (int k = 0; k < 8; k++) {
            Offices.play(x, k, k);
        }
        int[] snapsIn = {20, 10, 7, 5, 4, 4, 3, 3};
        for (int hours = 0; hours <= 60; hours++) {
            int due = 0;
            for (int snaps : snapsIn) {
                due += hours < snaps ? 1 : 0;
            }
            Check.same("behind " + hours, due, x.playingIn(hours));
        }
        Check.same("and all now", 8, x.account(5));
        BuskPitches loud = Offices.playing(ACCORDION, 9, 0, 80);
        Check.same("two complaints", 1, loud.playingIn(2));
        Check.same("three complaints", 0, loud.playingIn(3));
    }

    @Says(promise = 29, value = {"- `hours`: how many, 0 to 60",
        "Throws `IllegalArgumentException` if the number is out of range"})
    static void p29OutOfRange() {
        thrownFor(new int[] {-1, 61, LOW, HIGH}, "playingIn", busy(), RANGE, BuskPitches::playingIn);
        Check.same("the least", 2, Offices.busy().playingIn(0));
        Check.same("the most", 2, Offices.busy().playingIn(60));
    }

    @Says(promise = 30, value = "Returns \"f\" with a fiddle, \"a\" with an accordion, \".\" without a busker, as a capital"
        + " letter if its noise is above its limit, and \"!\" then without a busker.")
    static void p30Sign() {
        BuskPitches x = new BuskPitches();
        x.busker(FIDDLE, 9);
        x.busker(ACCORDION, 9);
        Offices.play(x, 0, 5);
        Offices.play(x, 1, 7);
        x.limit(5, 86);
        x.limit(7, 91);
        x.limit(6, 45);
        Check.same("a fiddle at the limit", 'f', x.sign(5));
        Check.same("an accordion at the limit", 'a', x.sign(7));
        Check.same("nobody below the limit", '.', x.sign(6));
        x.limit(5, 85);
        x.limit(7, 90);
        x.limit(6, 44);
        Check.same("a fiddle above the limit", 'F', x.sign(5));
        Check.same("an accordion above the limit", 'A', x.sign(7));
        Check.same("nobody, but by 0.25f above the limit", '!', x.sign(6));
        Check.same("nobody", '.', x.sign(0));
    }

    @Says(promise = 30, value = {"- `pitch`: the pitch", "Throws `IndexOutOfBoundsException` if there is no such pitch"})
    static void p30NoPitch() {
        thrownFor(NOT_PITCHES, "sign", busy(), NO_SUCH, BuskPitches::sign);
    }

    @Says(promise = 31, value = {"- `c`: the character", "Returns the characters in the input then."})
    static void p31Append() {
        BuskPitches x = Offices.busy();
        for (int k = 1; k <= 60; k++) {
            Check.same("characters then", k, x.append((char) (k * 5 - 5)));
        }
        Check.thrown("what is no text", RANGE, x::read);
        Check.same("the first again", 1, x.append('c'));
        Check.same("the second", 2, x.append('0'));
        Check.same("is what was appended", 1, x.read());
        Check.same("with the crowd", 0, x.account(1));
    }

    @Says(promise = 31, value = "Throws `IllegalStateException` if the input contains 60 characters")
    static void p31Full() {
        Supplier<BuskPitches> full = Offices.writing(busy(), "p1;".repeat(20));
        thrown("a 61st", full, STATE, x -> x.append('w'));
        Supplier<BuskPitches> twice = () -> {
            BuskPitches x = full.get();
            Check.thrown("a 61st", STATE, () -> x.append('w'));
            return x;
        };
        thrown("and again", twice, STATE, x -> x.append((char) 0));
        Supplier<BuskPitches> nearly = Offices.writing(busy(), "p1;".repeat(19) + "p1");
        Check.same("a 60th", 60, nearly.get().append('2'));
    }

    @Says(promise = 32, value = {"Carries out the text in the input, which is empty afterwards, also if an exception is"
        + " thrown.", "Returns the number of orders."})
    static void p32Read() {
        for (int orders = 1; orders <= 20; orders++) {
            BuskPitches x = Offices.busy();
            Check.same("orders", orders, Offices.read(x, "c" + orders % 10 + ";c1".repeat(orders - 1)));
            Check.same("empty", 0, x.account(13));
        }
        BuskPitches x = Offices.busy();
        for (String text : new String[] {"w", "w8", "w0", ""}) {
            Check.isTrue("thrown", !Twins.attempt(() -> Offices.read(x, text)).isEmpty());
            Check.same("empty also then", 0, x.account(13));
            Check.same("so that the next text stands alone", 1, Offices.read(x, "c7"));
        }
    }

    @Says(promise = 32, value = "Throws `IllegalArgumentException` if the text has an error, or the method for an order"
        + " would throw another exception than UnsupportedOperationException; if the text has no error, its position is -1")
    static void p32Thrown() {
        textWrong("", busy(), 0);
        textWrong("c", busy(), 1);
        textWrong("c51;", busy(), 4);
        for (String text : new String[] {"w8", "w9", "d8#0", "x8", "s8", "a8", "c51", "p0", "p61", "d8#99", "c1;x9"}) {
            textThrown(text, busy());
        }
        for (String text : new String[] {"w0", "s0"}) {
            textThrown(text, BuskPitches::new);
        }
    }

    @Says(promise = 32, value = "Throws `UnsupportedOperationException` if it is refused for a reason of the method for an"
        + " order; the reason is kept for refusal")
    static void p32Refused() {
        textRefused("w0", busy(), 2, 1);
        textRefused("w1", busy(), 3, 2);
        textRefused("w6", busy(), 4, 6);
        textRefused("d2#7", busy(), 5, 1);
        textRefused("d7#7", Offices::full, 6, 0);
        textRefused("x7", busy(), 7, 7);
        textRefused("s7", busy(), 8, 0);
        textRefused("a5", busy(), 9, 5);
    }

    @Says(promise = 33, value = {"Returns the error position of the text of the latest call of read.",
        "Returns the error position, or -1 if that text had no error or read has not been called."})
    static void p33ErrorPosition() {
        BuskPitches x = Offices.full();
        Check.same("not called", -1, x.errorPosition());
        Check.thrown("an empty text", RANGE, x::read);
        Check.same("at 0", 0, x.errorPosition());
        Check.thrown("another", RANGE, () -> Offices.read(x, "c1;q"));
        Check.same("the latest", 3, x.errorPosition());
        x.append('z');
        Check.same("of what was read", 3, x.errorPosition());
        Check.thrown("at the first character", RANGE, x::read);
        Check.same("at 0 again", 0, x.errorPosition());
        Check.thrown("refused", REFUSED, () -> Offices.read(x, "x0"));
        Check.same("no error of the text", -1, x.errorPosition());
        Check.thrown("an error", RANGE, () -> Offices.read(x, "w"));
        Check.thrown("out of range", RANGE, () -> Offices.read(x, "c51"));
        Check.same("no error of the text either", -1, x.errorPosition());
        Check.thrown("an error", RANGE, () -> Offices.read(x, "w"));
        Offices.read(x, "w0");
        Check.same("none", -1, x.errorPosition());
    }

    @Says(promise = 34, value = {"Returns the reason of the latest refusal.",
        "- `isDetail`: true for the detail, false for the reason", "Returns the reason or the detail."})
    static void p34Refusal() {
        BuskPitches x = Offices.busy();
        Check.thrown("a refusal", REFUSED, () -> x.leave(0));
        Check.same("its reason", 7, x.refusal(false));
        Check.same("its detail", 0, x.refusal(true));
        Check.thrown("a later one", REFUSED, () -> x.join(6));
        Check.same("the later reason", 4, x.refusal(false));
        Check.same("the later detail", 6, x.refusal(true));
        Check.thrown("no refusal", RANGE, () -> x.crowd(51));
        x.pass(1);
        Check.same("still the reason", 4, x.refusal(false));
        Check.same("still the detail", 6, x.refusal(true));
    }

    @Says(promise = 34, value = "Throws `NoSuchElementException` if nothing was refused")
    static void p34Nothing() {
        thrown("the reason", BuskPitches::new, NO_ELEMENT, x -> x.refusal(false));
        thrown("the detail", BuskPitches::new, NO_ELEMENT, x -> x.refusal(true));
        thrown("nothing was refused", Offices::busy, NO_ELEMENT, x -> x.refusal(false));
        BuskPitches x = Offices.busy();
        Check.thrown("no refusal", NO_SUCH, () -> x.join(8));
        Check.thrown("nor this", RANGE, () -> Offices.read(x, "w8"));
        Check.thrown("nothing was refused still", NO_ELEMENT, () -> x.refusal(true));
    }

    @Says(promise = 35, value = {"- `what`: 0 for the hour, 1 for the crowd, 2 for the buskers, 3 for those at home, 4 for"
        + " those who wait, 5 for those who play, 6 for those with snapped strings, 7 for the complaints about all pitches,"
        + " 8 for those answered so far, 9 for all complaints so far, 10 for the cases on racks, 11 for the strings bought"
        + " so far, 12 for the draws so far, 13 for the characters in the input, 14 for the changes that can be undone",
        "Returns the account."})
    static void p35Account() {
        int[] due = {6, 23, 8, 4, 2, 2, 1, 3, 1, 4, 4, 1, 4, 5, 8};
        BuskPitches x = Offices.writing(Offices::busy, "w0;;;").get();
        for (int what = 0; what <= 14; what++) {
            Check.same("account(" + what + ")", due[what], x.account(what));
        }
        x.restore();
        int[] restored = {4, 10, 8, 6, 0, 2, 1, 3, 1, 4, 0, 1, 4, 5, 0};
        for (int what = 0; what <= 14; what++) {
            Check.same("account(" + what + ") of the snapshot", restored[what], x.account(what));
        }
        for (int what = 0; what <= 14; what++) {
            Check.same("account(" + what + ") of a new office", what == 1 ? 10 : 0, new BuskPitches().account(what));
        }
    }

    @Says(promise = 35, value = "Throws `IllegalArgumentException` if what is not from 0 to 14")
    static void p35NoSuchAccount() {
        thrownFor(new int[] {-1, 15, LOW, HIGH}, "account", busy(), RANGE, BuskPitches::account);
    }

    @Says(promise = 36, value = "Returns whether this is so.")
    static void p36IsWell() {
        Check.isTrue("a new office", new BuskPitches().isWell());
        Check.isTrue("a full one", Offices.full().isWell());
        BuskPitches x = Offices.busyWithErrors();
        Check.isTrue("a busy one", x.isWell());
        for (int left = 8; left > 0; left--) {
            x.undo();
            Check.isTrue("behind undo", x.isWell());
        }
        x.restore();
        Check.isTrue("behind restore", x.isWell());
        BuskPitches moved = Offices.busy();
        moved.noiseAgain(0);
        moved.leave(2);
        Check.isTrue("behind leave", moved.isWell());
        moved.draw(7, 0);
        Check.isTrue("behind draw", moved.isWell());
        moved.swap(5, 7);
        Check.isTrue("behind swap", moved.isWell());
    }

    @Says(promise = 37, value = {"Returns the mean of the hats of all buskers: their sum, by numbers, as doubles, beginning"
        + " with 0.0, divided by their number as a double.", "Returns the bits, as by Double.doubleToLongBits."})
    static void p37Mean() {
        for (int buskers = 1; buskers <= 8; buskers++) {
            BuskPitches x = Offices.of(buskers);
            checkMean("empty hats of " + buskers, x);
            x.crowd(1);
            for (int k = 0; k < buskers; k++) {
                x.limit(k, 120);
                Offices.play(x, k, k);
            }
            for (int hour = 0; hour < 12; hour++) {
                x.pass(1);
                checkMean("hats of " + buskers, x);
            }
        }
        BuskPitches one = Offices.playing(ACCORDION, 1, 0, 80);
        one.pass(1);
        Check.same("1.0 of one", Double.doubleToLongBits(1.0), one.meanBits());
        one.busker(FIDDLE, 1);
        Check.same("0.5 of two", Double.doubleToLongBits(0.5), one.meanBits());
        one.pass(3);
        Check.same("2.0 of two", Double.doubleToLongBits(2.0), one.meanBits());
        // A sum of floats would lose the tenths of the one beside the thousands of the other.
        BuskPitches far = Offices.playing(ACCORDION, 9, 0, 120);
        far.busker(ACCORDION, 1);
        far.crowd(50);
        for (int k = 0; k < 100; k++) {
            far.pass(60);
        }
        far.crowd(1);
        Offices.play(far, 1, 7);
        far.leave(0);
        far.pass(1);
        checkMean("a full hat and a tenth", far);
    }

    private static void checkMean(String what, BuskPitches x) {
        int buskers = x.account(2);
        double sum = 0.0;
        for (int k = 0; k < buskers; k++) {
            sum = sum + (double) x.hat(k);
        }
        Check.same("the mean of " + what, Double.doubleToLongBits(sum / (double) buskers), x.meanBits());
    }

    @Says(promise = 37, value = "Throws `ArithmeticException` if there are none")
    static void p37Nobody() {
        thrown("no buskers", BuskPitches::new, ArithmeticException.class, BuskPitches::meanBits);
        BuskPitches x = Offices.with(FIDDLE, 1);
        Check.same("one", 0L, x.meanBits());
        x.undo();
        Check.thrown("none again", ArithmeticException.class, x::meanBits);
    }

    @Says(promise = 38, value = "Returns the number of changes that can still be undone.")
    static void p38Undo() {
        BuskPitches x = Offices.busy();
        for (int left = 7; left >= 0; left--) {
            Check.same("still", left, x.undo());
            Check.same("as is told", left, x.account(14));
        }
        x.crowd(1);
        Check.same("the only one", 0, x.undo());
    }

    @Says(promise = 38, value = "Throws `IllegalStateException` if no change can be undone")
    static void p38Nothing() {
        thrown("a new office", BuskPitches::new, STATE, BuskPitches::undo);
        Supplier<BuskPitches> undone = () -> {
            BuskPitches x = Offices.busyWithErrors();
            for (int k = 0; k < 8; k++) {
                x.undo();
            }
            return x;
        };
        thrown("a ninth", undone, STATE, BuskPitches::undo);
        Supplier<BuskPitches> again = () -> {
            BuskPitches x = undone.get();
            Check.thrown("a ninth", STATE, x::undo);
            x.crowd(1);
            x.undo();
            return x;
        };
        thrown("one change, undone", again, STATE, BuskPitches::undo);
    }

    @Says(promise = 39, value = {"Takes a snapshot of what changes can change, in place of an earlier one.",
        "Returns the buskers."})
    static void p39Save() {
        Check.same("nobody", 0, new BuskPitches().save());
        Check.same("all", 8, Offices.full().save());
        BuskPitches x = Offices.busy();
        x.unrack(4);
        String due = Observed.of(x);
        Check.same("save", 8, x.save());
        x.pass(9);
        x.restore();
        Check.sameText("the later one", due, Observed.of(x));
        BuskPitches y = new BuskPitches();
        y.save();
        y.busker(FIDDLE, 1);
        y.save();
        y.undo();
        Check.same("undo leaves the snapshot", 1, y.restore());
        Twins.haveSameTexts("save", Offices::busyWithErrors, BuskPitches::save);
        Twins.haveSameReason("save", Offices::busyWithErrors, BuskPitches::save);
        Check.sameText("and the state", Observed.withAllCounts(Offices.busy()), Observed.withAllCounts(saved()));
    }

    private static BuskPitches saved() {
        BuskPitches x = Offices.busy();
        x.save();
        return x;
    }

    @Says(promise = 40, value = {"Makes everything that changes can change as it is in the snapshot, which stays.",
        "Returns the buskers."})
    static void p40Restore() {
        for (int round = 0; round <= 2; round++) {
            BuskPitches x = saved();
            for (int k = 0; k < round; k++) {
                Check.same("restore", 8, x.restore());
                x.pass(60);
                x.answer(7);
                x.unrack(4);
                x.crowd(0);
                x.limit(2, 40);
                x.draw(4, 1);
            }
            Check.same("restore at last", 8, x.restore());
            Check.sameText("restored " + round, Observed.of(Offices.busy()), Observed.of(x));
        }
        BuskPitches empty = new BuskPitches();
        empty.save();
        empty.busker(FIDDLE, 1);
        Check.same("nobody", 0, empty.restore());
        Check.same("nobody is kept", 0, empty.account(2));
        Check.thrown("nobody is there", NO_SUCH, () -> empty.hat(0));
        Check.same("the first number again", 0, empty.busker(ACCORDION, 2));
        Check.same("of another kind", 1, empty.buskerOf(0, 0));
    }

    @Says(promise = 40, value = "Throws `IllegalStateException` if there is no snapshot")
    static void p40NoSnapshot() {
        thrown("a new office", BuskPitches::new, STATE, BuskPitches::restore);
        thrown("a full one", Offices::full, STATE, BuskPitches::restore);
    }
}
