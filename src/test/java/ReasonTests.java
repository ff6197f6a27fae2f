import java.util.List;
import java.util.function.Consumer;
import java.util.function.Supplier;

/** A test for each sentence of "Terms" on reasons, undo and exceptions. */
public final class ReasonTests extends OfficeTest {
    public static void main(String[] args) {
        runAll(ReasonTests.class);
    }

    // Reasons.

    @Says("Something is refused for the first that applies of the reasons that its method names, in the order in which"
        + " it names them, with a detail:")
    static void firstReasonThatApplies() {
        Supplier<BuskPitches> nobodyWaits = () -> Offices.playing(FIDDLE, 1, 3, 80);
        refused("5 ahead of 6", nobodyWaits, 5, 0, x -> x.draw(3, 7));
        refused("7 for the first pitch ahead of the second", nobodyWaits, 7, 6, x -> x.swap(6, 2));
        refused("10 ahead of 11", Offices::busy, 10, 1, x -> x.rack(2, 0));
        refused("10 ahead of 12", Offices::busy, 10, 1, x -> x.rack(2, 1));
        refused("10 ahead of 11 and 12", Offices::busy, 10, 0, x -> x.rack(1, 0));
        refused("11 ahead of 12", Offices::busy, 11, 0, x -> x.rack(3, 0));
        refused("2 for one who waits", Offices::busy, 2, 1, x -> x.join(0));
        refused("4 for one whose strings are snapped", Offices::busy, 4, 6, x -> x.join(6));
    }

    @Says("1, there are 8 buskers: 8;")
    static void reason1() {
        refused("a ninth busker", Offices::full, 1, 8, x -> x.busker(FIDDLE, 1));
        refused("a ninth with an accordion", Offices::busyWithErrors, 1, 8, x -> x.busker(ACCORDION, 9));
        Check.same("the eighth", 7, Offices.of(7).busker(FIDDLE, 1));
    }

    @Says("2, the busker waits: the place in the line;")
    static void reason2() {
        refused("the first of the line", Offices::busyWithErrors, 2, 0, x -> x.join(3));
        refused("the last of the line", Offices::busyWithErrors, 2, 1, x -> x.join(0));
        Supplier<BuskPitches> longLine = () -> {
            BuskPitches x = Offices.full();
            for (int k = 7; k >= 0; k--) {
                x.join(k);
            }
            return x;
        };
        refused("the last of the longest line", longLine, 2, 7, x -> x.join(0));
        textRefused("w3", Offices::busy, 2, 0);
        textRefused("w4;w4", Offices::busy, 2, 2);
    }

    @Says("3, the busker plays: the pitch;")
    static void reason3() {
        for (int pitch = 0; pitch <= 7; pitch++) {
            int at = pitch;
            refused("on " + pitch, () -> Offices.playing(FIDDLE, 1, at, 80), 3, pitch, x -> x.join(0));
        }
        textRefused("w5", Offices::busy, 3, 5);
        textRefused("d6#0;w3", Offices::busy, 3, 6);
    }

    @Says("4, the strings are snapped: the busker;")
    static void reason4() {
        refused("snapped", Offices::busyWithErrors, 4, 6, x -> x.join(6));
        textRefused("w6", Offices::busy, 4, 6);
        Supplier<BuskPitches> even = () -> {
            BuskPitches x = Offices.playing(FIDDLE, 4, 0, 120);
            x.pass(5);
            return x;
        };
        refused("snapped by exactly 1.0f", even, 4, 0, x -> x.join(0));
        BuskPitches x = Offices.playing(FIDDLE, 4, 0, 120);
        x.pass(4);
        x.leave(0);
        Check.same("not snapped yet", 1, x.join(0));
    }

    @Says("5, a busker is on the pitch: that busker;")
    static void reason5() {
        refused("taken", Offices::busyWithErrors, 5, 5, x -> x.draw(5, 99));
        textRefused("d2#0", Offices::busy, 5, 1);
        textRefused("d0#0;d0#0", Offices::busy, 5, 3);
    }

    @Says("6, nobody waits: 0;")
    static void reason6() {
        refused("nobody in a new office", BuskPitches::new, 6, 0, x -> x.draw(7, 99));
        refused("nobody in a full one", Offices::full, 6, 0, x -> x.draw(3, 1));
        textRefused("d0#0;d1#0;d3#9", Offices::busy, 6, 0);
    }

    @Says("7, nobody is on the pitch: the pitch;")
    static void reason7() {
        for (int pitch = 0; pitch <= 7; pitch++) {
            int at = pitch;
            refused("leave of " + pitch, () -> Offices.of(1), 7, pitch, x -> x.leave(at));
            refused("swap of " + pitch, () -> Offices.of(1), 7, pitch, x -> x.swap(at, at));
        }
        refused("swap of an empty one", Offices::busyWithErrors, 7, 7, x -> x.swap(7, 2));
        refused("swap with an empty one", Offices::busyWithErrors, 7, 7, x -> x.swap(2, 7));
        textRefused("x3", Offices::busy, 7, 3);
        textRefused("x2;x2", Offices::busy, 7, 2);
    }

    @Says("8, there is too little in the hat: what is in it, rounded down;")
    static void reason8() {
        refused("nothing", Offices::busyWithErrors, 8, 0, x -> x.strings(1 + 2));
        checkTooLittle(9, 0);
        checkTooLittle(10, 1);
        checkTooLittle(19, 1);
        BuskPitches enough = withTenths(20);
        Check.same("2.0f is enough", bits(0.0f), enough.strings(0));
        textRefused("s3", Offices::busy, 8, 0);
        textRefused("s5;s5;s5;s5;s5;s5;s5;s5;s5;s5;s5;s5;s5;s5;s5", Offices::busy, 8, 1);
    }

    private static void checkTooLittle(int tenths, int detail) {
        refused(tenths + " tenths", () -> withTenths(tenths), 8, detail, x -> x.strings(0));
    }

    /** A busker with so many tenths in the hat. */
    private static BuskPitches withTenths(int tenths) {
        BuskPitches x = Offices.playing(FIDDLE, 1, 0, 120);
        x.crowd(tenths);
        x.pass(1);
        return x;
    }

    @Says("9, there are no complaints: the pitch;")
    static void reason9() {
        for (int pitch = 0; pitch <= 7; pitch++) {
            int at = pitch;
            refused("answer to " + pitch, () -> Offices.of(2), 9, pitch, x -> x.answer(at));
        }
        refused("answered already", Offices::busyWithErrors, 9, 5, x -> x.answer(5));
        textRefused("a0", Offices::busy, 9, 0);
        textRefused("a7;a7", Offices::busy, 9, 7);
    }

    @Says("10, the case is on a rack: its place;")
    static void reason10() {
        for (int place = 0; place <= 2; place++) {
            int busker = 2 * place;
            refused("at " + place, Offices::busyWithErrors, 10, place, x -> x.rack(busker, 0));
        }
        refused("an accordion", Offices::busyWithErrors, 10, 0, x -> x.rack(1, 1));
    }

    @Says("11, the rack is full: the rack;")
    static void reason11() {
        refused("the fiddle rack", Offices::busyWithErrors, 11, 0, x -> x.rack(6, 0));
        Supplier<BuskPitches> fullRacks = () -> {
            BuskPitches x = Offices.busy();
            x.rack(3, 1);
            x.rack(5, 1);
            return x;
        };
        refused("the accordion rack", fullRacks, 11, 1, x -> x.rack(7, 1));
        Check.same("the last place", 2, rackWithTwo().rack(5, 1));
    }

    private static BuskPitches rackWithTwo() {
        BuskPitches x = Offices.busy();
        x.rack(3, 1);
        return x;
    }

    @Says("12, the rack is for the other kind: the rack;")
    static void reason12() {
        refused("a fiddle case", Offices::busyWithErrors, 12, 1, x -> x.rack(6, 1));
        refused("an accordion case", Offices::full, 12, 0, x -> x.rack(7, 0));
    }

    @Says("13, the case is on no rack: the busker.")
    static void reason13() {
        for (int busker = 0; busker < 8; busker++) {
            int same = busker;
            refused("the case of " + busker, Offices::full, 13, busker, x -> x.unrack(same));
        }
        refused("taken off already", Offices::busyWithErrors, 13, 7, x -> x.unrack(7));
    }

    @Says("A full rack is told ahead of one for the other kind.")
    static void fullAheadOfOtherKind() {
        refused("full", Offices::busyWithErrors, 11, 0, x -> x.rack(7, 0));
        BuskPitches x = Offices.busy();
        x.unrack(2);
        Check.thrown("not full", REFUSED, () -> x.rack(7, 0));
        Check.same("so it is the kind", 12, x.refusal(false));
    }

    // Undo.

    @Says("The changes are the successful calls of crowd, limit, busker, join, draw, leave, swap, strings, answer, rack,"
        + " unrack, pass and read,")
    static void changesAreUndone() {
        changed("crowd", x -> x.crowd(50));
        changed("limit", x -> x.limit(0, 40));
        changed("busker", x -> x.busker(ACCORDION, 9));
        changed("join", x -> x.join(3));
        changed("draw", x -> x.draw(7, 99));
        changed("leave", x -> x.leave(2));
        changed("swap", x -> x.swap(2, 6));
        changed("strings", x -> x.strings(1));
        changed("answer", x -> x.answer(6));
        changed("rack", x -> x.rack(1, 1));
        changed("unrack", x -> x.unrack(0));
        changed("pass", x -> x.pass(60));
        changed("read", x -> Offices.read(x, "w3;d7#1;x2;s1;a6;c1;p1"));
    }

    /** Seven buskers, two changes that can be undone, and a snapshot of what was before these. */
    private static BuskPitches withTwoChanges() {
        BuskPitches x = Offices.of(7);
        Offices.play(x, 1, 2);
        Offices.play(x, 5, 6);
        x.limit(6, 40);
        x.pass(1);
        x.save();
        x.restore();
        x.rack(0, 0);
        x.join(2);
        return x;
    }

    /** The call makes a difference, is one change, and leaves nothing behind when it is undone. */
    private static void changed(String what, Consumer<BuskPitches> call) {
        BuskPitches x = withTwoChanges();
        call.accept(x);
        Check.isTrue(what + ": makes a difference", !Observed.of(withTwoChanges()).equals(Observed.of(x)));
        countsAsOne(what, ReasonTests::withTwoChanges, call);
    }

    private static void countsAsOne(String what, Supplier<BuskPitches> office, Consumer<BuskPitches> call) {
        BuskPitches x = office.get();
        int before = x.account(14);
        call.accept(x);
        Check.same(what + ": one change more", before + 1, x.account(14));
        Check.same(what + ": undo", before, x.undo());
        Twins.haveSameState(what + " undone", office, y -> {
            call.accept(y);
            y.undo();
        });
    }

    @Says("also if nothing is different then.")
    static void changesWithoutADifference() {
        unchanged("crowd", x -> x.crowd(10));
        unchanged("limit", x -> x.limit(6, 40));
        unchanged("swap", x -> x.swap(2, 2));
        unchanged("a text with one order", x -> Offices.read(x, "c10"));
        unchanged("a text that takes back what it did", x -> Offices.read(x, "c0;c10"));
    }

    private static void unchanged(String what, Consumer<BuskPitches> call) {
        BuskPitches x = withTwoChanges();
        call.accept(x);
        Check.sameText(what + ": no difference", Observed.of(withTwoChanges()), Observed.of(x));
        countsAsOne(what, ReasonTests::withTwoChanges, call);
    }

    @Says("The changes are the successful calls of")
    static void lookUpsAreNoChanges() {
        List<Consumer<BuskPitches>> calls = List.of(x -> x.buskerOf(7, 6), x -> x.hat(0), x -> x.wear(6),
            x -> x.pitchOf(7, 2), x -> x.waiting(1), x -> x.noise(0), x -> x.noiseAgain(7), x -> x.below(3),
            x -> x.noiseWith(5, 1), x -> x.quietest(0), x -> x.loudest(), x -> x.snapsIn(6), x -> x.onRack(0, 2),
            x -> x.ranked(7), x -> x.hatIn(1, 60), x -> x.playingIn(60), x -> x.sign(2), x -> x.errorPosition(),
            x -> x.refusal(true), x -> x.account(14), x -> x.isWell(), x -> x.meanBits());
        for (int k = 0; k < calls.size(); k++) {
            Consumer<BuskPitches> call = calls.get(k);
            Check.sameText("look-up " + k, "", Twins.attempt(() -> call.accept(Offices.busyWithErrors())));
            Twins.areSame("look-up " + k, Offices::busyWithErrors, call);
        }
        BuskPitches x = withTwoChanges();
        x.append('w');
        x.save();
        Check.same("neither append nor save", 2, x.account(14));
    }

    @Says("The latest 8 can be undone;")
    static void latest8CanBeUndone() {
        for (int changes = 0; changes <= 17; changes++) {
            BuskPitches x = withCrowds(changes);
            int most = Math.min(8, changes);
            Check.same("that can be undone of " + changes, most, x.account(14));
            for (int left = most - 1; left >= 0; left--) {
                Check.same("undo of " + changes, left, x.undo());
                Check.same("the crowd then", crowdBehind(changes - most + left), x.account(1));
            }
            Check.thrown("one undo too many of " + changes, STATE, x::undo);
            Check.same("the crowd still", crowdBehind(changes - most), x.account(1));
        }
    }

    private static BuskPitches withCrowds(int changes) {
        BuskPitches x = new BuskPitches();
        for (int k = 1; k <= changes; k++) {
            x.crowd(crowdBehind(k));
        }
        return x;
    }

    private static int crowdBehind(int changes) {
        return 10 + changes;
    }

    @Says("The latest 8 can be undone;")
    static void changesBehindUndo() {
        BuskPitches x = withCrowds(12);
        for (int k = 0; k < 5; k++) {
            x.undo();
        }
        x.crowd(3);
        Check.same("three left and a new one", 4, x.account(14));
        Check.same("the new one is undone", 3, x.undo());
        Check.same("to what was before it", crowdBehind(7), x.account(1));
        for (int k = 0; k < 6; k++) {
            x.limit(k, 40);
        }
        Check.same("eight at most", 8, x.account(14));
        for (int left = 7; left >= 0; left--) {
            Check.same("undone", left, x.undo());
        }
        Check.same("one of the first is forgotten", crowdBehind(5), x.account(1));
    }

    @Says("restore forgets all.")
    static void restoreForgetsAll() {
        for (int changes = 0; changes <= 9; changes++) {
            BuskPitches x = withCrowds(changes);
            x.save();
            x.restore();
            Check.same("none is left of " + changes, 0, x.account(14));
            Check.thrown("undo behind restore", STATE, x::undo);
            x.crowd(5);
            Check.same("the next one counts", 1, x.account(14));
            Check.same("and is undone", 0, x.undo());
            Check.same("to the snapshot", crowdBehind(changes), x.account(1));
        }
        thrown("undo behind restore", ReasonTests::restored, STATE, BuskPitches::undo);
    }

    private static BuskPitches restored() {
        BuskPitches x = Offices.busyWithErrors();
        x.restore();
        return x;
    }

    // Exceptions.

    @Says("A method that throws an exception leaves the state unchanged unless its documentation says otherwise.")
    static void thrownLeavesAllUnchanged() {
        List<Consumer<BuskPitches>> calls = List.of(x -> x.crowd(51), x -> x.limit(8, 80), x -> x.limit(0, 121),
            x -> x.busker(2, 1), x -> x.busker(0, 10), x -> x.busker(0, 1), x -> x.join(8), x -> x.join(0),
            x -> x.join(1), x -> x.join(6), x -> x.draw(8, 0), x -> x.draw(3, 100), x -> x.draw(2, 0), x -> x.leave(8),
            x -> x.leave(0), x -> x.swap(8, 2), x -> x.swap(2, 8), x -> x.swap(0, 2), x -> x.swap(2, 0),
            x -> x.strings(8), x -> x.strings(0), x -> x.answer(8), x -> x.answer(0), x -> x.rack(8, 0),
            x -> x.rack(3, 2), x -> x.rack(0, 0), x -> x.rack(6, 0), x -> x.rack(6, 1), x -> x.unrack(8),
            x -> x.unrack(7), x -> x.pass(61), x -> x.hatIn(0, 61), x -> x.playingIn(61), x -> x.buskerOf(0, 7),
            x -> x.pitchOf(0, 3), x -> x.account(15), x -> x.waiting(2), x -> x.ranked(8), x -> x.onRack(1, 2),
            x -> Offices.read(x, "c50;p60;w4;d3#2;x2;a7;s6;x4"), x -> Offices.read(x, "c50;p60;w4;d3#2;x2;a7;s6;w8"),
            x -> Offices.read(x, "c50;p60;w4;d3#2;x2;a7;s6;w"), BuskPitches::read);
        for (int k = 0; k < calls.size(); k++) {
            Consumer<BuskPitches> call = calls.get(k);
            boolean isThrown = !Twins.attempt(() -> call.accept(Offices.busy())).isEmpty();
            Check.isTrue("call " + k + " throws", isThrown);
            Twins.haveSameState("call " + k, Offices::busy, call);
        }
    }

    @Says("If several exceptions apply, the one that is documented first is thrown.")
    static void documentedFirst() {
        first("limit", NO_SUCH, x -> x.limit(8, 39));
        first("a ninth busker", RANGE, x -> x.busker(2, 1));
        first("a ninth busker by the loudness", RANGE, x -> x.busker(0, 0));
        first("buskerOf", NO_SUCH, x -> x.buskerOf(8, 7));
        first("pitchOf", NO_SUCH, x -> x.pitchOf(-1, 3));
        first("draw for no pitch", NO_SUCH, x -> x.draw(8, 100));
        first("draw for a taken pitch", RANGE, x -> x.draw(2, 100));
        first("swap with no pitch", NO_SUCH, x -> x.swap(0, 8));
        first("swap of no pitch", NO_SUCH, x -> x.swap(8, 0));
        first("rack of nobody", NO_SUCH, x -> x.rack(8, 0));
        first("rack of one on a rack", NO_SUCH, x -> x.rack(0, 2));
        first("rack where none is", NO_SUCH, x -> x.rack(6, -1));
        first("onRack", NO_SUCH, x -> x.onRack(2, 2));
        first("hatIn", NO_SUCH, x -> x.hatIn(8, 61));
        Check.thrown("draw of nobody", RANGE, () -> new BuskPitches().draw(0, 100));
        Check.thrown("noiseWith", NO_SUCH, () -> new BuskPitches().noiseWith(8, 0));
        textWrong("w3;w", Offices::busy, 4);
        textWrong("w8;w", Offices::busy, 4);
    }

    private static void first(String what, Class<? extends RuntimeException> due, Consumer<BuskPitches> call) {
        thrown(what, Offices::busyWithErrors, due, call);
    }

    @Says("The input, the error position and the reason are neither undone nor saved, and stay.")
    static void inputErrorAndReasonStay() {
        Supplier<BuskPitches> office = Offices.writing(Offices::busyWithErrors, "c7;");
        Consumer<BuskPitches> undoAll = x -> {
            for (int k = 0; k < 8; k++) {
                x.undo();
            }
        };
        stay("undo", office, undoAll);
        stay("restore", office, BuskPitches::restore);
        stay("save and restore", office, x -> {
            x.save();
            x.crowd(3);
            x.restore();
        });
        stay("changes", office, x -> {
            x.crowd(3);
            x.pass(1);
            x.leave(2);
        });
        savedAhead();
    }

    private static void stay(String what, Supplier<BuskPitches> office, Consumer<BuskPitches> call) {
        BuskPitches x = office.get();
        call.accept(x);
        Check.same(what + ": the reason", 7, x.refusal(false));
        Check.same(what + ": the detail", 4, x.refusal(true));
        Check.same(what + ": the error position", 3, x.errorPosition());
        Check.same(what + ": the input", 3, x.account(13));
        x.append('p');
        x.append('1');
        Check.same(what + ": what the input holds", 2, x.read());
        Check.same(what + ": the order in it", 7, x.account(1));
    }

    /** What was not there yet when it was saved stays as well. */
    private static void savedAhead() {
        BuskPitches x = Offices.with(FIDDLE, 1);
        x.save();
        Check.thrown("leave", REFUSED, () -> x.leave(5));
        Check.thrown("read", RANGE, () -> Offices.read(x, "wx"));
        x.append('c');
        x.restore();
        Check.same("the reason", 7, x.refusal(false));
        Check.same("the error position", 1, x.errorPosition());
        Check.same("the input", 1, x.account(13));
    }
}
