import java.util.function.Supplier;

/** Tests for the sentences of the promises 1 to 22, at their bounds. */
public final class BoundsTests extends OfficeTest {
    public static void main(String[] args) {
        runAll(BoundsTests.class);
    }

    private static Supplier<BuskPitches> busy() {
        return Offices::busyWithErrors;
    }

    @Says(promise = 1, value = "Creates an office with 8 pitches of the limit 80.0f and without buskers, in the hour 0,"
        + " with a crowd of 10.")
    static void p01New() {
        BuskPitches x = new BuskPitches();
        for (int pitch = 0; pitch < 8; pitch++) {
            Check.same("limit of " + pitch, bits(80.0f), bits(x.below(pitch)));
            Check.same("busker of " + pitch, -1, x.pitchOf(pitch, 0));
        }
        Check.same("buskers", 0, x.account(2));
        Check.same("hour", 0, x.account(0));
        Check.same("crowd", 10, x.account(1));
        for (int pitch = 0; pitch < 8; pitch++) {
            Check.same("the limit before of " + pitch, bits(80.0f), x.limit(pitch, 81));
        }
        Check.thrown("nobody", NO_SUCH, () -> x.hat(0));
        Check.thrown("a ninth pitch", NO_SUCH, () -> x.noise(8));
    }

    @Says(promise = 2, value = {"- `crowd`: the crowd", "Returns the crowd before."})
    static void p02CrowdBefore() {
        BuskPitches x = new BuskPitches();
        Check.same("of a new office", 10, x.crowd(0));
        Check.same("the least", 0, x.crowd(50));
        Check.same("the most", 50, x.crowd(50));
        x.undo();
        x.undo();
        Check.same("behind undo", 0, x.crowd(1));
    }

    @Says(promise = 2, value = "Throws `IllegalArgumentException` if it is out of range")
    static void p02CrowdOutOfRange() {
        thrownFor(new int[] {-1, 51, LOW, HIGH}, "crowd", busy(), RANGE, BuskPitches::crowd);
        thrownFor(new int[] {-1, 51}, "crowd of a new office", BuskPitches::new, RANGE, BuskPitches::crowd);
    }

    @Says(promise = 3, value = "Returns the bits of the limit before, as by Float.floatToIntBits.")
    static void p03LimitBefore() {
        BuskPitches x = new BuskPitches();
        int before = 80;
        for (int limit = 40; limit <= 120; limit++) {
            Check.same("limit before " + limit, bits((float) before), x.limit(7, limit));
            before = limit;
        }
        Check.same("the others stay", bits(80.0f), x.limit(6, 40));
    }

    @Says(promise = 3, value = {"- `pitch`: the pitch", "Throws `IndexOutOfBoundsException` if there is no such pitch"})
    static void p03LimitOfNoPitch() {
        thrownFor(NOT_PITCHES, "limit", busy(), NO_SUCH, (x, pitch) -> x.limit(pitch, 80));
    }

    @Says(promise = 3, value = {"- `limit`: the limit, 40 to 120, as a whole number",
        "Throws `IllegalArgumentException` if it is out of range"})
    static void p03LimitOutOfRange() {
        thrownFor(new int[] {39, 121, 0, -40, LOW, HIGH}, "limit", busy(), RANGE, (x, limit) -> x.limit(7, limit));
        BuskPitches x = Offices.busy();
        Check.same("the least", bits(80.0f), x.limit(7, 40));
        Check.same("the most", bits(40.0f), x.limit(7, 120));
        Check.same("is kept", bits(120.0f), bits(x.below(7)));
    }

    @Says(promise = 4, value = {"Adds a busker, who is at home.", "Returns the number of the busker."})
    static void p04BuskerNumber() {
        BuskPitches x = new BuskPitches();
        for (int k = 0; k < 8; k++) {
            Check.same("number", k, x.busker(k % 2, 9 - k));
            Check.same("at home", k + 1, x.account(3));
            Check.same("on no pitch", -1, x.buskerOf(k, 2));
            Check.same("in no line", -1, x.buskerOf(k, 3));
            Check.same("on no rack", -1, x.buskerOf(k, 4));
        }
        x.undo();
        Check.same("the last number again", 7, x.busker(FIDDLE, 1));
    }

    @Says(promise = 4, value = {"- `kind`: the kind of the instrument", "- `loudness`: the loudness",
        "Throws `IllegalArgumentException` if a number is out of range"})
    static void p04BuskerOutOfRange() {
        for (Supplier<BuskPitches> office : java.util.List.<Supplier<BuskPitches>>of(BuskPitches::new, Offices::full)) {
            thrownFor(new int[] {-1, 2, LOW, HIGH}, "kind", office, RANGE, (x, kind) -> x.busker(kind, 5));
            thrownFor(new int[] {0, 10, -1, LOW, HIGH}, "loudness", office, RANGE, (x, loudness) -> x.busker(1, loudness));
        }
        Check.same("the least of both", 0, new BuskPitches().busker(0, 1));
        Check.same("the most of both", 0, new BuskPitches().busker(1, 9));
    }

    @Says(promise = 4, value = "Throws `UnsupportedOperationException` if it is refused for reason 1; the reason is kept"
        + " for refusal")
    static void p04BuskerRefused() {
        refused("a ninth", Offices::full, 1, 8, x -> x.busker(FIDDLE, 9));
        BuskPitches x = Offices.full();
        x.undo();
        Check.same("an eighth", 7, x.busker(FIDDLE, 9));
    }

    @Says(promise = 5, value = {"- `what`: 0 for the kind, 1 for the loudness, 2 for the pitch, -1 if the busker plays on"
        + " none, 3 for the place in the line, -1 if the busker does not wait, 4 for the place of the case on its rack, -1"
        + " if it is on none, 5 for the hours played so far, 6 for the new strings so far", "Returns the number."})
    static void p05BuskerOf() {
        int[][] due = {{0, 1, -1, 1, 0, 0, 0}, {1, 2, 2, -1, 0, 3, 1}, {0, 3, -1, -1, 1, 0, 0}, {1, 4, -1, 0, -1, 0, 0},
            {0, 5, -1, -1, 2, 0, 0}, {1, 6, 5, -1, -1, 3, 0}, {0, 7, -1, -1, -1, 3, 0}, {1, 8, -1, -1, -1, 3, 0}};
        BuskPitches x = Offices.busy();
        for (int busker = 0; busker < 8; busker++) {
            for (int what = 0; what <= 6; what++) {
                Check.same("buskerOf(" + busker + ", " + what + ")", due[busker][what], x.buskerOf(busker, what));
            }
        }
    }

    @Says(promise = 5, value = {"- `busker`: the busker", "Throws `IndexOutOfBoundsException` if there is no such busker"})
    static void p05NoBusker() {
        thrownForNoBusker("buskerOf", busy(), (x, busker) -> x.buskerOf(busker, 0));
        thrownForNoBusker("buskerOf of three", () -> Offices.of(3), (x, busker) -> x.buskerOf(busker, 6));
    }

    @Says(promise = 5, value = "Throws `IllegalArgumentException` if what is not from 0 to 6")
    static void p05NoSuchNumber() {
        thrownFor(new int[] {-1, 7, LOW, HIGH}, "buskerOf", busy(), RANGE, (x, what) -> x.buskerOf(7, what));
    }

    @Says(promise = 6, value = "Returns how much.")
    static void p06Hat() {
        BuskPitches x = Offices.with(ACCORDION, 9);
        Check.same("nothing", bits(0.0f), bits(x.hat(0)));
        x.limit(0, 120);
        x.crowd(50);
        Offices.play(x, 0, 0);
        float due = 0.0f;
        for (int k = 0; k < 20; k++) {
            x.pass(60);
            for (int hour = 0; hour < 60; hour++) {
                due = due + 0.1f * 50.0f * 9.0f;
            }
            Check.same("much", bits(due), bits(x.hat(0)));
        }
    }

    @Says(promise = 6, value = {"- `busker`: the busker", "Throws `IndexOutOfBoundsException` if there is no such busker"})
    static void p06NoBusker() {
        thrownForNoBusker("hat", busy(), BuskPitches::hat);
        thrownForNoBusker("hat in a new office", BuskPitches::new, BuskPitches::hat);
    }

    @Says(promise = 7, value = "Returns the bits, as by Float.floatToIntBits.")
    static void p07Wear() {
        for (int loudness = 1; loudness <= 9; loudness++) {
            BuskPitches x = Offices.playing(FIDDLE, loudness, 0, 120);
            float due = 0.0f;
            for (int hour = 0; hour < 24; hour++) {
                Check.same("wear by " + loudness, bits(due), x.wear(0));
                due = due < 1.0f ? due + 0.05f * (float) loudness : due;
                x.pass(1);
            }
        }
    }

    @Says(promise = 7, value = {"- `busker`: the busker", "Throws `IndexOutOfBoundsException` if there is no such busker"})
    static void p07NoBusker() {
        thrownForNoBusker("wear", busy(), BuskPitches::wear);
        thrownForNoBusker("wear in a new office", BuskPitches::new, BuskPitches::wear);
    }

    @Says(promise = 8, value = {"- `what`: 0 for its busker, -1 without one, 1 for its complaints, 2 for the complaints so"
        + " far, those that were answered included", "Returns the number."})
    static void p08PitchOf() {
        int[][] due = {{-1, 0, 0}, {-1, 0, 0}, {1, 0, 0}, {-1, 0, 0}, {-1, 0, 0}, {5, 0, 1}, {-1, 0, 0}, {-1, 3, 3}};
        BuskPitches x = Offices.busy();
        for (int pitch = 0; pitch < 8; pitch++) {
            for (int what = 0; what <= 2; what++) {
                Check.same("pitchOf(" + pitch + ", " + what + ")", due[pitch][what], x.pitchOf(pitch, what));
            }
        }
        x.limit(5, 40);
        x.answer(7);
        x.pass(1);
        Check.same("one that was not answered", 1, x.pitchOf(5, 1));
        Check.same("and one that was", 2, x.pitchOf(5, 2));
        Check.same("all answered", 3, x.pitchOf(7, 2));
    }

    @Says(promise = 8, value = {"- `pitch`: the pitch", "Throws `IndexOutOfBoundsException` if there is no such pitch"})
    static void p08NoPitch() {
        thrownFor(NOT_PITCHES, "pitchOf", busy(), NO_SUCH, (x, pitch) -> x.pitchOf(pitch, 0));
    }

    @Says(promise = 8, value = "Throws `IllegalArgumentException` if what is not from 0 to 2")
    static void p08NoSuchNumber() {
        thrownFor(new int[] {-1, 3, LOW, HIGH}, "pitchOf", busy(), RANGE, (x, what) -> x.pitchOf(7, what));
    }

    @Says(promise = 9, value = "Returns how many wait then.")
    static void p09Join() {
        BuskPitches x = Offices.full();
        for (int k = 0; k < 8; k++) {
            Check.same("wait then", k + 1, x.join((3 * k + 2) % 8));
            Check.same("at the end", (3 * k + 2) % 8, x.waiting(k));
        }
        Check.same("all of them", 8, x.account(4));
        x.draw(0, 3);
        x.leave(0);
        Check.same("again", 8, x.join((3 * 3 + 2) % 8));
    }

    @Says(promise = 9, value = {"- `busker`: the busker", "Throws `IndexOutOfBoundsException` if there is no such busker"})
    static void p09NoBusker() {
        thrownForNoBusker("join", busy(), BuskPitches::join);
        thrownForNoBusker("join in a new office", BuskPitches::new, BuskPitches::join);
    }

    @Says(promise = 9, value = "Throws `UnsupportedOperationException` if it is refused for reason 2, 3 or 4; the reason is"
        + " kept for refusal")
    static void p09Refused() {
        refused("one who waits", busy(), 2, 1, x -> x.join(0));
        refused("one who plays", busy(), 3, 5, x -> x.join(5));
        refused("one with snapped strings", busy(), 4, 6, x -> x.join(6));
    }

    @Says(promise = 10, value = {"- `number`: the number of the draw, 0 to 99", "Returns the busker."})
    static void p10Draw() {
        BuskPitches x = Offices.full();
        x.join(5);
        x.join(6);
        x.join(7);
        Check.same("99 of three", 5, x.draw(7, 99));
        Check.same("0 of two", 6, x.draw(0, 0));
        Check.same("99 of one", 7, x.draw(3, 99));
        Check.same("nobody is left", 0, x.account(4));
        Check.same("three draws", 3, x.account(12));
        Check.same("on the last pitch", 5, x.pitchOf(7, 0));
    }

    @Says(promise = 10, value = {"- `pitch`: the pitch", "Throws `IndexOutOfBoundsException` if there is no such pitch"})
    static void p10NoPitch() {
        thrownFor(NOT_PITCHES, "draw", busy(), NO_SUCH, (x, pitch) -> x.draw(pitch, 0));
        thrownFor(NOT_PITCHES, "draw of nobody", BuskPitches::new, NO_SUCH, (x, pitch) -> x.draw(pitch, 0));
    }

    @Says(promise = 10, value = "Throws `IllegalArgumentException` if the number is out of range")
    static void p10OutOfRange() {
        thrownFor(new int[] {-1, 100, LOW, HIGH}, "draw", busy(), RANGE, (x, number) -> x.draw(3, number));
        thrownFor(new int[] {-1, 100}, "draw for a taken pitch", busy(), RANGE, (x, number) -> x.draw(2, number));
        thrownFor(new int[] {-1, 100}, "draw of nobody", BuskPitches::new, RANGE, (x, number) -> x.draw(2, number));
    }

    @Says(promise = 10, value = "Throws `UnsupportedOperationException` if it is refused for reason 5 or 6; the reason is"
        + " kept for refusal")
    static void p10Refused() {
        refused("a taken pitch", busy(), 5, 1, x -> x.draw(2, 0));
        refused("nobody waits", Offices::full, 6, 0, x -> x.draw(0, 99));
    }

    @Says(promise = 11, value = {"- `place`: the place in the line, from 0", "Returns the busker."})
    static void p11Waiting() {
        BuskPitches x = Offices.busy();
        Check.same("the first", 3, x.waiting(0));
        Check.same("the last", 0, x.waiting(1));
        BuskPitches all = Offices.full();
        for (int k = 7; k >= 0; k--) {
            all.join(k);
        }
        for (int place = 0; place < 8; place++) {
            Check.same("of eight", 7 - place, all.waiting(place));
        }
        Check.thrown("a ninth of eight", NO_ELEMENT, () -> all.waiting(8));
    }

    @Says(promise = 11, value = "Throws `NoSuchElementException` if there is no such place")
    static void p11NoPlace() {
        thrownFor(new int[] {-1, 2, 3, 8, LOW, HIGH}, "waiting", busy(), NO_ELEMENT, BuskPitches::waiting);
        thrownFor(new int[] {-1, 0, 1}, "waiting of nobody", Offices::full, NO_ELEMENT, BuskPitches::waiting);
        thrownFor(new int[] {-1, 0, 1}, "waiting in a new office", BuskPitches::new, NO_ELEMENT, BuskPitches::waiting);
    }

    @Says(promise = 12, value = "Returns the busker.")
    static void p12Leave() {
        for (int pitch = 0; pitch < 8; pitch++) {
            BuskPitches x = Offices.playing(FIDDLE, 1, pitch, 80);
            Check.same("leave(" + pitch + ")", 0, x.leave(pitch));
            Check.same("at home", 1, x.account(3));
            Check.same("nobody there", -1, x.pitchOf(pitch, 0));
        }
    }

    @Says(promise = 12, value = {"- `pitch`: the pitch", "Throws `IndexOutOfBoundsException` if there is no such pitch"})
    static void p12NoPitch() {
        thrownFor(NOT_PITCHES, "leave", busy(), NO_SUCH, BuskPitches::leave);
    }

    @Says(promise = 12, value = "Throws `UnsupportedOperationException` if it is refused for reason 7; the reason is kept"
        + " for refusal")
    static void p12Refused() {
        refused("the first", busy(), 7, 0, x -> x.leave(0));
        refused("the last", busy(), 7, 7, x -> x.leave(7));
    }

    @Says(promise = 13, value = {"- `other`: the second pitch, or the same",
        "Returns the busker on the first pitch then."})
    static void p13Swap() {
        BuskPitches x = Offices.busy();
        Check.same("the other way round", 5, x.swap(2, 5));
        Check.same("the second pitch", 1, x.pitchOf(5, 0));
        Check.same("back", 5, x.swap(5, 2));
        Check.same("the same", 1, x.swap(2, 2));
        Check.same("stays", 1, x.pitchOf(2, 0));
        Check.same("and the other", 5, x.pitchOf(5, 0));
        x.limit(5, 40);
        x.pass(1);
        x.swap(2, 5);
        Check.same("complaints stay where they are", 1, x.pitchOf(5, 1));
    }

    @Says(promise = 13, value = {"- `pitch`: the first pitch",
        "Throws `IndexOutOfBoundsException` if there is no such pitch"})
    static void p13NoPitch() {
        thrownFor(NOT_PITCHES, "swap of one", busy(), NO_SUCH, (x, pitch) -> x.swap(pitch, 2));
        thrownFor(NOT_PITCHES, "swap with one", busy(), NO_SUCH, (x, pitch) -> x.swap(2, pitch));
        thrownFor(NOT_PITCHES, "swap of both", busy(), NO_SUCH, (x, pitch) -> x.swap(pitch, pitch));
        thrownFor(NOT_PITCHES, "swap of none", BuskPitches::new, NO_SUCH, (x, pitch) -> x.swap(0, pitch));
    }

    @Says(promise = 13, value = "Throws `UnsupportedOperationException` if it is refused for reason 7, for the first, then"
        + " for the second pitch; the reason is kept for refusal")
    static void p13Refused() {
        refused("the first", busy(), 7, 3, x -> x.swap(3, 2));
        refused("the second", busy(), 7, 3, x -> x.swap(2, 3));
        refused("both", busy(), 7, 4, x -> x.swap(4, 3));
        refused("both, the other way round", busy(), 7, 3, x -> x.swap(3, 4));
        refused("twice the same", busy(), 7, 0, x -> x.swap(0, 0));
    }

    @Says(promise = 14, value = "Returns the bits, as by Float.floatToIntBits.")
    static void p14Noise() {
        BuskPitches least = Offices.playing(FIDDLE, 1, 1, 80);
        Check.same("the least but none", bits(0.25f * 54.0f), least.noise(0));
        BuskPitches most = new BuskPitches();
        for (int k = 0; k < 3; k++) {
            most.busker(ACCORDION, 9);
            Offices.play(most, k, k);
        }
        Check.same("the most", bits(91.0f + 0.25f * 91.0f + 0.25f * 91.0f), most.noise(1));
        Check.same("none", bits(0.0f), most.noise(7));
    }

    @Says(promise = 14, value = {"- `pitch`: the pitch", "Throws `IndexOutOfBoundsException` if there is no such pitch"})
    static void p14NoPitch() {
        thrownFor(NOT_PITCHES, "noise", busy(), NO_SUCH, BuskPitches::noise);
    }

    @Says(promise = 15, value = {"Returns the same by a second way: from a row of the own noises of all pitches, with one"
        + " of 0.0f ahead and behind.", "Returns the bits, as by Float.floatToIntBits."})
    static void p15NoiseAgain() {
        BuskPitches x = Offices.full();
        for (int k = 0; k < 8; k++) {
            Offices.play(x, k, k);
        }
        Check.same("0.0f ahead", bits(54.0f + 0.25f * 0.0f + 0.25f * 63.0f), x.noiseAgain(0));
        Check.same("0.0f behind", bits(87.0f + 0.25f * 78.0f + 0.25f * 0.0f), x.noiseAgain(7));
        x.leave(7);
        Check.same("a busker who left", bits(78.0f + 0.25f * 79.0f), x.noiseAgain(6));
        Check.same("an empty pitch", bits(0.25f * 78.0f), x.noiseAgain(7));
    }

    @Says(promise = 15, value = {"- `pitch`: the pitch", "Throws `IndexOutOfBoundsException` if there is no such pitch"})
    static void p15NoPitch() {
        thrownFor(NOT_PITCHES, "noiseAgain", busy(), NO_SUCH, BuskPitches::noiseAgain);
    }

    @Says(promise = 16, value = {"Returns by how much the noise of a pitch is below its limit: the limit minus the noise,"
        + " below 0.0f if the noise is above.", "Returns by how much."})
    static void p16Below() {
        BuskPitches x = Offices.playing(ACCORDION, 9, 7, 91);
        Check.same("at the limit", bits(0.0f), bits(x.below(7)));
        x.limit(7, 90);
        Check.same("above", bits(-1.0f), bits(x.below(7)));
        x.limit(7, 92);
        Check.same("below", bits(1.0f), bits(x.below(7)));
        x.limit(7, 40);
        Check.same("far above", bits(-51.0f), bits(x.below(7)));
        x.limit(0, 120);
        Check.same("the most", bits(120.0f), bits(x.below(0)));
    }

    @Says(promise = 16, value = {"- `pitch`: the pitch", "Throws `IndexOutOfBoundsException` if there is no such pitch"})
    static void p16NoPitch() {
        thrownFor(NOT_PITCHES, "below", busy(), NO_SUCH, BuskPitches::below);
    }

    @Says(promise = 17, value = {"Returns the noise that a pitch would have if a busker played there instead of whoever"
        + " does, with all others where they are, also the same busker.",
        "Returns the bits, as by Float.floatToIntBits."})
    static void p17NoiseWith() {
        BuskPitches x = Offices.busy();
        x.swap(2, 5);
        x.draw(3, 0);
        // Now 5 is on pitch 2, 3 on pitch 3, 1 on pitch 5, with own noises of 79, 71 and 63.
        Check.same("instead of another", bits(54.0f + 0.25f * 71.0f), x.noiseWith(2, 0));
        Check.same("on the own pitch", bits(79.0f + 0.25f * 71.0f), x.noiseWith(2, 5));
        Check.same("beside the own pitch", bits(79.0f + 0.25f * 79.0f), x.noiseWith(1, 5));
        Check.same("between two", bits(63.0f + 0.25f * 71.0f + 0.25f * 63.0f), x.noiseWith(4, 1));
        Check.same("with nobody beside", bits(87.0f), x.noiseWith(7, 7));
        Check.same("at the first one", bits(62.0f), x.noiseWith(0, 2));
    }

    @Says(promise = 17, value = {"- `pitch`: the pitch", "- `busker`: the busker",
        "Throws `IndexOutOfBoundsException` if there is no such pitch or busker"})
    static void p17NoPitchOrBusker() {
        thrownFor(NOT_PITCHES, "noiseWith", busy(), NO_SUCH, (x, pitch) -> x.noiseWith(pitch, 0));
        thrownForNoBusker("noiseWith", busy(), (x, busker) -> x.noiseWith(0, busker));
        thrownForNoBusker("noiseWith in a new office", BuskPitches::new, (x, busker) -> x.noiseWith(7, busker));
    }

    @Says(promise = 18, value = {"Returns the pitch without a busker where a busker would make the least noise by the way"
        + " told for noiseWith, if the noise there would not be above its limit, of several the lowest one.",
        "Returns the pitch."})
    static void p18Quietest() {
        BuskPitches x = Offices.with(FIDDLE, 7);
        Check.same("of several the lowest", 0, x.quietest(0));
        x.limit(0, 78);
        Check.same("at the limit", 0, x.quietest(0));
        x.limit(0, 77);
        Check.same("above the limit", 1, x.quietest(0));
        x.busker(FIDDLE, 1);
        Offices.play(x, 1, 1);
        Check.same("neither taken nor beside one", 3, x.quietest(0));
        x.busker(FIDDLE, 1);
        Offices.play(x, 2, 5);
        Check.same("nor beside the other", 3, x.quietest(0));
        x.limit(3, 77);
        Check.same("the next one", 7, x.quietest(0));
        x.limit(7, 77);
        x.limit(4, 120);
        Check.same("one with more noise and a high limit", 4, x.quietest(0));
        x.limit(2, 120);
        Check.same("the lower of two alike", 2, x.quietest(0));
        x.limit(2, 91);
        Check.same("less than 1.0f above the limit", 4, x.quietest(0));
        x.limit(2, 120);
        x.limit(7, 78);
        Check.same("the last one, with the least noise", 7, x.quietest(0));
        x.limit(3, 78);
        Check.same("one between, with the least noise", 3, x.quietest(0));
    }

    @Says(promise = 18, value = {"- `busker`: the busker",
        "Throws `IndexOutOfBoundsException` if there is no such busker"})
    static void p18NoBusker() {
        thrownForNoBusker("quietest", busy(), BuskPitches::quietest);
        thrownForNoBusker("quietest in a new office", BuskPitches::new, BuskPitches::quietest);
    }

    @Says(promise = 18, value = "Throws `NoSuchElementException` if there is none")
    static void p18NoPitch() {
        thrown("too loud for all", () -> Offices.with(ACCORDION, 9), NO_ELEMENT, x -> x.quietest(0));
        Supplier<BuskPitches> taken = () -> {
            BuskPitches x = Offices.full();
            for (int k = 0; k < 8; k++) {
                x.limit(k, 120);
                Offices.play(x, k, k);
            }
            return x;
        };
        thrown("all are taken", taken, NO_ELEMENT, x -> x.quietest(0));
        BuskPitches x = taken.get();
        x.leave(7);
        Check.same("one is left", 7, x.quietest(0));
    }

    @Says(promise = 19, value = {"Returns the pitch with the most noise, of several the lowest one.",
        "Returns the pitch."})
    static void p19Loudest() {
        Check.same("no noise at all", 0, new BuskPitches().loudest());
        for (int pitch = 0; pitch < 8; pitch++) {
            Check.same("one", pitch, Offices.playing(FIDDLE, 1, pitch, 80).loudest());
        }
        BuskPitches x = new BuskPitches();
        x.busker(FIDDLE, 5);
        x.busker(FIDDLE, 5);
        Offices.play(x, 0, 7);
        Offices.play(x, 1, 6);
        Check.same("of two the lower", 6, x.loudest());
        x.swap(6, 7);
        Check.same("whoever it is", 6, x.loudest());
        x.leave(7);
        x.join(1);
        x.draw(0, 0);
        Check.same("the first", 0, x.loudest());
    }

    @Says(promise = 20, value = "Returns the bits of what is in the hat then, as by Float.floatToIntBits.")
    static void p20Strings() {
        BuskPitches x = Offices.busy();
        float hat = x.hat(6);
        for (int bought = 1; hat >= 2.0f; bought++) {
            hat = hat - 2.0f;
            Check.same("in the hat then", bits(hat), x.strings(6));
            Check.same("bought", bought, x.buskerOf(6, 6));
            Check.same("wear", 0, x.wear(6));
        }
        Check.thrown("no more", REFUSED, () -> x.strings(6));
    }

    @Says(promise = 20, value = {"- `busker`: the busker",
        "Throws `IndexOutOfBoundsException` if there is no such busker"})
    static void p20NoBusker() {
        thrownForNoBusker("strings", busy(), BuskPitches::strings);
        thrownForNoBusker("strings in a new office", BuskPitches::new, BuskPitches::strings);
    }

    @Says(promise = 20, value = "Throws `UnsupportedOperationException` if it is refused for reason 8; the reason is kept"
        + " for refusal")
    static void p20Refused() {
        refused("nothing in the hat", busy(), 8, 0, x -> x.strings(7));
        Supplier<BuskPitches> little = () -> {
            BuskPitches x = Offices.playing(ACCORDION, 1, 0, 80);
            x.crowd(19);
            x.pass(1);
            return x;
        };
        refused("1.9f in the hat", little, 8, 1, x -> x.strings(0));
    }

    @Says(promise = 21, value = {"Returns in how many hours the strings of a busker snap, if the busker plays on: hour"
        + " after hour.", "Returns how many hours, 0 if they are snapped now."})
    static void p21SnapsIn() {
        int[] due = {20, 10, 7, 5, 4, 4, 3, 3, 3};
        for (int loudness = 1; loudness <= 9; loudness++) {
            BuskPitches x = Offices.playing(FIDDLE, loudness, 0, 120);
            for (int left = due[loudness - 1]; left > 0; left--) {
                Check.same("hours left by " + loudness, left, x.snapsIn(0));
                Check.same("goes home in the last", left == 1 ? 1 : 0, x.pass(1));
            }
            Check.same("snapped now", 0, x.snapsIn(0));
            x.pass(60);
            Check.same("and later", 0, x.snapsIn(0));
        }
        BuskPitches x = Offices.busy();
        Check.same("snapped", 0, x.snapsIn(6));
        x.strings(6);
        Check.same("new strings", 3, x.snapsIn(6));
    }

    @Says(promise = 21, value = {"- `busker`: the busker",
        "Throws `IndexOutOfBoundsException` if there is no such busker"})
    static void p21NoBusker() {
        thrownForNoBusker("snapsIn", busy(), BuskPitches::snapsIn);
        thrownForNoBusker("snapsIn in a new office", BuskPitches::new, BuskPitches::snapsIn);
    }

    @Says(promise = 21, value = "Throws `NoSuchElementException` if the busker has an accordion")
    static void p21Accordion() {
        thrownFor(new int[] {1, 3, 5, 7}, "snapsIn", busy(), NO_ELEMENT, BuskPitches::snapsIn);
    }

    @Says(promise = 22, value = "Returns how many there were.")
    static void p22Answer() {
        BuskPitches x = Offices.busy();
        Check.same("answer(7)", 3, x.answer(7));
        Check.same("none any more", 0, x.account(7));
        Check.same("answered", 4, x.account(8));
        Check.same("all", 4, x.account(9));
        BuskPitches first = Offices.playing(FIDDLE, 1, 0, 40);
        first.pass(1);
        Check.same("answer(0)", 1, first.answer(0));
    }

    @Says(promise = 22, value = {"- `pitch`: the pitch", "Throws `IndexOutOfBoundsException` if there is no such pitch"})
    static void p22NoPitch() {
        thrownFor(NOT_PITCHES, "answer", busy(), NO_SUCH, BuskPitches::answer);
    }

    @Says(promise = 22, value = "Throws `UnsupportedOperationException` if it is refused for reason 9; the reason is kept"
        + " for refusal")
    static void p22Refused() {
        refused("the first", busy(), 9, 0, x -> x.answer(0));
        refused("answered already", busy(), 9, 5, x -> x.answer(5));
    }
}
