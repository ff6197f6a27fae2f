import java.lang.reflect.Method;
import java.util.ArrayList;
import java.util.Comparator;
import java.util.List;

/** One method for each promise of the document, with ordinary inputs, its edges and wrong inputs. */
public final class PromiseTests extends OfficeTest {
    public static void main(String[] args) throws Exception {
        List<Method> promises = new ArrayList<>();
        for (Method method : PromiseTests.class.getDeclaredMethods()) {
            if (method.getName().startsWith("promise")) {
                promises.add(method);
            }
        }
        promises.sort(Comparator.comparing(Method::getName));
        Check.same("the number of promises tested", 40, promises.size());
        for (Method promise : promises) {
            promise.invoke(null);
        }
        Check.end("PromiseTests");
    }

    private static void write(BuskPitches x, String text) {
        Offices.write(x, text);
    }

    private static int read(BuskPitches x, String text) {
        return Offices.read(x, text);
    }

    /** Refused for the reason with the detail; that nothing else is different then, the other tests look up. */
    private static void refused(BuskPitches x, String what, int reason, int detail, Runnable call) {
        wrong(x, what, REFUSED, call);
        Check.same(what + ": reason", reason, x.refusal(false));
        Check.same(what + ": detail", detail, x.refusal(true));
    }

    /** Thrown, and no change is counted. */
    private static void wrong(BuskPitches x, String what, Class<? extends RuntimeException> due, Runnable call) {
        int changes = x.account(14);
        Check.thrown(what, due, call);
        Check.same(what + ": changes", changes, x.account(14));
    }

    private static void wrongPitches(BuskPitches x, String what, java.util.function.IntConsumer call) {
        for (int pitch : NOT_PITCHES) {
            wrong(x, what + " of pitch " + pitch, NO_SUCH, () -> call.accept(pitch));
        }
    }

    private static void wrongBuskers(BuskPitches x, String what, java.util.function.IntConsumer call) {
        for (int busker : new int[] {-1, x.account(2), 8, LOW, HIGH}) {
            wrong(x, what + " of busker " + busker, NO_SUCH, () -> call.accept(busker));
        }
    }

    /** One change, undone; then it is as it was. */
    private static void undone(BuskPitches x, String what, Runnable change) {
        String before = Observed.of(x);
        int undos = x.account(14);
        change.run();
        Check.same(what + ": undos", Math.min(8, undos + 1), x.account(14));
        x.undo();
        Check.sameText(what + " undone", before, Observed.of(x));
    }

    /** The busker, at home, plays on the pitch then, also when others wait. */
    private static void play(BuskPitches x, int busker, int pitch) {
        x.join(busker);
        x.draw(pitch, x.account(4) - 1);
    }

    private static BuskPitches officeWith(int buskers) {
        return Offices.of(buskers);
    }

    static void promise01NewObject() {
        BuskPitches x = new BuskPitches();
        for (int what = 0; what <= 14; what++) {
            Check.same("new account " + what, what == 1 ? 10 : 0, x.account(what));
        }
        for (int pitch = 0; pitch < 8; pitch++) {
            Check.same("new busker on " + pitch, -1, x.pitchOf(pitch, 0));
            Check.same("new complaints about " + pitch, 0, x.pitchOf(pitch, 1));
            Check.same("new limit of " + pitch, bits(80.0f), bits(x.below(pitch)));
        }
        Check.same("new errorPosition", -1, x.errorPosition());
        Check.thrown("new refusal", NO_ELEMENT, () -> x.refusal(false));
        Check.thrown("new undo", STATE, x::undo);
        Check.thrown("new restore", STATE, x::restore);
    }

    static void promise02Crowd() {
        BuskPitches x = new BuskPitches();
        Check.same("crowd(0)", 10, x.crowd(0));
        Check.same("crowd(50)", 0, x.crowd(50));
        Check.same("crowd(50) again", 50, x.crowd(50));
        Check.same("crowd kept", 50, x.account(1));
        Check.same("crowds to undo", 3, x.account(14));
        for (int crowd : new int[] {-1, 51, LOW, HIGH}) {
            wrong(x, "crowd(" + crowd + ")", RANGE, () -> x.crowd(crowd));
        }
        undone(x, "crowd", () -> x.crowd(7));
    }

    static void promise03Limit() {
        BuskPitches x = new BuskPitches();
        Check.same("limit(0, 40)", bits(80.0f), x.limit(0, 40));
        Check.same("limit(0, 120)", bits(40.0f), x.limit(0, 120));
        Check.same("limit(0, 77)", bits(120.0f), x.limit(0, 77));
        Check.same("limit(7, 120)", bits(80.0f), x.limit(7, 120));
        Check.same("below of a limit", bits(77.0f), bits(x.below(0)));
        for (int limit : new int[] {39, 121, -1, LOW, HIGH}) {
            wrong(x, "limit(3, " + limit + ")", RANGE, () -> x.limit(3, limit));
        }
        wrongPitches(x, "limit", pitch -> x.limit(pitch, 80));
        wrongPitches(x, "limit out of range", pitch -> x.limit(pitch, 39));
        undone(x, "limit", () -> x.limit(0, 99));
    }

    static void promise04Busker() {
        BuskPitches x = new BuskPitches();
        for (int k = 0; k < 8; k++) {
            Check.same("busker " + k, k, x.busker(k % 2, k + 1));
            Check.same("buskers", k + 1, x.account(2));
        }
        refused(x, "a ninth busker", 1, 8, () -> x.busker(FIDDLE, 1));
        wrong(x, "a ninth of no kind", RANGE, () -> x.busker(2, 1));
        BuskPitches y = new BuskPitches();
        int[][] numbers = {{-1, 5}, {2, 5}, {0, 0}, {0, 10}, {1, -1}, {LOW, 5}, {HIGH, 5}, {0, LOW}, {0, HIGH}};
        for (int[] pair : numbers) {
            wrong(y, "busker(" + pair[0] + ", " + pair[1] + ")", RANGE, () -> y.busker(pair[0], pair[1]));
        }
        Check.same("loudness 9", 0, y.busker(ACCORDION, 9));
        Check.same("at home", 1, y.account(3));
        undone(y, "busker", () -> y.busker(FIDDLE, 1));
        Check.same("the number again", 1, y.busker(FIDDLE, 2));
        Check.same("the loudness", 2, y.buskerOf(1, 1));
    }

    static void promise05BuskerOf() {
        BuskPitches x = officeWith(3);
        Check.same("kind", 1, x.buskerOf(1, 0));
        Check.same("loudness", 2, x.buskerOf(1, 1));
        for (int what = 2; what <= 4; what++) {
            Check.same("none of " + what, -1, x.buskerOf(1, what));
        }
        Check.same("hours", 0, x.buskerOf(1, 5));
        Check.same("new strings", 0, x.buskerOf(1, 6));
        x.join(2);
        x.join(1);
        Check.same("place in the line", 1, x.buskerOf(1, 3));
        x.draw(6, 1);
        Check.same("pitch", 6, x.buskerOf(1, 2));
        Check.same("no place any more", -1, x.buskerOf(1, 3));
        x.rack(1, 1);
        Check.same("place of the case", 0, x.buskerOf(1, 4));
        x.pass(4);
        Check.same("hours played", 4, x.buskerOf(1, 5));
        Check.same("hours not played", 0, x.buskerOf(2, 5));
        x.strings(1);
        Check.same("new strings bought", 1, x.buskerOf(1, 6));
        for (int what : new int[] {-1, 7, LOW, HIGH}) {
            wrong(x, "buskerOf(1, " + what + ")", RANGE, () -> x.buskerOf(1, what));
        }
        wrongBuskers(x, "buskerOf", busker -> x.buskerOf(busker, 9));
    }

    static void promise06Hat() {
        BuskPitches x = officeWith(2);
        Check.same("empty hat", 0, bits(x.hat(0)));
        play(x, 1, 2);
        x.crowd(33);
        x.pass(2);
        float takings = 0.1f * 33.0f * 2.0f;
        Check.same("hat of two hours", bits(0.0f + takings + takings), bits(x.hat(1)));
        Check.same("hat of one at home", 0, bits(x.hat(0)));
        wrongBuskers(x, "hat", x::hat);
    }

    static void promise07Wear() {
        BuskPitches x = officeWith(4);
        Check.same("new strings", 0, x.wear(2));
        play(x, 2, 0);
        play(x, 3, 5);
        x.pass(3);
        float hour = 0.05f * 3.0f;
        Check.same("wear of three hours", bits(0.0f + hour + hour + hour), x.wear(2));
        Check.same("wear of an accordion", 0, x.wear(3));
        Check.same("wear of one at home", 0, x.wear(0));
        wrongBuskers(x, "wear", x::wear);
    }

    static void promise08PitchOf() {
        BuskPitches x = new BuskPitches();
        x.busker(ACCORDION, 9);
        play(x, 0, 4);
        Check.same("the busker", 0, x.pitchOf(4, 0));
        Check.same("no busker", -1, x.pitchOf(3, 0));
        x.pass(2);
        Check.same("complaints", 2, x.pitchOf(4, 1));
        x.answer(4);
        x.pass(1);
        Check.same("complaints after an answer", 1, x.pitchOf(4, 1));
        Check.same("complaints so far", 3, x.pitchOf(4, 2));
        Check.same("complaints elsewhere", 0, x.pitchOf(3, 2));
        for (int what : new int[] {-1, 3, LOW, HIGH}) {
            wrong(x, "pitchOf(4, " + what + ")", RANGE, () -> x.pitchOf(4, what));
        }
        wrongPitches(x, "pitchOf", pitch -> x.pitchOf(pitch, 3));
    }

    static void promise09Join() {
        BuskPitches x = officeWith(8);
        for (int k = 7; k >= 0; k--) {
            Check.same("join(" + k + ")", 8 - k, x.join(k));
        }
        refused(x, "join of one who waits", 2, 7, () -> x.join(0));
        refused(x, "join of the first", 2, 0, () -> x.join(7));
        x.draw(5, 2);
        refused(x, "join of one who plays", 3, 5, () -> x.join(5));
        wrongBuskers(x, "join", x::join);
        BuskPitches y = new BuskPitches();
        y.busker(FIDDLE, 1);
        y.busker(FIDDLE, 9);
        y.limit(0, 120);
        play(y, 1, 0);
        y.pass(3);
        Check.same("snapped", -1, y.buskerOf(1, 2));
        refused(y, "join with snapped strings", 4, 1, () -> y.join(1));
        y.strings(1);
        Check.same("join with new strings", 1, y.join(1));
        undone(y, "join", () -> y.join(0));
    }

    static void promise10Draw() {
        BuskPitches x = officeWith(8);
        refused(x, "draw of nobody", 6, 0, () -> x.draw(3, 5));
        for (int k = 0; k < 5; k++) {
            x.join(k);
        }
        Check.same("99 of 5", 4, x.draw(0, 99));
        Check.same("6 of 4", 2, x.draw(7, 6));
        Check.same("the line goes on", 3, x.waiting(2));
        Check.same("draws", 2, x.account(12));
        refused(x, "draw for a taken pitch", 5, 2, () -> x.draw(7, 0));
        Check.same("0 of 3", 0, x.draw(1, 0));
        Check.same("the line moved up", 1, x.waiting(0));
        undone(x, "draw", () -> x.draw(2, 1));
        for (int number : new int[] {-1, 100, LOW, HIGH}) {
            wrong(x, "draw number " + number, RANGE, () -> x.draw(7, number));
        }
        wrongPitches(x, "draw", pitch -> x.draw(pitch, 100));
        x.draw(2, 0);
        x.draw(3, 0);
        refused(x, "a taken pitch ahead of nobody who waits", 5, 0, () -> x.draw(1, 0));
    }

    static void promise11Waiting() {
        BuskPitches x = officeWith(4);
        Check.thrown("waiting of nobody", NO_ELEMENT, () -> x.waiting(0));
        x.join(3);
        x.join(0);
        x.join(2);
        Check.same("first", 3, x.waiting(0));
        Check.same("second", 0, x.waiting(1));
        Check.same("third", 2, x.waiting(2));
        for (int place : new int[] {-1, 3, 8, LOW, HIGH}) {
            Check.thrown("waiting(" + place + ")", NO_ELEMENT, () -> x.waiting(place));
        }
        x.draw(0, 1);
        Check.same("second when one is drawn", 2, x.waiting(1));
        Check.thrown("no third any more", NO_ELEMENT, () -> x.waiting(2));
    }

    static void promise12Leave() {
        BuskPitches x = officeWith(2);
        refused(x, "leave of nobody", 7, 6, () -> x.leave(6));
        play(x, 1, 6);
        undone(x, "leave", () -> x.leave(6));
        Check.same("leave(6)", 1, x.leave(6));
        Check.same("at home", 2, x.account(3));
        refused(x, "leave again", 7, 6, () -> x.leave(6));
        refused(x, "leave of the first pitch", 7, 0, () -> x.leave(0));
        wrongPitches(x, "leave", x::leave);
    }

    static void promise13Swap() {
        BuskPitches x = officeWith(3);
        refused(x, "swap of nobody", 7, 2, () -> x.swap(2, 5));
        play(x, 0, 5);
        refused(x, "swap without the first", 7, 2, () -> x.swap(2, 5));
        refused(x, "swap without the second", 7, 2, () -> x.swap(5, 2));
        play(x, 2, 2);
        Check.same("swap(2, 5)", 0, x.swap(2, 5));
        Check.same("on the second then", 2, x.pitchOf(5, 0));
        Check.same("swap with itself", 2, x.swap(5, 5));
        Check.same("stays", 5, x.buskerOf(2, 2));
        refused(x, "swap of an empty one with itself", 7, 0, () -> x.swap(0, 0));
        undone(x, "swap", () -> x.swap(5, 2));
        wrongPitches(x, "swap", pitch -> x.swap(pitch, 2));
        wrongPitches(x, "swap with", pitch -> x.swap(2, pitch));
        wrongPitches(x, "swap of an empty one with", pitch -> x.swap(0, pitch));
    }

    static void promise14Noise() {
        BuskPitches x = new BuskPitches();
        x.busker(FIDDLE, 9);
        x.busker(ACCORDION, 1);
        x.busker(FIDDLE, 4);
        play(x, 0, 0);
        Check.same("alone at the edge", bits(86.0f), x.noise(0));
        Check.same("beside it", bits(21.5f), x.noise(1));
        Check.same("far off", 0, x.noise(2));
        play(x, 1, 1);
        Check.same("an accordion beside", bits(86.0f + 0.25f * 59.0f), x.noise(0));
        Check.same("the accordion", bits(59.0f + 0.25f * 86.0f), x.noise(1));
        play(x, 2, 7);
        Check.same("the last", bits(66.0f), x.noise(7));
        x.leave(7);
        play(x, 2, 2);
        Check.same("both sides", bits(59.0f + 0.25f * 86.0f + 0.25f * 66.0f), x.noise(1));
        wrongPitches(x, "noise", x::noise);
    }

    static void promise15NoiseAgain() {
        BuskPitches x = officeWith(8);
        Check.same("silence", 0, x.noiseAgain(0));
        for (int k = 0; k < 8; k++) {
            play(x, k, (3 * k + 1) % 8);
            for (int pitch = 0; pitch < 8; pitch++) {
                Check.same("noiseAgain(" + pitch + ")", x.noise(pitch), x.noiseAgain(pitch));
            }
        }
        x.leave(4);
        float own = 50.0f + 4.0f * 5.0f;
        float beside = 50.0f + 4.0f * 8.0f + 5.0f;
        Check.same("beside an empty one", bits(own + 0.25f * 0.0f + 0.25f * beside), x.noiseAgain(5));
        wrongPitches(x, "noiseAgain", x::noiseAgain);
    }

    static void promise16Below() {
        BuskPitches x = new BuskPitches();
        x.busker(ACCORDION, 9);
        play(x, 0, 3);
        Check.same("above the limit", bits(-11.0f), bits(x.below(3)));
        Check.same("beside", bits(80.0f - 22.75f), bits(x.below(2)));
        x.limit(3, 91);
        Check.same("at the limit", 0, bits(x.below(3)));
        x.limit(3, 120);
        Check.same("below the limit", bits(29.0f), bits(x.below(3)));
        wrongPitches(x, "below", x::below);
    }

    static void promise17NoiseWith() {
        BuskPitches x = new BuskPitches();
        x.busker(FIDDLE, 9);
        x.busker(ACCORDION, 9);
        x.busker(FIDDLE, 1);
        play(x, 1, 3);
        Check.same("with nobody beside", bits(54.0f), x.noiseWith(0, 2));
        Check.same("instead of whoever plays", bits(86.0f), x.noiseWith(3, 0));
        Check.same("on the own pitch", x.noise(3), x.noiseWith(3, 1));
        Check.same("counts at the own pitch, too", bits(91.0f + 0.25f * 91.0f), x.noiseWith(4, 1));
        play(x, 2, 5);
        Check.same("between two", bits(86.0f + 0.25f * 91.0f + 0.25f * 54.0f), x.noiseWith(4, 0));
        Check.same("nothing is different", -1, x.pitchOf(4, 0));
        wrongPitches(x, "noiseWith", pitch -> x.noiseWith(pitch, 0));
        wrongBuskers(x, "noiseWith", busker -> x.noiseWith(0, busker));
    }

    static void promise18Quietest() {
        BuskPitches x = new BuskPitches();
        x.busker(FIDDLE, 7);
        x.busker(FIDDLE, 9);
        x.busker(FIDDLE, 1);
        Check.same("of several the lowest", 0, x.quietest(0));
        Check.thrown("too loud everywhere", NO_ELEMENT, () -> x.quietest(1));
        x.limit(6, 86);
        Check.same("at the limit", 6, x.quietest(1));
        x.limit(6, 80);
        play(x, 2, 1);
        Check.same("not beside one", 3, x.quietest(0));
        x.limit(3, 77);
        Check.same("not where it is above the limit", 4, x.quietest(0));
        for (int pitch = 3; pitch < 8; pitch++) {
            x.limit(pitch, 40);
        }
        x.limit(0, 120);
        Check.same("the quietest of those that are quiet enough", 0, x.quietest(0));
        x.limit(2, 120);
        Check.same("the own pitch counts, too", 0, x.quietest(2));
        x.limit(7, 120);
        Check.same("the quietest is not the first one", 7, x.quietest(0));
        wrongBuskers(x, "quietest", x::quietest);
        BuskPitches full = officeWith(8);
        for (int k = 0; k < 8; k++) {
            full.limit(k, 120);
            play(full, k, k);
        }
        Check.thrown("no pitch is free", NO_ELEMENT, () -> full.quietest(0));
    }

    static void promise19Loudest() {
        BuskPitches x = new BuskPitches();
        Check.same("silence", 0, x.loudest());
        x.busker(FIDDLE, 3);
        x.busker(FIDDLE, 3);
        x.busker(FIDDLE, 3);
        play(x, 0, 7);
        Check.same("the last", 7, x.loudest());
        play(x, 1, 2);
        Check.same("of several the lowest", 2, x.loudest());
        play(x, 2, 6);
        Check.same("two beside one another", 6, x.loudest());
        for (int pitch = 0; pitch < 8; pitch++) {
            BuskPitches y = officeWith(1);
            play(y, 0, pitch);
            Check.same("the only one", pitch, y.loudest());
        }
    }

    static void promise20Strings() {
        BuskPitches x = new BuskPitches();
        x.busker(FIDDLE, 4);
        x.busker(ACCORDION, 5);
        refused(x, "strings without money", 8, 0, () -> x.strings(0));
        play(x, 0, 0);
        x.crowd(4);
        x.pass(1);
        refused(x, "strings with too little", 8, 1, () -> x.strings(0));
        x.pass(1);
        float hat = 0.1f * 4.0f * 4.0f + 0.1f * 4.0f * 4.0f;
        Check.same("strings(0)", bits(hat - 2.0f), x.strings(0));
        Check.same("hat", bits(hat - 2.0f), bits(x.hat(0)));
        Check.same("wear", 0, x.wear(0));
        Check.same("new strings", 1, x.buskerOf(0, 6));
        Check.same("plays on", 0, x.buskerOf(0, 2));
        play(x, 1, 7);
        x.pass(1);
        Check.same("exactly 2.0f is enough", bits(0.0f), x.strings(1));
        Check.same("bought", 2, x.account(11));
        x.pass(1);
        undone(x, "strings", () -> x.strings(0));
        wrongBuskers(x, "strings", x::strings);
    }

    static void promise21SnapsIn() {
        BuskPitches x = new BuskPitches();
        for (int loudness = 1; loudness <= 7; loudness++) {
            x.busker(FIDDLE, loudness);
            int hours = 0;
            for (float wear = 0.0f; wear < 1.0f; wear = wear + 0.05f * (float) loudness) {
                hours++;
            }
            Check.same("snapsIn at home with " + loudness, hours, x.snapsIn(loudness - 1));
        }
        x.busker(ACCORDION, 9);
        Check.thrown("snapsIn of an accordion", NO_ELEMENT, () -> x.snapsIn(7));
        x.limit(0, 120);
        play(x, 6, 0);
        int all = x.snapsIn(6);
        x.pass(1);
        Check.same("an hour less", all - 1, x.snapsIn(6));
        x.pass(all - 2);
        Check.same("one left", 1, x.snapsIn(6));
        Check.same("goes home", 1, x.pass(1));
        Check.same("snapped now", 0, x.snapsIn(6));
        BuskPitches y = officeWith(3);
        wrongBuskers(y, "snapsIn", y::snapsIn);
    }

    static void promise22Answer() {
        BuskPitches x = new BuskPitches();
        x.busker(ACCORDION, 9);
        refused(x, "answer to nothing", 9, 7, () -> x.answer(7));
        play(x, 0, 7);
        x.pass(2);
        undone(x, "answer", () -> x.answer(7));
        Check.same("answer(7)", 2, x.answer(7));
        Check.same("none any more", 0, x.pitchOf(7, 1));
        Check.same("answered", 2, x.account(8));
        refused(x, "answer again", 9, 7, () -> x.answer(7));
        x.pass(2);
        Check.same("not sent away after an answer", 0, x.buskerOf(0, 2) - 7);
        Check.same("answer once more", 2, x.answer(7));
        Check.same("answered in all", 4, x.account(8));
        wrongPitches(x, "answer", x::answer);
    }

    static void promise23Rack() {
        BuskPitches x = new BuskPitches();
        for (int k = 0; k < 4; k++) {
            x.busker(FIDDLE, 1);
        }
        x.busker(ACCORDION, 1);
        refused(x, "the rack of the other kind", 12, 1, () -> x.rack(0, 1));
        refused(x, "the fiddle rack for an accordion", 12, 0, () -> x.rack(4, 0));
        Check.same("rack(2, 0)", 0, x.rack(2, 0));
        Check.same("rack(0, 0)", 1, x.rack(0, 0));
        refused(x, "on a rack", 10, 1, () -> x.rack(0, 0));
        refused(x, "on a rack ahead of the other kind", 10, 1, () -> x.rack(0, 1));
        undone(x, "rack", () -> x.rack(3, 0));
        Check.same("rack(3, 0)", 2, x.rack(3, 0));
        refused(x, "full", 11, 0, () -> x.rack(1, 0));
        refused(x, "full ahead of the other kind", 11, 0, () -> x.rack(4, 0));
        refused(x, "on a rack ahead of full", 10, 0, () -> x.rack(2, 0));
        Check.same("rack(4, 1)", 0, x.rack(4, 1));
        x.unrack(0);
        x.unrack(2);
        Check.same("the lowest free place", 0, x.rack(1, 0));
        for (int rack : new int[] {-1, 2, LOW, HIGH}) {
            wrong(x, "rack(0, " + rack + ")", NO_SUCH, () -> x.rack(0, rack));
        }
        wrongBuskers(x, "rack", busker -> x.rack(busker, 0));
    }

    static void promise24Unrack() {
        BuskPitches x = officeWith(4);
        refused(x, "unrack of none", 13, 3, () -> x.unrack(3));
        x.rack(1, 1);
        x.rack(3, 1);
        undone(x, "unrack", () -> x.unrack(3));
        Check.same("unrack(3)", 1, x.unrack(3));
        refused(x, "unrack again", 13, 3, () -> x.unrack(3));
        Check.same("unrack(1)", 0, x.unrack(1));
        Check.same("none on racks", 0, x.account(10));
        wrongBuskers(x, "unrack", x::unrack);
    }

    static void promise25OnRack() {
        BuskPitches x = officeWith(4);
        x.rack(2, 0);
        x.rack(0, 0);
        x.rack(3, 1);
        Check.same("onRack(0, 0)", 2, x.onRack(0, 0));
        Check.same("onRack(0, 1)", 0, x.onRack(0, 1));
        Check.same("onRack(1, 0)", 3, x.onRack(1, 0));
        Check.thrown("a free place", NO_ELEMENT, () -> x.onRack(0, 2));
        Check.thrown("a free place behind", NO_ELEMENT, () -> x.onRack(1, 1));
        for (int number : new int[] {-1, 3, LOW, HIGH}) {
            Check.thrown("place " + number, NO_SUCH, () -> x.onRack(0, number));
        }
        for (int number : new int[] {-1, 2, LOW, HIGH}) {
            Check.thrown("rack " + number, NO_SUCH, () -> x.onRack(number, 0));
        }
        x.unrack(2);
        Check.thrown("free again", NO_ELEMENT, () -> x.onRack(0, 0));
        Check.same("the others stay", 0, x.onRack(0, 1));
    }

    static void promise26Ranked() {
        BuskPitches x = new BuskPitches();
        Check.thrown("nobody", NO_ELEMENT, () -> x.ranked(0));
        for (int k = 0; k < 5; k++) {
            x.busker(ACCORDION, 1 + k % 3);
        }
        for (int place = 0; place < 5; place++) {
            Check.same("all are even at " + place, place, x.ranked(place));
        }
        x.limit(2, 120);
        x.limit(5, 120);
        play(x, 4, 5);
        play(x, 1, 2);
        play(x, 2, 0);
        x.pass(1);
        int[] order = {2, 1, 4, 0, 3};
        for (int place = 0; place < 5; place++) {
            Check.same("ranked(" + place + ")", order[place], x.ranked(place));
        }
        for (int place : new int[] {-1, 5, 8, LOW, HIGH}) {
            Check.thrown("ranked(" + place + ")", NO_ELEMENT, () -> x.ranked(place));
        }
    }

    static void promise27Pass() {
        BuskPitches x = new BuskPitches();
        Check.same("pass(60) of nobody", 0, x.pass(60));
        Check.same("the hour", 60, x.account(0));
        x.busker(ACCORDION, 9);
        x.busker(FIDDLE, 9);
        x.busker(ACCORDION, 1);
        play(x, 0, 3);
        play(x, 1, 7);
        play(x, 2, 0);
        x.limit(7, 120);
        Check.same("two hours", 0, x.pass(2));
        Check.same("two go, one for complaints and one for strings", 2, x.pass(1));
        Check.same("three complaints", 3, x.pitchOf(3, 1));
        Check.same("no takings with complaints", 0, bits(x.hat(0)));
        Check.same("one plays on", 1, x.account(5));
        undone(x, "pass", () -> x.pass(5));
        passToTheEdges();
        passTogether();
        passWithOldComplaints();
        passAtMostComplaints();
        for (int hours : new int[] {0, -1, 61, LOW, HIGH}) {
            wrong(x, "pass(" + hours + ")", RANGE, () -> x.pass(hours));
        }
    }

    /** A noise at the limit is not above it, and a wear of exactly 1.0f is enough to snap. */
    private static void passToTheEdges() {
        BuskPitches x = new BuskPitches();
        x.busker(FIDDLE, 5);
        play(x, 0, 2);
        x.limit(2, 70);
        Check.same("three hours at the limit", 0, x.pass(3));
        Check.same("no complaint at the limit", 0, x.pitchOf(2, 1));
        Check.same("snaps in one", 1, x.snapsIn(0));
        Check.same("goes home", 1, x.pass(1));
        Check.same("with a wear of 1.0f", bits(1.0f), x.wear(0));
        Check.same("which counts as snapped", 1, x.account(6));
        refused(x, "and keeps from waiting", 4, 0, () -> x.join(0));
        Check.same("snaps in none", 0, x.snapsIn(0));
    }

    /** The noise of an hour is that of its beginning, also beside one who goes home in it. */
    private static void passTogether() {
        BuskPitches x = new BuskPitches();
        x.busker(ACCORDION, 9);
        x.busker(ACCORDION, 4);
        x.limit(0, 40);
        play(x, 0, 0);
        x.pass(2);
        play(x, 1, 1);
        x.limit(1, 72);
        Check.same("the first is sent home", 1, x.pass(1));
        Check.same("the second has a complaint", 1, x.pitchOf(1, 1));
        Check.same("alone there is none", 0, x.pass(1));
        Check.same("no further complaint", 1, x.pitchOf(1, 1));
        float takings = 0.1f * 10.0f * 4.0f / (1.0f + 1.0f);
        Check.same("takings by the complaints", bits(takings), bits(x.hat(1)));
    }

    private static void passWithOldComplaints() {
        BuskPitches x = new BuskPitches();
        x.busker(ACCORDION, 9);
        x.busker(ACCORDION, 1);
        play(x, 0, 2);
        x.pass(3);
        play(x, 1, 2);
        Check.same("nobody is sent home for old complaints", 0, x.pass(10));
        Check.same("they stay", 3, x.pitchOf(2, 1));
        x.limit(2, 58);
        Check.same("the fourth sends home", 1, x.pass(1));
        Check.same("there are four", 4, x.pitchOf(2, 1));
    }

    private static void passAtMostComplaints() {
        BuskPitches x = new BuskPitches();
        x.busker(ACCORDION, 9);
        for (int complaints = 1; complaints <= 99; complaints++) {
            if (x.pitchOf(0, 0) == -1) {
                play(x, 0, 0);
            }
            Check.same("sent home at " + complaints, complaints >= 3 ? 1 : 0, x.pass(1));
        }
        play(x, 0, 0);
        Check.same("nobody is sent home for 99", 0, x.pass(60));
        Check.same("at most 99", 99, x.pitchOf(0, 1));
        Check.same("so far", 99, x.account(9));
        Check.same("and nothing in the hat", 0, bits(x.hat(0)));
        Check.same("but the hours are played", 99 + 60, x.buskerOf(0, 5));
        x.limit(0, 120);
        x.pass(1);
        Check.same("takings with 99", bits(0.1f * 10.0f * 9.0f / (1.0f + 99.0f)), bits(x.hat(0)));
    }

    static void promise28HatIn() {
        BuskPitches x = new BuskPitches();
        x.busker(FIDDLE, 7);
        x.busker(ACCORDION, 3);
        x.crowd(47);
        play(x, 0, 0);
        play(x, 1, 1);
        x.limit(0, 120);
        x.pass(1);
        String before = Observed.withAllCounts(x);
        int[] due = new int[61];
        for (int hours = 0; hours <= 60; hours++) {
            due[hours] = x.hatIn(0, hours);
        }
        Check.sameText("nothing is different", before, Observed.withAllCounts(x));
        for (int hours = 0; hours <= 60; hours++) {
            Check.same("hatIn(0, " + hours + ")", due[hours], bits(x.hat(0)));
            x.pass(1);
        }
        for (int hours : new int[] {-1, 61, LOW, HIGH}) {
            wrong(x, "hatIn(0, " + hours + ")", RANGE, () -> x.hatIn(0, hours));
        }
        wrongBuskers(x, "hatIn", busker -> x.hatIn(busker, 61));
    }

    static void promise29PlayingIn() {
        BuskPitches x = new BuskPitches();
        x.busker(FIDDLE, 9);
        x.busker(ACCORDION, 9);
        x.busker(ACCORDION, 1);
        x.busker(FIDDLE, 1);
        x.limit(0, 120);
        play(x, 0, 0);
        play(x, 1, 3);
        play(x, 2, 7);
        x.pass(1);
        String before = Observed.withAllCounts(x);
        Check.same("now", 3, x.playingIn(0));
        Check.same("in an hour", 3, x.playingIn(1));
        Check.same("in two hours", 1, x.playingIn(2));
        Check.same("in sixty hours", 1, x.playingIn(60));
        Check.sameText("nothing is different", before, Observed.withAllCounts(x));
        for (int hours : new int[] {-1, 61, LOW, HIGH}) {
            wrong(x, "playingIn(" + hours + ")", RANGE, () -> x.playingIn(hours));
        }
    }

    static void promise30Sign() {
        BuskPitches x = new BuskPitches();
        x.busker(FIDDLE, 9);
        x.busker(ACCORDION, 9);
        play(x, 0, 0);
        play(x, 1, 2);
        Check.same("a loud fiddle", 'F', x.sign(0));
        Check.same("a loud accordion", 'A', x.sign(2));
        Check.same("nobody", '.', x.sign(1));
        x.limit(1, 44);
        Check.same("nobody, but loud", '!', x.sign(1));
        x.limit(0, 86);
        x.limit(2, 91);
        Check.same("a fiddle at the limit", 'f', x.sign(0));
        Check.same("an accordion at the limit", 'a', x.sign(2));
        wrongPitches(x, "sign", x::sign);
    }

    static void promise31Append() {
        BuskPitches x = new BuskPitches();
        char[] signs = {(char) 0, 'w', (char) 255, (char) 65535};
        for (int k = 1; k <= 60; k++) {
            Check.same("append " + k, k, x.append(signs[k % 4]));
        }
        wrong(x, "a character too many", STATE, () -> x.append('w'));
        Check.same("60 characters", 60, x.account(13));
        Check.same("no change", 0, x.account(14));
        Check.thrown("read", RANGE, x::read);
        Check.same("empty then", 1, x.append('w'));
    }

    static void promise32Read() {
        BuskPitches x = officeWith(3);
        Check.same("read", 7, read(x, "w0;w1;w2;d4#04;d5#1;c50;p3"));
        Check.same("4 of 3", 4, x.buskerOf(1, 2));
        Check.same("1 of 2", 5, x.buskerOf(2, 2));
        Check.same("the hour", 3, x.account(0));
        Check.same("the crowd", 50, x.account(1));
        Check.same("the input is empty", 0, x.account(13));
        Check.same("one change", 4, x.account(14));
        undone(x, "read", () -> read(x, "p5;x4;s2;c1"));
        Check.same("strings and home", 2, read(x, "s2;x4"));
        Check.same("new strings", 1, x.buskerOf(2, 6));
        Check.same("two digits with nothing ahead", 1, read(x, "c07"));
        Check.same("the crowd then", 7, x.account(1));
        readAnswers();
        readRefused(officeWith(2));
        readWrong(officeWith(2));
        Check.same("sixty characters", 15, read(officeWith(1), "p60;".repeat(13) + "w0;d0#10"));
    }

    private static void readAnswers() {
        BuskPitches x = new BuskPitches();
        x.busker(ACCORDION, 9);
        Check.same("answers", 5, read(x, "w0;d0#99;p2;a0;p2"));
        Check.same("complaints then", 2, x.pitchOf(0, 1));
        Check.same("answered", 2, x.account(8));
        Check.same("so far", 4, x.pitchOf(0, 2));
    }

    private static void readRefused(BuskPitches x) {
        String[] texts = {"w0;w0", "w0;d3#0;w0", "w1;d2#0;d2#0", "p1;d0#5", "c3;x7", "p2;s1", "c4;a6", "w0;x1;w9"};
        int[] reasons = {2, 3, 5, 6, 7, 8, 9, 7};
        int[] details = {0, 3, 1, 0, 7, 0, 6, 1};
        for (int k = 0; k < texts.length; k++) {
            String text = texts[k];
            refused(x, text, reasons[k], details[k], () -> read(x, text));
            Check.same(text + ": no error", -1, x.errorPosition());
        }
    }

    private static void readWrong(BuskPitches x) {
        String[] texts = {"w2", "w0;w9", "d8#0", "x8", "s2", "a9", "c51", "c99", "p0", "p00", "p61", "c5;p99", "p1;w7"};
        for (String text : texts) {
            wrong(x, text, RANGE, () -> read(x, text));
            Check.same(text + ": no error", -1, x.errorPosition());
        }
        wrong(x, "the first one that cannot be", RANGE, () -> read(x, "w0;c60;w0"));
        Check.thrown("no reason is kept for it", NO_ELEMENT, () -> x.refusal(false));
        wrong(x, "nothing to read", RANGE, x::read);
    }

    static void promise33ErrorPosition() {
        String[] texts = {"", "w", "w0;", "w0;;", "w00", "wx", "W0", "d", "d1", "d1#", "d1#123", "d12", "d1;", "d#",
            "x", "x1x", "s", "s12", "a", "a;", "c", "c123", "c1;p", "p", "p1 ", " p1", "p-1", "q", ";", "#", "w0;d1#2;x",
            "w0;d1#23;x1y", "c5p1", "w\u0661"};
        int[] due = {0, 1, 3, 3, 2, 1, 0, 1, 2, 3, 5, 2, 2, 1,
            1, 2, 1, 2, 1, 1, 1, 3, 4, 1, 2, 0, 1, 0, 0, 0, 9,
            11, 2, 1};
        BuskPitches x = officeWith(1);
        Check.same("nothing read", -1, x.errorPosition());
        for (int k = 0; k < texts.length; k++) {
            String text = texts[k];
            wrong(x, "read of " + text, RANGE, () -> read(x, text));
            Check.same("errorPosition of " + text, due[k], x.errorPosition());
        }
        x.save();
        x.crowd(3);
        x.undo();
        x.restore();
        write(x, "w0");
        Check.same("stays", 1, x.errorPosition());
        x.read();
        Check.same("none any more", -1, x.errorPosition());
        Check.thrown("an error again", RANGE, () -> read(x, "w0;w"));
        Check.same("at the end", 4, x.errorPosition());
    }

    static void promise34Refusal() {
        BuskPitches x = officeWith(2);
        Check.thrown("no reason", NO_ELEMENT, () -> x.refusal(false));
        Check.thrown("no detail", NO_ELEMENT, () -> x.refusal(true));
        x.save();
        x.crowd(3);
        refused(x, "leave", 7, 4, () -> x.leave(4));
        x.undo();
        x.restore();
        Check.thrown("another exception", NO_SUCH, () -> x.leave(8));
        Check.same("the reason stays", 7, x.refusal(false));
        Check.same("the detail stays", 4, x.refusal(true));
        x.join(0);
        Check.same("the reason stays with what is not refused", 7, x.refusal(false));
        refused(x, "the latest", 2, 0, () -> x.join(0));
    }

    static void promise35Account() {
        BuskPitches x = officeWith(8);
        x.crowd(23);
        play(x, 7, 0);
        play(x, 6, 3);
        play(x, 5, 7);
        x.limit(0, 40);
        x.limit(3, 120);
        x.join(1);
        x.rack(1, 1);
        x.rack(0, 0);
        x.pass(2);
        x.strings(6);
        x.pass(2);
        x.answer(0);
        write(x, "w0;");
        int[] due = {4, 23, 8, 5, 1, 2, 0, 0, 3, 3, 2, 1, 3, 3, 8};
        for (int what = 0; what <= 14; what++) {
            Check.same("account(" + what + ")", due[what], x.account(what));
        }
        x.leave(7);
        play(x, 4, 0);
        x.limit(0, 69);
        x.pass(1);
        Check.same("complaints", 1, x.account(7));
        Check.same("all complaints", 4, x.account(9));
        Check.same("snapped", 1, x.account(6));
        x.undo();
        Check.same("none snapped before", 0, x.account(6));
        for (int what : new int[] {-1, 15, LOW, HIGH}) {
            wrong(x, "account(" + what + ")", RANGE, () -> x.account(what));
        }
    }

    static void promise36IsWell() {
        BuskPitches x = officeWith(8);
        Check.isTrue("well", x.isWell());
        for (int k = 0; k < 8; k++) {
            play(x, k, 7 - k);
            x.pass(1 + k);
            Check.isTrue("well after " + k, x.isWell());
        }
        BuskPitches y = officeWith(4);
        y.limit(0, 40);
        play(y, 3, 0);
        y.pass(2);
        y.answer(0);
        y.join(1);
        y.pass(1);
        Check.isTrue("well with one who waits and with an answer", y.isWell());
        x.undo();
        Check.isTrue("well after undo", x.isWell());
    }

    static void promise37MeanBits() {
        BuskPitches x = new BuskPitches();
        Check.thrown("the mean of nothing", ArithmeticException.class, x::meanBits);
        x.busker(FIDDLE, 1);
        Check.same("the mean of nothing in the hat", 0L, x.meanBits());
        x.busker(ACCORDION, 7);
        x.busker(FIDDLE, 5);
        x.crowd(7);
        play(x, 0, 0);
        play(x, 1, 2);
        play(x, 2, 5);
        for (int hours = 0; hours < 30; hours++) {
            double sum = 0.0 + (double) x.hat(0) + (double) x.hat(1) + (double) x.hat(2);
            x.crowd(hours == 0 ? 1 : 7);
            Check.same("the mean in hour " + hours, Double.doubleToLongBits(sum / 3.0), x.meanBits());
            x.pass(1);
        }
    }

    static void promise38Undo() {
        BuskPitches x = new BuskPitches();
        int[] seen = new int[11];
        for (int k = 0; k < 11; k++) {
            seen[k] = x.account(1);
            x.crowd(k * 2);
            Check.same("changes to undo", Math.min(8, k + 1), x.account(14));
        }
        for (int left = 7; left >= 0; left--) {
            Check.same("undo", left, x.undo());
            Check.same("undone to " + left, seen[3 + left], x.account(1));
        }
        Check.thrown("a ninth undo", STATE, x::undo);
        x.crowd(1);
        x.busker(FIDDLE, 1);
        Check.same("one of two", 1, x.undo());
        x.limit(0, 50);
        Check.same("changed again", 2, x.account(14));
        Check.same("undone again", 1, x.undo());
        Check.same("the crowd stays", 1, x.account(1));
        x.append('w');
        Check.same("the last one", 0, x.undo());
        Check.same("the input stays", 1, x.account(13));
        Check.thrown("nothing to undo", STATE, x::undo);
    }

    static void promise39Save() {
        BuskPitches x = officeWith(2);
        Check.same("save", 2, x.save());
        Check.same("no change", 2, x.account(14));
        x.busker(FIDDLE, 9);
        Check.same("save again", 3, x.save());
        String saved = Observed.of(x);
        x.undo();
        Check.same("undo leaves the snapshot", 3, x.restore());
        Check.sameText("the later snapshot", saved, Observed.of(x));
    }

    static void promise40Restore() {
        BuskPitches x = officeWith(4);
        Check.thrown("no snapshot", STATE, x::restore);
        play(x, 0, 0);
        play(x, 3, 5);
        x.join(1);
        x.rack(1, 1);
        x.limit(0, 40);
        x.pass(2);
        x.save();
        String saved = Observed.of(x);
        for (int round = 0; round < 2; round++) {
            x.pass(20);
            x.answer(0);
            x.crowd(2);
            x.busker(FIDDLE, 3);
            x.unrack(1);
            x.draw(6, 3);
            x.limit(1, 99);
            write(x, "w");
            Check.same("restore", 4, x.restore());
            Check.sameText("restored", saved, Observed.of(x));
            Check.same("the input stays", round + 1, x.account(13));
            Check.same("nothing to undo", 0, x.account(14));
            Check.thrown("undo", STATE, x::undo);
        }
        x.crowd(9);
        Check.same("changes count again", 0, x.undo());
        Check.sameText("undone", saved, Observed.of(x));
    }
}
