import java.util.function.Supplier;

/** A test for each sentence of "Terms" from the hours to the cases, at its bounds. */
public final class TermsTests extends OfficeTest {
    public static void main(String[] args) {
        runAll(TermsTests.class);
    }

    @Says(promise = -1, value = "An object is used for at most 512 calls after it has been made;")
    static void goodFor512Calls() {
        BuskPitches hours = new BuskPitches();
        for (int call = 1; call <= 511; call++) {
            hours.pass(60);
        }
        Check.same("hours", 511 * 60, hours.account(0));
        BuskPitches hat = Offices.playing(ACCORDION, 9, 0, 120);
        hat.crowd(50);
        float due = 0.0f;
        // What playing takes and the three other calls here are 8 in all.
        for (int call = 1; call <= 504; call++) {
            hat.pass(60);
            for (int hour = 0; hour < 60; hour++) {
                due = due + 0.1f * 50.0f * 9.0f;
            }
        }
        Check.same("hours played", 504 * 60, hat.buskerOf(0, 5));
        Check.same("the most in a hat", bits(due), bits(hat.hat(0)));
        Check.same("and its mean", Double.doubleToLongBits((double) due), hat.meanBits());
        BuskPitches answered = Offices.playing(ACCORDION, 9, 0, 40);
        for (int round = 1; round <= 169; round++) {
            answered.pass(2);
            Check.same("answered", 2, answered.answer(0));
            Check.same("played by then", 2 * round, answered.buskerOf(0, 5));
        }
        Check.same("all answered", 338, answered.account(8));
    }

    // Hours and crowd.

    @Says("Computations of floats are done from the left to the right, those in brackets first.")
    static void floatsFromTheLeft() {
        for (int crowd = 0; crowd <= 50; crowd++) {
            for (int loudness = 1; loudness <= 9; loudness++) {
                BuskPitches x = Offices.playing(ACCORDION, loudness, 0, 120);
                x.crowd(crowd);
                float takings = 0.1f * (float) crowd;
                takings = takings * (float) loudness;
                float due = 0.0f;
                for (int hours = 0; hours <= 7; hours++) {
                    Check.same("hat by " + crowd + " and " + loudness, bits(due), x.hatIn(0, hours));
                    due = due + takings;
                }
            }
        }
    }

    @Says("Hours are numbered from 0.")
    static void hoursFromZero() {
        BuskPitches x = new BuskPitches();
        Check.same("the first hour", 0, x.account(0));
        x.pass(1);
        Check.same("the second hour", 1, x.account(0));
        x.undo();
        Check.same("the first hour again", 0, x.account(0));
    }

    @Says("The crowd is from 0 to 50.")
    static void crowdFrom0To50() {
        BuskPitches x = new BuskPitches();
        for (int crowd = 0; crowd <= 50; crowd++) {
            x.crowd(crowd);
            Check.same("the crowd", crowd, x.account(1));
        }
        thrownFor(new int[] {-1, 51}, "crowd", Offices::busyWithErrors, RANGE, BuskPitches::crowd);
        BuskPitches nobody = Offices.playing(ACCORDION, 9, 0, 120);
        nobody.crowd(0);
        nobody.pass(60);
        Check.same("nothing from nobody", 0, bits(nobody.hat(0)));
    }

    // Pitches.

    @Says("There are the pitches 0 to 7 in a row; the pitch k has the pitches k - 1 and k + 1 beside it, if there are such.")
    static void pitchesInARow() {
        for (int at = 0; at <= 7; at++) {
            BuskPitches x = Offices.playing(FIDDLE, 9, at, 120);
            for (int pitch = 0; pitch <= 7; pitch++) {
                int apart = Math.abs(pitch - at);
                float due = apart == 0 ? 86.0f : apart == 1 ? 21.5f : 0.0f;
                Check.same("noise of " + pitch + " by " + at, bits(due), x.noise(pitch));
                Check.same("noise of " + pitch + " again by " + at, bits(due), x.noiseAgain(pitch));
            }
        }
        thrownFor(NOT_PITCHES, "noise", Offices::busyWithErrors, NO_SUCH, BuskPitches::noise);
    }

    @Says("Each has a limit of noise, a float from 40.0f to 120.0f,")
    static void limitsFrom40To120() {
        BuskPitches x = new BuskPitches();
        for (int pitch = 0; pitch <= 7; pitch++) {
            x.limit(pitch, 40);
            Check.same("the least limit of " + pitch, bits(40.0f), bits(x.below(pitch)));
            x.limit(pitch, 120);
            Check.same("the most of " + pitch, bits(120.0f), bits(x.below(pitch)));
            int same = pitch;
            thrown("a limit of 39", Offices::busyWithErrors, RANGE, y -> y.limit(same, 39));
            thrown("a limit of 121", Offices::busyWithErrors, RANGE, y -> y.limit(same, 121));
        }
    }

    @Says("complaints, from 0 to 99, at first 0,")
    static void complaintsFrom0To99() {
        BuskPitches x = new BuskPitches();
        for (int pitch = 0; pitch <= 7; pitch++) {
            Check.same("complaints at first", 0, x.pitchOf(pitch, 1));
        }
        BuskPitches most = withComplaints(98);
        Check.same("98", 98, most.pitchOf(0, 1));
        most.pass(1);
        Check.same("99", 99, most.pitchOf(0, 1));
        Offices.play(most, 0, 0);
        most.pass(60);
        Check.same("still 99", 99, most.pitchOf(0, 1));
        Check.same("and 99 so far", 99, most.pitchOf(0, 2));
    }

    /** An accordion of the loudness 9 plays on pitch 0, about which there are so many complaints. */
    private static BuskPitches withComplaints(int complaints) {
        BuskPitches x = Offices.playing(ACCORDION, 9, 0, 80);
        for (int k = 1; k <= complaints; k++) {
            if (x.pass(1) == 1) {
                Offices.play(x, 0, 0);
            }
        }
        return x;
    }

    @Says("and a busker who plays there or none.")
    static void aBuskerOrNone() {
        for (int pitch = 0; pitch <= 7; pitch++) {
            BuskPitches x = Offices.with(FIDDLE, 1);
            Check.same("none on " + pitch, -1, x.pitchOf(pitch, 0));
            Offices.play(x, 0, pitch);
            Check.same("the busker on " + pitch, 0, x.pitchOf(pitch, 0));
            x.leave(pitch);
            Check.same("none again on " + pitch, -1, x.pitchOf(pitch, 0));
        }
    }

    @Says("No pitch has two buskers, and no busker two pitches.")
    static void neverTwo() {
        refused("a second busker for a pitch", Offices::busy, 5, 1, x -> x.draw(2, 0));
        refused("a busker who plays, for the line", Offices::busy, 3, 2, x -> x.join(1));
        BuskPitches x = Offices.busy();
        x.swap(2, 5);
        int[] due = {-1, -1, 5, -1, -1, 1, -1, -1};
        for (int pitch = 0; pitch <= 7; pitch++) {
            Check.same("on " + pitch + " behind a swap", due[pitch], x.pitchOf(pitch, 0));
        }
        Check.same("the pitch of the one", 5, x.buskerOf(1, 2));
        Check.same("the pitch of the other", 2, x.buskerOf(5, 2));
        Check.same("two play", 2, x.account(5));
    }

    // Buskers.

    @Says("At most 8 buskers are kept, numbered from 0,")
    static void atMost8Buskers() {
        BuskPitches x = new BuskPitches();
        Check.same("none at first", 0, x.account(2));
        for (int k = 0; k < 8; k++) {
            Check.same("the number", k, x.busker(FIDDLE, 1));
        }
        Check.same("eight", 8, x.account(2));
        refused("a ninth", Offices::busyWithErrors, 1, 8, y -> y.busker(FIDDLE, 1));
        thrownForNoBusker("hat of nobody", Offices::busyWithErrors, BuskPitches::hat);
        thrownForNoBusker("hat of nobody in a new office", BuskPitches::new, BuskPitches::hat);
    }

    @Says("each with a fiddle, 0, or an accordion, 1,")
    static void fiddleOrAccordion() {
        Check.same("a fiddle", 0, Offices.with(0, 1).buskerOf(0, 0));
        Check.same("an accordion", 1, Offices.with(1, 1).buskerOf(0, 0));
        Supplier<BuskPitches> office = () -> Offices.of(3);
        thrownFor(new int[] {-1, 2, LOW, HIGH}, "a kind", office, RANGE, (x, kind) -> x.busker(kind, 1));
    }

    @Says("with a loudness from 1 to 9,")
    static void loudnessFrom1To9() {
        for (int loudness = 1; loudness <= 9; loudness++) {
            for (int kind = 0; kind <= 1; kind++) {
                Check.same("a loudness", loudness, Offices.with(kind, loudness).buskerOf(0, 1));
            }
        }
        Supplier<BuskPitches> office = () -> Offices.of(3);
        int[] wrong = {0, 10, -1, LOW, HIGH};
        thrownFor(wrong, "a loudness of a fiddle", office, RANGE, (x, loudness) -> x.busker(0, loudness));
        thrownFor(wrong, "a loudness of an accordion", office, RANGE, (x, loudness) -> x.busker(1, loudness));
    }

    @Says("with a hat, a float, at first 0.0f, and with a wear of the strings, a float, at first 0.0f.")
    static void emptyHatAndNewStringsAtFirst() {
        BuskPitches x = Offices.full();
        for (int k = 0; k < 8; k++) {
            Check.same("hat of " + k, bits(0.0f), bits(x.hat(k)));
            Check.same("wear of " + k, bits(0.0f), x.wear(k));
        }
        BuskPitches again = Offices.playing(FIDDLE, 9, 0, 120);
        again.pass(2);
        for (int k = 0; k < 5; k++) {
            again.undo();
        }
        again.busker(FIDDLE, 9);
        Check.same("hat of a number that was undone", bits(0.0f), bits(again.hat(0)));
        Check.same("wear of a number that was undone", bits(0.0f), again.wear(0));
    }

    @Says("A busker is at home, as at first, waits, or plays on a pitch.")
    static void homeLineOrPitch() {
        BuskPitches x = Offices.with(FIDDLE, 1);
        checkWhere("at first", x, 1, 0, 0);
        x.join(0);
        checkWhere("behind join", x, 0, 1, 0);
        x.draw(3, 0);
        checkWhere("behind draw", x, 0, 0, 1);
        x.leave(3);
        checkWhere("behind leave", x, 1, 0, 0);
        x.undo();
        checkWhere("behind undo", x, 0, 0, 1);
    }

    private static void checkWhere(String what, BuskPitches x, int atHome, int waiting, int playing) {
        Check.same(what + ": at home", atHome, x.account(3));
        Check.same(what + ": waiting", waiting, x.account(4));
        Check.same(what + ": playing", playing, x.account(5));
        Check.same(what + ": place in the line", waiting - 1, x.buskerOf(0, 3));
        Check.same(what + ": pitch", playing == 1 ? 3 : -1, x.buskerOf(0, 2));
    }

    @Says("The strings of a busker are snapped if their wear is 1.0f or more.")
    static void snappedFrom1() {
        for (int loudness = 1; loudness <= 9; loudness++) {
            BuskPitches x = Offices.playing(FIDDLE, loudness, 0, 120);
            float wear = 0.0f;
            for (int hour = 0; hour < 25; hour++) {
                int snapped = wear >= 1.0f ? 1 : 0;
                Check.same("snapped by " + loudness + " at " + wear, snapped, x.account(6));
                Check.same("playing by " + loudness + " at " + wear, 1 - snapped, x.account(5));
                wear = snapped == 1 ? wear : wear + 0.05f * (float) loudness;
                x.pass(1);
            }
        }
        // With the loudness 4 the wear is 1.0f to the bit behind five hours.
        BuskPitches even = Offices.playing(FIDDLE, 4, 0, 120);
        even.pass(5);
        Check.same("exactly 1.0f", bits(1.0f), even.wear(0));
        Check.same("is snapped", 1, even.account(6));
    }

    // Waiting and drawing.

    @Says("Buskers who wait stand in a line in the order in which they came.")
    static void lineInTheOrderOfComing() {
        BuskPitches x = Offices.full();
        int[] order = {4, 7, 0, 2, 6, 1, 3, 5};
        for (int busker : order) {
            x.join(busker);
        }
        checkLine("all", x, order);
        x.draw(3, 0);
        checkLine("without the first", x, 7, 0, 2, 6, 1, 3, 5);
        x.draw(4, 6);
        checkLine("without the last", x, 7, 0, 2, 6, 1, 3);
        x.draw(5, 2);
        checkLine("without one between", x, 7, 0, 6, 1, 3);
        x.leave(3);
        x.join(4);
        checkLine("with one who came again", x, 7, 0, 6, 1, 3, 4);
        x.undo();
        checkLine("behind undo", x, 7, 0, 6, 1, 3);
    }

    private static void checkLine(String what, BuskPitches x, int... line) {
        Check.same(what + ": how many wait", line.length, x.account(4));
        for (int place = 0; place < line.length; place++) {
            Check.same(what + ": at " + place, line[place], x.waiting(place));
            Check.same(what + ": the place of " + line[place], place, x.buskerOf(line[place], 3));
        }
        Check.thrown(what + ": behind the line", NO_ELEMENT, () -> x.waiting(line.length));
    }

    @Says("A draw with a number from 0 to 99 takes the busker of the line whose place is what is left when the number"
        + " is divided by how many wait, and lets the busker play on a pitch.")
    static void drawByWhatIsLeft() {
        for (int waiting = 1; waiting <= 8; waiting++) {
            BuskPitches x = new BuskPitches();
            for (int k = 0; k < waiting; k++) {
                x.busker(FIDDLE, 1);
            }
            for (int k = waiting - 1; k >= 0; k--) {
                x.join(k);
            }
            for (int number = 0; number <= 99; number++) {
                int due = waiting - 1 - number % waiting;
                Check.same("draw " + number + " of " + waiting, due, x.draw(number % 8, number));
                Check.same("the pitch", number % 8, x.buskerOf(due, 2));
                x.undo();
            }
        }
        thrownFor(new int[] {-1, 100, LOW, HIGH}, "draw", Offices::busyWithErrors, RANGE, (x, number) -> x.draw(4, number));
    }

    // Noise.

    @Says("The own noise of a pitch is 0.0f without a busker, and otherwise (50.0f plus (4.0f times the loudness as a"
        + " float)), and 5.0f more than that with an accordion.")
    static void ownNoise() {
        Check.same("without a busker", 0, new BuskPitches().noise(0));
        for (int loudness = 1; loudness <= 9; loudness++) {
            int due = 50 + 4 * loudness;
            Check.same("a fiddle", bits((float) due), Offices.playing(FIDDLE, loudness, 4, 80).noise(4));
            Check.same("an accordion", bits((float) (due + 5)), Offices.playing(ACCORDION, loudness, 4, 80).noise(4));
        }
    }

    @Says("The noise of a pitch is its own noise, plus (0.25f times the own noise of the pitch before it), plus (0.25f"
        + " times the own noise of the pitch behind it), in this order; a pitch that there is not has an own noise of"
        + " 0.0f.")
    static void noiseWithThoseBeside() {
        BuskPitches x = Offices.full();
        float[] own = {54.0f, 63.0f, 62.0f, 71.0f, 70.0f, 79.0f, 78.0f, 87.0f};
        for (int k = 0; k < 8; k++) {
            Offices.play(x, k, k);
        }
        for (int k = 0; k < 8; k++) {
            float before = k == 0 ? 0.0f : own[k - 1];
            float behind = k == 7 ? 0.0f : own[k + 1];
            Check.same("noise of " + k, bits(own[k] + 0.25f * before + 0.25f * behind), x.noise(k));
            Check.same("noise of " + k + " again", x.noise(k), x.noiseAgain(k));
            Check.same("noise of " + k + " with its busker", x.noise(k), x.noiseWith(k, k));
        }
    }

    // An hour goes by.

    @Says("The noise of all pitches is taken first, as it is then.")
    static void noiseIsTakenFirst() {
        for (int beside : new int[] {3, 5}) {
            BuskPitches x = new BuskPitches();
            x.busker(FIDDLE, 9);
            x.busker(ACCORDION, 1);
            x.limit(4, 120);
            Offices.play(x, 0, 4);
            x.pass(2);
            Offices.play(x, 1, beside);
            x.limit(beside, 80);
            Check.same("the fiddle goes home", 1, x.pass(1));
            Check.same("but was heard on " + beside, 1, x.pitchOf(beside, 1));
            x.pass(1);
            Check.same("and is not any more on " + beside, 1, x.pitchOf(beside, 1));
        }
    }

    @Says("Then, for each pitch with a busker, by numbers:")
    static void eachPitchWithABusker() {
        BuskPitches x = new BuskPitches();
        for (int k = 0; k < 8; k++) {
            x.busker(ACCORDION, 1);
            x.limit(k, 120);
            Offices.play(x, k, 7 - k);
        }
        x.pass(1);
        for (int k = 0; k < 8; k++) {
            Check.same("the hour of " + k, 1, x.buskerOf(k, 5));
            Check.same("the hat of " + k, bits(1.0f), bits(x.hat(k)));
        }
        BuskPitches empty = Offices.playing(ACCORDION, 9, 3, 120);
        empty.busker(ACCORDION, 9);
        Offices.play(empty, 1, 5);
        empty.limit(4, 40);
        Check.same("too loud without a busker", '!', empty.sign(4));
        empty.pass(2);
        Check.same("no complaint without a busker", 0, empty.pitchOf(4, 2));
    }

    @Says("if its noise is above its limit, it has 1 complaint more,")
    static void complaintAboveTheLimit() {
        checkLimit("at the limit", 58, 0);
        checkLimit("above the limit", 57, 1);
        checkLimit("below the limit", 59, 0);
        BuskPitches x = Offices.playing(FIDDLE, 2, 3, 74);
        x.busker(ACCORDION, 3);
        Offices.play(x, 1, 4);
        x.pass(1);
        Check.same("less than 1.0f above the limit", bits(-0.75f), bits(x.below(3)));
        Check.same("is a complaint", 1, x.pitchOf(3, 1));
        x.limit(3, 75);
        x.pass(1);
        Check.same("less than 1.0f below the limit", bits(0.25f), bits(x.below(3)));
        Check.same("is none", 1, x.pitchOf(3, 1));
    }

    private static void checkLimit(String what, int limit, int complaints) {
        BuskPitches x = Offices.playing(FIDDLE, 2, 3, limit);
        x.pass(1);
        Check.same(what, complaints, x.pitchOf(3, 1));
        Check.same(what + ": so far", complaints, x.pitchOf(3, 2));
        Check.same(what + ": hat", bits(complaints == 1 ? 0.0f : 2.0f), bits(x.hat(0)));
    }

    @Says("but at most 99;")
    static void atMost99Complaints() {
        BuskPitches x = withComplaints(98);
        Check.same("the 99th", 1, x.pass(1));
        Check.same("is kept", 99, x.pitchOf(0, 1));
        Offices.play(x, 0, 0);
        Check.same("a 100th is none", 0, x.pass(1));
        Check.same("and is not kept", 99, x.pitchOf(0, 1));
        Check.same("nor counted", 99, x.account(9));
        Check.same("and brings nothing", 0, bits(x.hat(0)));
    }

    @Says("otherwise the hat of the busker gets (0.1f times the crowd as a float, times the loudness as a float, divided"
        + " by (1.0f plus the complaints of the pitch as a float)) more.")
    static void takingsByTheComplaints() {
        for (int complaints : new int[] {0, 1, 2, 3, 9, 50, 98, 99}) {
            BuskPitches x = withComplaints(complaints);
            x.limit(0, 120);
            x.crowd(47);
            float takings = 0.1f * 47.0f * 9.0f / (1.0f + (float) complaints);
            Check.same("takings with " + complaints, bits(0.0f + takings), x.hatIn(0, 1));
            x.pass(2);
            Check.same("takings of two hours", bits(0.0f + takings + takings), bits(x.hat(0)));
        }
    }

    @Says("Then, if the busker has a fiddle, the wear of the strings becomes (0.05f times the loudness as a float) more.")
    static void wearOfAFiddle() {
        for (int loudness = 1; loudness <= 9; loudness++) {
            BuskPitches x = Offices.playing(FIDDLE, loudness, 0, 120);
            float hour = 0.05f * (float) loudness;
            x.pass(1);
            Check.same("an hour of " + loudness, bits(0.0f + hour), x.wear(0));
            x.pass(1);
            Check.same("two hours of " + loudness, bits(0.0f + hour + hour), x.wear(0));
            BuskPitches y = Offices.playing(ACCORDION, loudness, 0, 120);
            y.pass(60);
            Check.same("an accordion of " + loudness, 0, y.wear(0));
        }
        BuskPitches loud = Offices.playing(FIDDLE, 9, 0, 40);
        loud.pass(1);
        Check.same("also with a complaint", bits(0.0f + 0.05f * 9.0f), loud.wear(0));
        BuskPitches idle = Offices.with(FIDDLE, 9);
        idle.pass(30);
        idle.join(0);
        idle.pass(30);
        Check.same("not at home nor in the line", 0, idle.wear(0));
    }

    @Says("Then the busker goes home if the strings are snapped, or if the complaints of the pitch are 3 or more and one"
        + " was added in this hour.")
    static void goesHome() {
        BuskPitches snapped = Offices.playing(FIDDLE, 5, 6, 120);
        Check.same("three hours of four", 0, snapped.pass(3));
        Check.same("snapped in the fourth", 1, snapped.pass(1));
        Check.same("home then", -1, snapped.buskerOf(0, 2));
        Check.same("and not in the line", -1, snapped.buskerOf(0, 3));
        BuskPitches loud = Offices.playing(ACCORDION, 9, 6, 80);
        Check.same("two complaints", 0, loud.pass(2));
        Check.same("three complaints", 1, loud.pass(1));
        Check.same("none plays", 0, loud.account(5));
        loud.limit(6, 120);
        Offices.play(loud, 0, 6);
        Check.same("three, but none added", 0, loud.pass(60));
        loud.limit(6, 90);
        Check.same("a fourth added", 1, loud.pass(60));
        Check.same("in one hour", 4, loud.pitchOf(6, 1));
        BuskPitches both = Offices.playing(FIDDLE, 9, 6, 80);
        Check.same("for both at once, one goes", 1, both.pass(3));
    }

    @Says("At last the next hour begins.")
    static void nextHourBegins() {
        BuskPitches x = Offices.busy();
        Check.same("hours so far", 6, x.account(0));
        x.pass(1);
        Check.same("one more", 7, x.account(0));
        x.pass(60);
        Check.same("sixty more", 67, x.account(0));
        Check.same("by a text", 2, Offices.read(x, "p2;p9"));
        Check.same("eleven more", 78, x.account(0));
    }

    // Strings and complaints.

    @Says("New strings cost 2.0f out of the hat of the busker, of either kind, and make the wear 0.0f.")
    static void newStringsCost2() {
        for (int kind = 0; kind <= 1; kind++) {
            BuskPitches x = Offices.playing(kind, 5, 0, 120);
            x.crowd(4);
            x.pass(1);
            Check.same("exactly 2.0f", bits(2.0f), bits(x.hat(0)));
            Check.same("are enough", bits(0.0f), x.strings(0));
            Check.same("no wear any more", 0, x.wear(0));
            Supplier<BuskPitches> without = () -> Offices.with(FIDDLE, 5);
            refused("nothing is too little", without, 8, 0, y -> y.strings(0));
        }
        refused("1.9999995f is too little", TermsTests::withNearly2, 8, 1, y -> y.strings(0));
        BuskPitches snapped = Offices.busy();
        snapped.strings(6);
        Check.same("snapped no more", 0, snapped.account(6));
        Check.same("and may wait", 3, snapped.join(6));
    }

    private static BuskPitches withNearly2() {
        BuskPitches x = Offices.playing(ACCORDION, 1, 0, 120);
        x.crowd(6);
        x.pass(10);
        x.strings(0);
        x.strings(0);
        Check.isTrue("nearly 2.0f", x.hat(0) < 2.0f && x.hat(0) > 1.999999f);
        return x;
    }

    @Says("Complaints about a pitch can be answered, by which there are none any more.")
    static void answeredComplaints() {
        for (int complaints : new int[] {1, 2, 3, 99}) {
            BuskPitches x = withComplaints(complaints);
            Check.same("how many there were", complaints, x.answer(0));
            Check.same("none any more", 0, x.pitchOf(0, 1));
            Check.same("all so far", complaints, x.pitchOf(0, 2));
            Check.same("two more are too few to go", 0, x.pass(2));
            Check.same("a third is not", 1, x.pass(1));
        }
        refused("no complaints", Offices::busyWithErrors, 9, 5, x -> x.answer(5));
    }

    // Cases.

    @Says("Each busker has a case of the kind of the instrument.")
    static void caseOfTheKind() {
        refused("a fiddle case", Offices::full, 12, 1, x -> x.rack(0, 1));
        refused("an accordion case", Offices::full, 12, 0, x -> x.rack(1, 0));
        BuskPitches x = Offices.full();
        Check.same("a fiddle case", 0, x.rack(6, 0));
        Check.same("an accordion case", 0, x.rack(7, 1));
    }

    @Says("There is a rack for fiddle cases, 0, and one for accordion cases, 1, each with the places 0 to 2.")
    static void twoRacksOfThreePlaces() {
        for (int rack = 0; rack <= 1; rack++) {
            BuskPitches x = Offices.full();
            int kind = rack;
            for (int place = 0; place <= 2; place++) {
                Check.same("place of a case", place, x.rack(rack + 2 * place, rack));
                Check.same("whose case", rack + 2 * place, x.onRack(rack, place));
            }
            Check.thrown("a place -1", NO_SUCH, () -> x.onRack(kind, -1));
            Check.thrown("a place 3", NO_SUCH, () -> x.onRack(kind, 3));
            Check.same("three cases", 3, x.account(10));
        }
        refused("a fourth fiddle case", Offices::busyWithErrors, 11, 0, x -> x.rack(6, 0));
        thrownFor(new int[] {-1, 2, LOW, HIGH}, "a rack", Offices::busyWithErrors, NO_SUCH, (x, rack) -> x.rack(3, rack));
    }

    @Says("A case that is put onto a rack takes the lowest free place.")
    static void lowestFreePlace() {
        for (int free = 0; free <= 2; free++) {
            BuskPitches x = Offices.busy();
            Check.same("the place left", free, x.unrack(2 * free));
            Check.same("is taken", free, x.rack(6, 0));
            Check.same("by the other", 6, x.onRack(0, free));
        }
        BuskPitches x = Offices.busy();
        x.unrack(4);
        x.unrack(0);
        Check.same("the lower one of two", 0, x.rack(4, 0));
        Check.same("then the other", 2, x.rack(0, 0));
    }

    // In doubt, too: noise, complaints, strings.

    @Says("A pitch without a busker has the noise that comes over from those beside it.")
    static void noiseWithoutABusker() {
        BuskPitches x = Offices.busy();
        x.swap(2, 5);
        Offices.read(x, "d4#0");
        x.leave(5);
        Check.same("by one beside", bits(0.25f * 71.0f), x.noise(5));
        Check.same("by two beside", bits(0.25f * 79.0f + 0.25f * 71.0f), x.noise(3));
        Check.same("by none", 0, x.noise(7));
    }

    @Says("The 5.0f of an accordion are added last.")
    static void accordionLast() {
        for (int loudness = 1; loudness <= 9; loudness++) {
            float due = 50.0f + 4.0f * (float) loudness + 5.0f;
            Check.same("an accordion", bits(due), Offices.playing(ACCORDION, loudness, 7, 80).noise(7));
        }
    }

    @Says("When there are 99 complaints, none is added in an hour, and nobody is sent home for it.")
    static void nobodySentHomeFor99() {
        BuskPitches x = withComplaints(99);
        Check.same("nobody", 0, x.pass(60));
        Check.same("plays on", 0, x.pitchOf(0, 0));
        Check.same("as is told ahead", 1, x.playingIn(60));
        BuskPitches fiddle = withComplaints(99);
        fiddle.busker(FIDDLE, 9);
        fiddle.leave(0);
        Offices.play(fiddle, 1, 0);
        Check.same("but for snapped strings", 1, fiddle.pass(3));
    }

    @Says("Hours until strings snap are told as if the busker played, also of one who does not.")
    static void snapsInOfAnybody() {
        BuskPitches x = Offices.with(FIDDLE, 5);
        Check.same("at home", 4, x.snapsIn(0));
        x.join(0);
        Check.same("in the line", 4, x.snapsIn(0));
        x.draw(0, 0);
        Check.same("on a pitch", 4, x.snapsIn(0));
        x.pass(1);
        Check.same("an hour later", 3, x.snapsIn(0));
        x.leave(0);
        x.pass(1);
        Check.same("an hour at home later", 3, x.snapsIn(0));
    }

    @Says("A busker who is asked for another pitch counts at the own pitch, too.")
    static void countsAtTheOwnPitch() {
        for (int at = 0; at <= 7; at++) {
            BuskPitches x = Offices.playing(FIDDLE, 9, at, 120);
            for (int pitch = 0; pitch <= 7; pitch++) {
                float due = Math.abs(pitch - at) == 1 ? 86.0f + 0.25f * 86.0f : 86.0f;
                Check.same("at " + at + ", asked for " + pitch, bits(due), x.noiseWith(pitch, 0));
            }
        }
        BuskPitches x = Offices.playing(FIDDLE, 7, 1, 120);
        Check.same("not beside the own pitch", 3, x.quietest(0));
    }
}
