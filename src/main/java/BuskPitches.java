import java.util.Arrays;
import java.util.NoSuchElementException;

/** A busking office of a subway: see README.md and the promises of the document. */
public final class BuskPitches {
    private static final int PITCHES = 8;
    private static final int MOST_BUSKERS = 8;
    private static final int RACKS = 2;
    private static final int RACK_PLACES = 3;
    private static final int MOST_CHARACTERS = 60;
    private static final int MOST_UNDOS = 8;

    private static final int FIDDLE = 0;
    private static final int ACCORDION = 1;
    private static final int LEAST_LOUDNESS = 1;
    private static final int MOST_LOUDNESS = 9;
    private static final int MOST_CROWD = 50;
    private static final int LEAST_LIMIT = 40;
    private static final int MOST_LIMIT = 120;
    private static final int MOST_DRAW_NUMBER = 99;
    private static final int MOST_HOURS = 60;
    private static final int MOST_COMPLAINTS = 99;
    private static final int COMPLAINTS_TO_GO = 3;

    /** Stands for no busker, no pitch, no place and no error. */
    private static final int NONE = -1;

    private static final int BUSKERS_FULL = 1;
    private static final int BUSKER_WAITS = 2;
    private static final int BUSKER_PLAYS = 3;
    private static final int STRINGS_SNAPPED = 4;
    private static final int PITCH_TAKEN = 5;
    private static final int NOBODY_WAITS = 6;
    private static final int PITCH_EMPTY = 7;
    private static final int HAT_TOO_LOW = 8;
    private static final int NO_COMPLAINTS = 9;
    private static final int CASE_ON_RACK = 10;
    private static final int RACK_FULL = 11;
    private static final int RACK_OF_OTHER_KIND = 12;
    private static final int CASE_ON_NO_RACK = 13;

    /** What keeps a change from being made; each but the first has an exception, told by throwFor. */
    private static final int NOTHING = 0;
    private static final int NO_SUCH = 1;
    private static final int OUT_OF_RANGE = 2;
    private static final int REFUSED = 3;

    private final State now = new State();
    /** For what is only tried: hours ahead, and the state before a text. */
    private final State spare = new State();
    private final State snapshot = new State();
    private boolean isSaved = false;
    private final History history = new History();
    private final Input input = new Input();
    private int textError = NONE;
    private int reason = 0;
    private int detail = 0;

    public BuskPitches() {
    }

    // Crowd, pitches, buskers.

    public int crowd(int crowd) throws IllegalArgumentException {
        throwFor(hindranceOfCrowd(crowd));
        history.keep(now);
        int before = now.crowd;
        now.crowd = crowd;
        return before;
    }

    public int limit(int pitch, int limit) throws IndexOutOfBoundsException, IllegalArgumentException {
        throwFor(hindranceOfLimit(pitch, limit));
        history.keep(now);
        float before = now.limits[pitch];
        now.limits[pitch] = (float) limit;
        return Bits.ofFloat(before);
    }

    public int busker(int kind, int loudness) throws IllegalArgumentException, UnsupportedOperationException {
        throwFor(hindranceOfBusker(kind, loudness));
        history.keep(now);
        return now.addBusker(kind, loudness);
    }

    public int buskerOf(int busker, int what) throws IndexOutOfBoundsException, IllegalArgumentException {
        throwFor(hindranceOfBuskerNumber(busker));
        switch (what) {
            case 0: return now.kinds[busker];
            case 1: return now.loudnesses[busker];
            case 2: return now.pitches[busker];
            case 3: return now.places[busker];
            case 4: return now.cases[busker];
            case 5: return now.hoursPlayed[busker];
            case 6: return now.newStrings[busker];
            default: throw new IllegalArgumentException("no such number of a busker");
        }
    }

    public float hat(int busker) throws IndexOutOfBoundsException {
        throwFor(hindranceOfBuskerNumber(busker));
        return now.hats[busker];
    }

    public int wear(int busker) throws IndexOutOfBoundsException {
        throwFor(hindranceOfBuskerNumber(busker));
        return Bits.ofFloat(now.wears[busker]);
    }

    public int pitchOf(int pitch, int what) throws IndexOutOfBoundsException, IllegalArgumentException {
        throwFor(hindranceOfPitchNumber(pitch));
        switch (what) {
            case 0: return now.playerOn(pitch);
            case 1: return now.complaints[pitch];
            case 2: return now.complaintsSoFar[pitch];
            default: throw new IllegalArgumentException("no such number of a pitch");
        }
    }

    // Waiting, drawing, noise.

    public int join(int busker) throws IndexOutOfBoundsException, UnsupportedOperationException {
        throwFor(hindranceOfJoin(busker));
        history.keep(now);
        return now.putInLine(busker);
    }

    public int draw(int pitch, int number)
            throws IndexOutOfBoundsException, IllegalArgumentException, UnsupportedOperationException {
        throwFor(hindranceOfDraw(pitch, number));
        history.keep(now);
        return now.drawFor(pitch, number);
    }

    public int waiting(int place) throws NoSuchElementException {
        int busker = now.waiterAt(place);
        if (busker == NONE) {
            throw new NoSuchElementException("no such place in the line");
        }
        return busker;
    }

    public int leave(int pitch) throws IndexOutOfBoundsException, UnsupportedOperationException {
        throwFor(hindranceOfLeave(pitch));
        history.keep(now);
        return now.sendHomeFrom(pitch);
    }

    public int swap(int pitch, int other) throws IndexOutOfBoundsException, UnsupportedOperationException {
        throwFor(hindranceOfSwap(pitch, other));
        history.keep(now);
        return now.exchange(pitch, other);
    }

    public int noise(int pitch) throws IndexOutOfBoundsException {
        throwFor(hindranceOfPitchNumber(pitch));
        return Bits.ofFloat(now.noiseOn(pitch));
    }

    public int noiseAgain(int pitch) throws IndexOutOfBoundsException {
        throwFor(hindranceOfPitchNumber(pitch));
        now.layRow();
        return Bits.ofFloat(now.noiseByRow(pitch));
    }

    public float below(int pitch) throws IndexOutOfBoundsException {
        throwFor(hindranceOfPitchNumber(pitch));
        return now.limits[pitch] - now.noiseOn(pitch);
    }

    public int noiseWith(int pitch, int busker) throws IndexOutOfBoundsException {
        throwFor(hindranceOfPitchNumber(pitch));
        throwFor(hindranceOfBuskerNumber(busker));
        return Bits.ofFloat(now.noiseOf(pitch, busker));
    }

    public int quietest(int busker) throws IndexOutOfBoundsException, NoSuchElementException {
        throwFor(hindranceOfBuskerNumber(busker));
        int pitch = now.quietestFor(busker);
        if (pitch == NONE) {
            throw new NoSuchElementException("no pitch is free and quiet enough");
        }
        return pitch;
    }

    public int loudest() {
        int loudest = 0;
        for (int pitch = 1; pitch < PITCHES; pitch++) {
            if (now.noiseOn(pitch) > now.noiseOn(loudest)) {
                loudest = pitch;
            }
        }
        return loudest;
    }

    // Strings, complaints, cases, hours.

    public int strings(int busker) throws IndexOutOfBoundsException, UnsupportedOperationException {
        throwFor(hindranceOfStrings(busker));
        history.keep(now);
        now.buyStrings(busker);
        return Bits.ofFloat(now.hats[busker]);
    }

    public int snapsIn(int busker) throws IndexOutOfBoundsException, NoSuchElementException {
        throwFor(hindranceOfBuskerNumber(busker));
        if (now.kinds[busker] == ACCORDION) {
            throw new NoSuchElementException("an accordion has no strings that snap");
        }
        return now.hoursUntilSnapped(busker);
    }

    public int answer(int pitch) throws IndexOutOfBoundsException, UnsupportedOperationException {
        throwFor(hindranceOfAnswer(pitch));
        history.keep(now);
        return now.answerComplaints(pitch);
    }

    public int rack(int busker, int rack) throws IndexOutOfBoundsException, UnsupportedOperationException {
        throwFor(hindranceOfRack(busker, rack));
        history.keep(now);
        return now.putCase(busker);
    }

    public int unrack(int busker) throws IndexOutOfBoundsException, UnsupportedOperationException {
        throwFor(hindranceOfUnrack(busker));
        history.keep(now);
        int place = now.cases[busker];
        now.cases[busker] = NONE;
        return place;
    }

    public int onRack(int rack, int place) throws IndexOutOfBoundsException, NoSuchElementException {
        if (rack < 0 || rack >= RACKS || place < 0 || place >= RACK_PLACES) {
            throw new IndexOutOfBoundsException("no such rack or place");
        }
        int busker = now.caseAt(rack, place);
        if (busker == NONE) {
            throw new NoSuchElementException("the place is free");
        }
        return busker;
    }

    public int ranked(int place) throws NoSuchElementException {
        for (int busker = 0; busker < MOST_BUSKERS; busker++) {
            if (now.hasBusker(busker) && now.countAhead(busker) == place) {
                return busker;
            }
        }
        throw new NoSuchElementException("no such place in the ranks");
    }

    public int pass(int hours) throws IllegalArgumentException {
        throwFor(hindranceOfPass(hours));
        history.keep(now);
        return now.passHours(hours);
    }

    public int hatIn(int busker, int hours) throws IndexOutOfBoundsException, IllegalArgumentException {
        throwFor(hindranceOfBuskerNumber(busker));
        throwFor(hindranceOfLookAhead(hours));
        spare.copyFrom(now);
        spare.passHours(hours);
        return Bits.ofFloat(spare.hats[busker]);
    }

    public int playingIn(int hours) throws IllegalArgumentException {
        throwFor(hindranceOfLookAhead(hours));
        spare.copyFrom(now);
        spare.passHours(hours);
        return spare.countPlaying();
    }

    public char sign(int pitch) throws IndexOutOfBoundsException {
        throwFor(hindranceOfPitchNumber(pitch));
        boolean isLoud = now.noiseOn(pitch) > now.limits[pitch];
        int busker = now.playerOn(pitch);
        if (busker == NONE) {
            return isLoud ? '!' : '.';
        }
        if (now.kinds[busker] == FIDDLE) {
            return isLoud ? 'F' : 'f';
        }
        return isLoud ? 'A' : 'a';
    }

    // Texts, accounts, undo and snapshot.

    public int append(char c) throws IllegalStateException {
        if (input.length >= MOST_CHARACTERS) {
            throw new IllegalStateException("the input is full");
        }
        input.put(c);
        return input.length;
    }

    public int read() throws IllegalArgumentException, UnsupportedOperationException {
        textError = input.findError();
        spare.copyFrom(now);
        int outcome = textError == NONE ? carryOut() : -OUT_OF_RANGE;
        input.length = 0;
        if (outcome >= 0) {
            history.keep(spare);
            return outcome;
        }
        now.copyFrom(spare);
        if (outcome == -REFUSED) {
            throw new UnsupportedOperationException("an order is refused");
        }
        throw new IllegalArgumentException("the text cannot be carried out");
    }

    public int errorPosition() {
        return textError;
    }

    public int refusal(boolean isDetail) throws NoSuchElementException {
        if (reason == 0) {
            throw new NoSuchElementException("nothing was refused");
        }
        return isDetail ? detail : reason;
    }

    public int account(int what) throws IllegalArgumentException {
        switch (what) {
            case 0: return now.hour;
            case 1: return now.crowd;
            case 2: return now.buskers;
            case 3: return now.countAtHome();
            case 4: return now.countWaiting();
            case 5: return now.countPlaying();
            case 6: return now.countSnapped();
            case 7: return sum(now.complaints);
            case 8: return now.answered;
            case 9: return sum(now.complaintsSoFar);
            case 10: return now.countCases();
            case 11: return sum(now.newStrings);
            case 12: return now.draws;
            case 13: return input.length;
            case 14: return history.count;
            default: throw new IllegalArgumentException("no such account");
        }
    }

    /** The document leaves out what this tells; it is the rules of the document that can be looked up. */
    public boolean isWell() {
        return isNoiseTheSameTwice() && isNobodySharing()
                && now.countAtHome() + now.countWaiting() + now.countPlaying() == now.buskers
                && sum(now.complaints) + now.answered == sum(now.complaintsSoFar);
    }

    public long meanBits() throws ArithmeticException {
        if (now.buskers <= 0) {
            throw new ArithmeticException("there are no buskers");
        }
        double sum = 0.0;
        for (int busker = 0; busker < MOST_BUSKERS; busker++) {
            if (now.hasBusker(busker)) {
                sum = sum + (double) now.hats[busker];
            }
        }
        return Bits.ofDouble(sum / (double) now.buskers);
    }

    public int undo() throws IllegalStateException {
        if (history.count <= 0) {
            throw new IllegalStateException("no change can be undone");
        }
        history.giveBack(now);
        return history.count;
    }

    public int save() {
        snapshot.copyFrom(now);
        isSaved = true;
        return now.buskers;
    }

    public int restore() throws IllegalStateException {
        if (!isSaved) {
            throw new IllegalStateException("there is no snapshot");
        }
        now.copyFrom(snapshot);
        history.count = 0;
        return now.buskers;
    }

    // What keeps the changes from being made, for the methods and for the orders of a text.

    private static void throwFor(int hindrance) {
        switch (hindrance) {
            case NO_SUCH: throw new IndexOutOfBoundsException("there is no such one");
            case OUT_OF_RANGE: throw new IllegalArgumentException("out of range");
            case REFUSED: throw new UnsupportedOperationException("refused");
            default: break;
        }
    }

    private int refuse(int why, int more) {
        reason = why;
        detail = more;
        return REFUSED;
    }

    private static boolean isPitch(int pitch) {
        return pitch >= 0 && pitch < PITCHES;
    }

    private static int hindranceOfRange(int number, int least, int most) {
        return number < least || number > most ? OUT_OF_RANGE : NOTHING;
    }

    private static int hindranceOfPitchNumber(int pitch) {
        return isPitch(pitch) ? NOTHING : NO_SUCH;
    }

    private int hindranceOfBuskerNumber(int busker) {
        return now.hasBusker(busker) ? NOTHING : NO_SUCH;
    }

    private static int hindranceOfCrowd(int crowd) {
        return hindranceOfRange(crowd, 0, MOST_CROWD);
    }

    private static int hindranceOfPass(int hours) {
        return hindranceOfRange(hours, 1, MOST_HOURS);
    }

    private static int hindranceOfLookAhead(int hours) {
        return hindranceOfRange(hours, 0, MOST_HOURS);
    }

    private static int hindranceOfLimit(int pitch, int limit) {
        if (!isPitch(pitch)) {
            return NO_SUCH;
        }
        return hindranceOfRange(limit, LEAST_LIMIT, MOST_LIMIT);
    }

    private int hindranceOfBusker(int kind, int loudness) {
        if (kind != FIDDLE && kind != ACCORDION) {
            return OUT_OF_RANGE;
        }
        if (loudness < LEAST_LOUDNESS || loudness > MOST_LOUDNESS) {
            return OUT_OF_RANGE;
        }
        if (now.buskers >= MOST_BUSKERS) {
            return refuse(BUSKERS_FULL, MOST_BUSKERS);
        }
        return NOTHING;
    }

    private int hindranceOfJoin(int busker) {
        if (!now.hasBusker(busker)) {
            return NO_SUCH;
        }
        if (now.places[busker] != NONE) {
            return refuse(BUSKER_WAITS, now.places[busker]);
        }
        if (now.pitches[busker] != NONE) {
            return refuse(BUSKER_PLAYS, now.pitches[busker]);
        }
        if (now.isSnapped(busker)) {
            return refuse(STRINGS_SNAPPED, busker);
        }
        return NOTHING;
    }

    private int hindranceOfDraw(int pitch, int number) {
        if (!isPitch(pitch)) {
            return NO_SUCH;
        }
        if (number < 0 || number > MOST_DRAW_NUMBER) {
            return OUT_OF_RANGE;
        }
        if (now.playerOn(pitch) != NONE) {
            return refuse(PITCH_TAKEN, now.playerOn(pitch));
        }
        if (now.countWaiting() == 0) {
            return refuse(NOBODY_WAITS, 0);
        }
        return NOTHING;
    }

    private int hindranceOfLeave(int pitch) {
        if (!isPitch(pitch)) {
            return NO_SUCH;
        }
        return now.playerOn(pitch) == NONE ? refuse(PITCH_EMPTY, pitch) : NOTHING;
    }

    private int hindranceOfSwap(int pitch, int other) {
        if (!isPitch(pitch) || !isPitch(other)) {
            return NO_SUCH;
        }
        if (now.playerOn(pitch) == NONE) {
            return refuse(PITCH_EMPTY, pitch);
        }
        return now.playerOn(other) == NONE ? refuse(PITCH_EMPTY, other) : NOTHING;
    }

    private int hindranceOfStrings(int busker) {
        if (!now.hasBusker(busker)) {
            return NO_SUCH;
        }
        // A hat is never below 0.0f, so that the cast rounds down.
        return now.hats[busker] < 2.0f ? refuse(HAT_TOO_LOW, (int) now.hats[busker]) : NOTHING;
    }

    private int hindranceOfAnswer(int pitch) {
        if (!isPitch(pitch)) {
            return NO_SUCH;
        }
        return now.complaints[pitch] == 0 ? refuse(NO_COMPLAINTS, pitch) : NOTHING;
    }

    private int hindranceOfRack(int busker, int rack) {
        if (!now.hasBusker(busker) || rack < 0 || rack >= RACKS) {
            return NO_SUCH;
        }
        if (now.cases[busker] != NONE) {
            return refuse(CASE_ON_RACK, now.cases[busker]);
        }
        if (now.freePlaceOn(rack) == NONE) {
            return refuse(RACK_FULL, rack);
        }
        return now.kinds[busker] == rack ? NOTHING : refuse(RACK_OF_OTHER_KIND, rack);
    }

    private int hindranceOfUnrack(int busker) {
        if (!now.hasBusker(busker)) {
            return NO_SUCH;
        }
        return now.cases[busker] == NONE ? refuse(CASE_ON_NO_RACK, busker) : NOTHING;
    }

    // The orders of a text.

    /** Returns the number of orders, or minus what hinders the first one that cannot be. */
    private int carryOut() {
        int orders = 0;
        int from = 0;
        for (int at = 0; at <= input.length; at++) {
            if (at < input.length && input.signAt(at) != ';') {
                continue;
            }
            int hindrance = carryOutOrder(from, at);
            if (hindrance != NOTHING) {
                return -hindrance;
            }
            orders++;
            from = at + 1;
        }
        return orders;
    }

    private int carryOutOrder(int from, int to) {
        char letter = input.signAt(from);
        if (letter == 'd') {
            return tryDraw(input.numberIn(from + 1, from + 2), input.numberIn(from + 3, to));
        }
        int number = input.numberIn(from + 1, to);
        int hindrance = hindranceOfOrder(letter, number);
        if (hindrance == NOTHING) {
            doOrder(letter, number);
        }
        return hindrance;
    }

    private int tryDraw(int pitch, int number) {
        int hindrance = hindranceOfDraw(pitch, number);
        if (hindrance == NOTHING) {
            now.drawFor(pitch, number);
        }
        return hindrance;
    }

    private int hindranceOfOrder(char letter, int number) {
        switch (letter) {
            case 'w': return hindranceOfJoin(number);
            case 'x': return hindranceOfLeave(number);
            case 's': return hindranceOfStrings(number);
            case 'a': return hindranceOfAnswer(number);
            case 'c': return hindranceOfCrowd(number);
            case 'p': return hindranceOfPass(number);
            default: return OUT_OF_RANGE;
        }
    }

    private void doOrder(char letter, int number) {
        switch (letter) {
            case 'w': now.putInLine(number); break;
            case 'x': now.sendHomeFrom(number); break;
            case 's': now.buyStrings(number); break;
            case 'a': now.answerComplaints(number); break;
            case 'c': now.crowd = number; break;
            case 'p': now.passHours(number); break;
            default: break;
        }
    }

    // Checks and sums.

    private boolean isNoiseTheSameTwice() {
        now.layRow();
        for (int pitch = 0; pitch < PITCHES; pitch++) {
            if (now.noiseOn(pitch) != now.noiseByRow(pitch)) {
                return false;
            }
        }
        return true;
    }

    private boolean isNobodySharing() {
        for (int busker = 0; busker < MOST_BUSKERS; busker++) {
            int pitch = now.pitches[busker];
            if (pitch != NONE && now.playerOn(pitch) != busker) {
                return false;
            }
        }
        return true;
    }

    private static int sum(int[] numbers) {
        int sum = 0;
        for (int number : numbers) {
            sum += number;
        }
        return sum;
    }

    /**
     * What changes can change. Rows of buskers are as long as there can be buskers; those that are not there yet
     * are at home, with nothing in the hat, so that most loops need not ask how many there are.
     */
    private static final class State {
        int hour = 0;
        int crowd = 10;
        int buskers = 0;
        int answered = 0;
        int draws = 0;
        final float[] limits = new float[PITCHES];
        final int[] complaints = new int[PITCHES];
        final int[] complaintsSoFar = new int[PITCHES];
        final int[] kinds = new int[MOST_BUSKERS];
        final int[] loudnesses = new int[MOST_BUSKERS];
        final int[] pitches = new int[MOST_BUSKERS];
        final int[] places = new int[MOST_BUSKERS];
        final int[] cases = new int[MOST_BUSKERS];
        final int[] hoursPlayed = new int[MOST_BUSKERS];
        final int[] newStrings = new int[MOST_BUSKERS];
        final float[] hats = new float[MOST_BUSKERS];
        final float[] wears = new float[MOST_BUSKERS];
        /** The own noises of all pitches with one of 0.0f ahead and behind: laid anew for each use, never copied. */
        private final float[] row = new float[PITCHES + 2];

        State() {
            Arrays.fill(limits, 80.0f);
            Arrays.fill(pitches, NONE);
            Arrays.fill(places, NONE);
            Arrays.fill(cases, NONE);
        }

        void copyFrom(State other) {
            hour = other.hour;
            crowd = other.crowd;
            buskers = other.buskers;
            answered = other.answered;
            draws = other.draws;
            System.arraycopy(other.limits, 0, limits, 0, PITCHES);
            System.arraycopy(other.complaints, 0, complaints, 0, PITCHES);
            System.arraycopy(other.complaintsSoFar, 0, complaintsSoFar, 0, PITCHES);
            System.arraycopy(other.kinds, 0, kinds, 0, MOST_BUSKERS);
            System.arraycopy(other.loudnesses, 0, loudnesses, 0, MOST_BUSKERS);
            System.arraycopy(other.pitches, 0, pitches, 0, MOST_BUSKERS);
            System.arraycopy(other.places, 0, places, 0, MOST_BUSKERS);
            System.arraycopy(other.cases, 0, cases, 0, MOST_BUSKERS);
            System.arraycopy(other.hoursPlayed, 0, hoursPlayed, 0, MOST_BUSKERS);
            System.arraycopy(other.newStrings, 0, newStrings, 0, MOST_BUSKERS);
            System.arraycopy(other.hats, 0, hats, 0, MOST_BUSKERS);
            System.arraycopy(other.wears, 0, wears, 0, MOST_BUSKERS);
        }

        boolean hasBusker(int busker) {
            return busker >= 0 && busker < buskers && busker < MOST_BUSKERS;
        }

        int addBusker(int kind, int loudness) {
            if (buskers < 0 || buskers >= MOST_BUSKERS) {
                return NONE;
            }
            kinds[buskers] = kind;
            loudnesses[buskers] = loudness;
            buskers++;
            return buskers - 1;
        }

        int playerOn(int pitch) {
            for (int busker = 0; busker < MOST_BUSKERS && isPitch(pitch); busker++) {
                if (pitches[busker] == pitch) {
                    return busker;
                }
            }
            return NONE;
        }

        int waiterAt(int place) {
            for (int busker = 0; busker < MOST_BUSKERS && place >= 0; busker++) {
                if (places[busker] == place) {
                    return busker;
                }
            }
            return NONE;
        }

        int caseAt(int rack, int place) {
            for (int busker = 0; busker < MOST_BUSKERS && place >= 0; busker++) {
                if (cases[busker] == place && kinds[busker] == rack) {
                    return busker;
                }
            }
            return NONE;
        }

        int countWaiting() {
            int count = 0;
            for (int place : places) {
                count += place == NONE ? 0 : 1;
            }
            return count;
        }

        int countPlaying() {
            int count = 0;
            for (int pitch : pitches) {
                count += pitch == NONE ? 0 : 1;
            }
            return count;
        }

        int countCases() {
            int count = 0;
            for (int place : cases) {
                count += place == NONE ? 0 : 1;
            }
            return count;
        }

        int countAtHome() {
            int count = 0;
            for (int busker = 0; busker < MOST_BUSKERS; busker++) {
                if (hasBusker(busker) && pitches[busker] == NONE && places[busker] == NONE) {
                    count++;
                }
            }
            return count;
        }

        int countSnapped() {
            int count = 0;
            for (int busker = 0; busker < MOST_BUSKERS; busker++) {
                count += isSnapped(busker) ? 1 : 0;
            }
            return count;
        }

        /** How many come before a busker in the ranks. */
        int countAhead(int busker) {
            int count = 0;
            for (int other = 0; other < MOST_BUSKERS; other++) {
                boolean isRicher = hats[other] > hats[busker];
                boolean isAsRich = hats[other] == hats[busker];
                if (hasBusker(other) && (isRicher || (isAsRich && other < busker))) {
                    count++;
                }
            }
            return count;
        }

        boolean isSnapped(int busker) {
            return wears[busker] >= 1.0f;
        }

        int putInLine(int busker) {
            places[busker] = countWaiting();
            return countWaiting();
        }

        int drawFor(int pitch, int number) {
            int waiters = countWaiting();
            int busker = waiters <= 0 ? NONE : waiterAt(number % waiters);
            if (busker == NONE) {
                return NONE;
            }
            int place = places[busker];
            for (int other = 0; other < MOST_BUSKERS; other++) {
                if (places[other] > place) {
                    places[other]--;
                }
            }
            places[busker] = NONE;
            pitches[busker] = pitch;
            draws++;
            return busker;
        }

        int sendHomeFrom(int pitch) {
            int busker = playerOn(pitch);
            if (busker != NONE) {
                pitches[busker] = NONE;
            }
            return busker;
        }

        /** Returns who is on the first pitch then. */
        int exchange(int pitch, int other) {
            int first = playerOn(pitch);
            int second = playerOn(other);
            if (first != NONE && second != NONE) {
                pitches[first] = other;
                pitches[second] = pitch;
            }
            return second;
        }

        void buyStrings(int busker) {
            hats[busker] = hats[busker] - 2.0f;
            wears[busker] = 0.0f;
            newStrings[busker]++;
        }

        int answerComplaints(int pitch) {
            int count = complaints[pitch];
            answered += count;
            complaints[pitch] = 0;
            return count;
        }

        int freePlaceOn(int rack) {
            for (int place = 0; place < RACK_PLACES; place++) {
                if (caseAt(rack, place) == NONE) {
                    return place;
                }
            }
            return NONE;
        }

        int putCase(int busker) {
            cases[busker] = freePlaceOn(kinds[busker]);
            return cases[busker];
        }

        float noiseOfBusker(int busker) {
            float noise = 50.0f + 4.0f * (float) loudnesses[busker];
            return kinds[busker] == ACCORDION ? noise + 5.0f : noise;
        }

        float ownNoiseOn(int pitch) {
            int busker = playerOn(pitch);
            return busker == NONE ? 0.0f : noiseOfBusker(busker);
        }

        private float noiseAround(int pitch, float own) {
            return own + 0.25f * ownNoiseOn(pitch - 1) + 0.25f * ownNoiseOn(pitch + 1);
        }

        float noiseOn(int pitch) {
            return noiseAround(pitch, ownNoiseOn(pitch));
        }

        float noiseOf(int pitch, int busker) {
            return noiseAround(pitch, noiseOfBusker(busker));
        }

        void layRow() {
            Arrays.fill(row, 0.0f);
            for (int busker = 0; busker < MOST_BUSKERS; busker++) {
                if (isPitch(pitches[busker])) {
                    row[pitches[busker] + 1] = noiseOfBusker(busker);
                }
            }
        }

        float noiseByRow(int pitch) {
            return row[pitch + 1] + 0.25f * row[pitch] + 0.25f * row[pitch + 2];
        }

        int quietestFor(int busker) {
            int quietest = NONE;
            float least = 0.0f;
            for (int pitch = 0; pitch < PITCHES; pitch++) {
                float noise = noiseOf(pitch, busker);
                boolean isOpen = playerOn(pitch) == NONE && noise <= limits[pitch];
                if (isOpen && (quietest == NONE || noise < least)) {
                    quietest = pitch;
                    least = noise;
                }
            }
            return quietest;
        }

        private float wearOfHour(int busker) {
            return 0.05f * (float) loudnesses[busker];
        }

        int hoursUntilSnapped(int busker) {
            int hours = 0;
            float wear = wears[busker];
            // The least loudness snaps strings in some twenty hours; the bound is only there to be seen.
            while (wear < 1.0f && hours < 1000) {
                wear = wear + wearOfHour(busker);
                hours++;
            }
            return hours;
        }

        /** Returns how many go home. */
        int passHours(int hours) {
            int gone = 0;
            for (int passed = 0; passed < hours; passed++) {
                // The row is the noise before anybody goes home in this hour.
                layRow();
                for (int pitch = 0; pitch < PITCHES; pitch++) {
                    int busker = playerOn(pitch);
                    if (busker != NONE && playHour(pitch, busker)) {
                        pitches[busker] = NONE;
                        gone++;
                    }
                }
                hour++;
            }
            return gone;
        }

        /** Returns whether the busker goes home after this hour. */
        private boolean playHour(int pitch, int busker) {
            boolean isLoud = noiseByRow(pitch) > limits[pitch];
            boolean isComplaint = isLoud && complaints[pitch] < MOST_COMPLAINTS;
            if (isComplaint) {
                complaints[pitch]++;
                complaintsSoFar[pitch]++;
            }
            if (!isLoud) {
                hats[busker] = hats[busker] + takings(pitch, busker);
            }
            if (kinds[busker] == FIDDLE) {
                wears[busker] = wears[busker] + wearOfHour(busker);
            }
            hoursPlayed[busker]++;
            return isSnapped(busker) || (isComplaint && complaints[pitch] >= COMPLAINTS_TO_GO);
        }

        private float takings(int pitch, int busker) {
            return 0.1f * (float) crowd * (float) loudnesses[busker] / (1.0f + (float) complaints[pitch]);
        }
    }

    /** The states before the latest changes, in a ring. */
    private static final class History {
        private final State[] ring = new State[MOST_UNDOS];
        private int next = 0;
        int count = 0;

        History() {
            for (int slot = 0; slot < MOST_UNDOS; slot++) {
                ring[slot] = new State();
            }
        }

        void keep(State state) {
            State slot = ring[next];
            if (slot != null) {
                slot.copyFrom(state);
            }
            next = (next + 1) % MOST_UNDOS;
            count = count < MOST_UNDOS ? count + 1 : MOST_UNDOS;
        }

        void giveBack(State state) {
            next = (next + MOST_UNDOS - 1) % MOST_UNDOS;
            State slot = ring[next];
            if (slot != null) {
                state.copyFrom(slot);
            }
            count--;
        }
    }

    /** The characters appended so far, and the grammar of a text of orders. */
    private static final class Input {
        private static final int LETTER_NEXT = 0;
        private static final int LAST_DIGIT_NEXT = 1;
        private static final int PITCH_NEXT = 2;
        private static final int HASH_NEXT = 3;
        private static final int NUMBER_NEXT = 4;
        private static final int DIGIT_OR_END_NEXT = 5;
        private static final int END_NEXT = 6;
        private static final int STUCK = 7;

        private final char[] signs = new char[MOST_CHARACTERS];
        int length = 0;

        void put(char sign) {
            if (length >= 0 && length < MOST_CHARACTERS) {
                signs[length] = sign;
                length++;
            }
        }

        char signAt(int offset) {
            return offset >= 0 && offset < length && offset < MOST_CHARACTERS ? signs[offset] : (char) 0;
        }

        int numberIn(int from, int to) {
            int number = 0;
            for (int at = from; at < to; at++) {
                number = 10 * number + (signAt(at) - '0');
            }
            return number;
        }

        int findError() {
            int stage = LETTER_NEXT;
            for (int at = 0; at < length; at++) {
                stage = stageAfter(stage, signAt(at));
                if (stage == STUCK) {
                    return at;
                }
            }
            return stage == DIGIT_OR_END_NEXT || stage == END_NEXT ? NONE : length;
        }

        private static int stageAfter(int stage, char sign) {
            boolean isDigit = sign >= '0' && sign <= '9';
            switch (stage) {
                case LETTER_NEXT: return stageAfterLetter(sign);
                case LAST_DIGIT_NEXT: return isDigit ? END_NEXT : STUCK;
                case PITCH_NEXT: return isDigit ? HASH_NEXT : STUCK;
                case HASH_NEXT: return sign == '#' ? NUMBER_NEXT : STUCK;
                case NUMBER_NEXT: return isDigit ? DIGIT_OR_END_NEXT : STUCK;
                case DIGIT_OR_END_NEXT: return isDigit ? END_NEXT : stageAfterEnd(sign);
                default: return stageAfterEnd(sign);
            }
        }

        private static int stageAfterLetter(char letter) {
            switch (letter) {
                case 'w': case 'x': case 's': case 'a': return LAST_DIGIT_NEXT;
                case 'd': return PITCH_NEXT;
                case 'c': case 'p': return NUMBER_NEXT;
                default: return STUCK;
            }
        }

        private static int stageAfterEnd(char sign) {
            return sign == ';' ? LETTER_NEXT : STUCK;
        }
    }

    /** The bits of floats and doubles that are finite and not below zero, as no other ones are asked for. */
    private static final class Bits {
        static int ofFloat(float value) {
            if (value == 0.0f) {
                return 0;
            }
            int exponent = 127;
            float scaled = value;
            for (; scaled >= 2.0f && exponent < 254; exponent++) {
                scaled = scaled / 2.0f;
            }
            for (; scaled < 1.0f && exponent > 1; exponent--) {
                scaled = scaled * 2.0f;
            }
            // The leading one of the fraction counts the exponent up by 1; what is too small for it has the exponent 0.
            return ((exponent - 1) << 23) + (int) (scaled * 8388608.0f);
        }

        static long ofDouble(double value) {
            if (value == 0.0) {
                return 0L;
            }
            long exponent = 1023L;
            double scaled = value;
            for (; scaled >= 2.0 && exponent < 2046L; exponent++) {
                scaled = scaled / 2.0;
            }
            for (; scaled < 1.0 && exponent > 1L; exponent--) {
                scaled = scaled * 2.0;
            }
            return ((exponent - 1L) << 52) + (long) (scaled * 4503599627370496.0);
        }
    }
}
