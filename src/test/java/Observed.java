import java.util.NoSuchElementException;

/** All that can be looked up in an office and that changes can change, as one text. */
final class Observed {
    private static final int INPUT = 13;
    private static final int UNDOS = 14;

    private Observed() {
    }

    static String of(BuskPitches x) {
        StringBuilder text = new StringBuilder();
        for (int what = 0; what <= 12; what++) {
            text.append(x.account(what)).append(' ');
        }
        for (int pitch = 0; pitch < 8; pitch++) {
            addPitch(text, x, pitch);
        }
        int buskers = x.account(2);
        for (int busker = 0; busker < buskers; busker++) {
            addBusker(text, x, busker);
        }
        addLineAndRacks(text, x);
        return text.toString();
    }

    /** The same with how many changes can be undone, and with what is in the input. */
    static String withAllCounts(BuskPitches x) {
        return of(x) + " input " + x.account(INPUT) + " undos " + x.account(UNDOS);
    }

    private static void addPitch(StringBuilder text, BuskPitches x, int pitch) {
        text.append("| pitch ").append(pitch).append(' ');
        for (int what = 0; what <= 2; what++) {
            text.append(x.pitchOf(pitch, what)).append(' ');
        }
        text.append(x.noise(pitch)).append(' ').append(Float.floatToIntBits(x.below(pitch))).append(' ');
        text.append(x.sign(pitch));
    }

    private static void addBusker(StringBuilder text, BuskPitches x, int busker) {
        text.append("| busker ").append(busker).append(' ');
        for (int what = 0; what <= 6; what++) {
            text.append(x.buskerOf(busker, what)).append(' ');
        }
        text.append(Float.floatToIntBits(x.hat(busker))).append(' ').append(x.wear(busker));
    }

    private static void addLineAndRacks(StringBuilder text, BuskPitches x) {
        text.append("| line ");
        int waiting = x.account(4);
        for (int place = 0; place < waiting; place++) {
            text.append(x.waiting(place)).append(' ');
        }
        for (int rack = 0; rack < 2; rack++) {
            text.append("| rack ");
            for (int place = 0; place < 3; place++) {
                text.append(ownerAt(x, rack, place)).append(' ');
            }
        }
    }

    private static int ownerAt(BuskPitches x, int rack, int place) {
        try {
            return x.onRack(rack, place);
        } catch (NoSuchElementException e) {
            return -1;
        }
    }
}
