import java.util.function.Supplier;

/** Offices that are the same each time that they are made. */
final class Offices {
    private Offices() {
    }

    /** Busker k is of the kind k % 2 and has the loudness k + 1; all are at home. */
    static BuskPitches of(int buskers) {
        BuskPitches x = new BuskPitches();
        for (int k = 0; k < buskers; k++) {
            x.busker(k % 2, k + 1);
        }
        return x;
    }

    static BuskPitches full() {
        return of(8);
    }

    /** A single busker, at home. */
    static BuskPitches with(int kind, int loudness) {
        BuskPitches x = new BuskPitches();
        x.busker(kind, loudness);
        return x;
    }

    /** A single busker, who plays on a pitch with the limit. */
    static BuskPitches playing(int kind, int loudness, int pitch, int limit) {
        BuskPitches x = with(kind, loudness);
        x.limit(pitch, limit);
        play(x, 0, pitch);
        return x;
    }

    /** The busker, at home and with nobody else in the line, plays on the pitch then. */
    static void play(BuskPitches x, int busker, int pitch) {
        x.join(busker);
        x.draw(pitch, 0);
    }

    /**
     * Something of everything: busker 1 plays on pitch 2 and 5 on pitch 5; 3 and then 0 wait; 6 has snapped strings,
     * 7 was sent home from pitch 7, about which there are 3 complaints; the fiddle rack holds 0, 2 and 4, the
     * accordion rack 1; 8 changes can be undone, and there is a snapshot.
     */
    static BuskPitches busy() {
        BuskPitches x = full();
        x.limit(0, 120);
        play(x, 6, 0);
        play(x, 7, 7);
        x.pass(3);
        x.limit(5, 60);
        play(x, 5, 5);
        play(x, 1, 2);
        x.pass(1);
        x.answer(5);
        x.limit(5, 80);
        x.strings(1);
        x.save();
        x.rack(0, 0);
        x.rack(2, 0);
        x.rack(4, 0);
        x.rack(1, 1);
        x.crowd(23);
        x.join(3);
        x.pass(2);
        x.join(0);
        return x;
    }

    /** The same with a reason of a refusal and with an error position. */
    static BuskPitches busyWithErrors() {
        BuskPitches x = busy();
        Check.thrown("leave of an empty pitch", UnsupportedOperationException.class, () -> x.leave(4));
        Check.thrown("a text without an end", IllegalArgumentException.class, () -> read(x, "c5;"));
        return x;
    }

    static void write(BuskPitches x, String text) {
        for (char c : text.toCharArray()) {
            x.append(c);
        }
    }

    static int read(BuskPitches x, String text) {
        write(x, text);
        return x.read();
    }

    /** As the office, with the text in the input. */
    static Supplier<BuskPitches> writing(Supplier<BuskPitches> office, String text) {
        return () -> {
            BuskPitches x = office.get();
            write(x, text);
            return x;
        };
    }
}
