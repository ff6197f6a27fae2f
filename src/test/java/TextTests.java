import java.util.function.Supplier;

/** A test for each sentence of "Terms" on texts. */
public final class TextTests extends OfficeTest {
    private static final String LETTERS = "wdxsacp";
    private static final String DIGITS = "0123456789";

    public static void main(String[] args) {
        runAll(TextTests.class);
    }

    @Says("The input has at most 60 characters.")
    static void atMost60Characters() {
        BuskPitches x = new BuskPitches();
        Check.same("none at first", 0, x.account(13));
        for (int k = 1; k <= 60; k++) {
            Check.same("characters", k, x.append('p'));
        }
        Check.same("sixty", 60, x.account(13));
        String text = "c1;".repeat(19) + "c42";
        Supplier<BuskPitches> full = Offices.writing(Offices::busyWithErrors, text);
        thrown("a 61st", full, STATE, y -> y.append(';'));
        BuskPitches y = full.get();
        Check.same("all sixty are read", 20, y.read());
        Check.same("to the last one", 42, y.account(1));
        Check.same("and there is room again", 1, y.append('w'));
    }

    @Says("A text consists of orders with a semicolon between two of them:")
    static void ordersWithSemicolons() {
        Check.same("one order", 1, Offices.read(Offices.busy(), "c1"));
        Check.same("two orders", 2, Offices.read(Offices.busy(), "c1;c2"));
        textWrong("", Offices::busy, 0);
        textWrong(";", Offices::busy, 0);
        textWrong(";c1", Offices::busy, 0);
        textWrong("c1;", Offices::busy, 3);
        textWrong("c1;;c2", Offices::busy, 3);
        textWrong("c1c2", Offices::busy, 2);
        textWrong("c1,c2", Offices::busy, 2);
        textWrong("c1; c2", Offices::busy, 3);
    }

    @Says("\"w\" and a busker lets the busker wait;")
    static void orderW() {
        BuskPitches x = Offices.busy();
        Check.same("one order", 1, Offices.read(x, "w2"));
        Check.same("waits at the end", 2, x.waiting(2));
        Check.same("the last busker", 1, Offices.read(x, "w7"));
        textThrown("w8", Offices::busy);
        textThrown("w9", Offices::busy);
        textThrown("w0", BuskPitches::new);
        textRefused("w6", Offices::busy, 4, 6);
    }

    @Says("\"d\", a pitch, \"#\" and a number draws a busker for it;")
    static void orderD() {
        BuskPitches x = Offices.busy();
        Check.same("one order", 1, Offices.read(x, "d7#99"));
        Check.same("99 of two", 0, x.pitchOf(7, 0));
        Check.same("one order again", 1, Offices.read(x, "d0#0"));
        Check.same("the one left", 3, x.pitchOf(0, 0));
        Check.same("draws", 6, x.account(12));
        textThrown("d8#0", Offices::busy);
        textThrown("d9#99", Offices::busy);
        textRefused("d5#0", Offices::busy, 5, 5);
    }

    @Says("\"x\" and a pitch sends its busker home;")
    static void orderX() {
        BuskPitches x = Offices.busy();
        Check.same("two orders", 2, Offices.read(x, "x5;x2"));
        Check.same("none plays", 0, x.account(5));
        Check.same("the one is at home", -1, x.buskerOf(1, 2));
        Check.same("the other one, too", -1, x.buskerOf(5, 2));
        Check.same("all but those who wait", 6, x.account(3));
        textThrown("x8", Offices::busy);
        textRefused("x7", Offices::busy, 7, 7);
    }

    @Says("\"s\" and a busker gets new strings;")
    static void orderS() {
        BuskPitches x = Offices.busy();
        float hat = x.hat(6);
        Check.same("two orders", 2, Offices.read(x, "s6;s6"));
        Check.same("no wear", 0, x.wear(6));
        Check.same("twice the price", bits(hat - 2.0f - 2.0f), bits(x.hat(6)));
        Check.same("new strings", 2, x.buskerOf(6, 6));
        textThrown("s8", Offices::busy);
        textRefused("s7", Offices::busy, 8, 0);
    }

    @Says("\"a\" and a pitch answers its complaints;")
    static void orderA() {
        BuskPitches x = Offices.busy();
        Check.same("one order", 1, Offices.read(x, "a7"));
        Check.same("none any more", 0, x.pitchOf(7, 1));
        Check.same("answered", 4, x.account(8));
        textThrown("a8", Offices::busy);
        textRefused("a5", Offices::busy, 9, 5);
    }

    @Says("\"c\" and a number sets the crowd;")
    static void orderC() {
        for (int crowd = 0; crowd <= 50; crowd++) {
            BuskPitches x = new BuskPitches();
            Check.same("one order", 1, Offices.read(x, "c" + crowd));
            Check.same("the crowd", crowd, x.account(1));
        }
        textThrown("c51", Offices::busy);
        textThrown("c99", Offices::busy);
    }

    @Says("\"p\" and a number lets hours go by.")
    static void orderP() {
        for (int hours = 1; hours <= 60; hours++) {
            BuskPitches x = new BuskPitches();
            Check.same("one order", 1, Offices.read(x, "p" + hours));
            Check.same("the hour", hours, x.account(0));
        }
        textThrown("p0", Offices::busy);
        textThrown("p00", Offices::busy);
        textThrown("p61", Offices::busy);
        textThrown("p99", Offices::busy);
    }

    @Says("Numbers have one or two digits, buskers and pitches one.")
    static void oneOrTwoDigits() {
        BuskPitches x = new BuskPitches();
        Check.same("orders", 4, Offices.read(x, "c7;p1;p09;c00"));
        Check.same("hours", 10, x.account(0));
        Check.same("crowd", 0, x.account(1));
        textWrong("c", Offices::busy, 1);
        textWrong("c007", Offices::busy, 3);
        textWrong("p", Offices::busy, 1);
        textWrong("p001", Offices::busy, 3);
        textWrong("d4#", Offices::busy, 3);
        textWrong("d4#000", Offices::busy, 5);
        textWrong("d#0", Offices::busy, 1);
        textWrong("d04#0", Offices::busy, 2);
        for (char letter : new char[] {'w', 'x', 's', 'a'}) {
            textWrong("" + letter, Offices::busy, 1);
            textWrong(letter + "02", Offices::busy, 2);
        }
        BuskPitches y = Offices.busy();
        Check.same("one digit of a draw", 1, Offices.read(y, "d4#1"));
        Check.same("1 of two", 0, y.pitchOf(4, 0));
        BuskPitches z = Offices.busy();
        Check.same("two digits of a draw", 1, Offices.read(z, "d4#10"));
        Check.same("10 of two", 3, z.pitchOf(4, 0));
    }

    @Says("The error position of a text is the offset of the first character that cannot continue such a text, or the"
        + " length of the text if it ends too early.")
    static void errorPositions() {
        checkNext("", LETTERS);
        for (String first : new String[] {"", "c5;", "d0#11;", "w0;p60;"}) {
            for (char letter : new char[] {'w', 'x', 's', 'a'}) {
                checkNext(first + letter, DIGITS);
                checkNext(first + letter + "9", ";");
            }
            for (char letter : new char[] {'c', 'p'}) {
                checkNext(first + letter, DIGITS);
                checkNext(first + letter + "0", DIGITS + ";");
                checkNext(first + letter + "99", ";");
            }
            checkNext(first + "d", DIGITS);
            checkNext(first + "d9", "#");
            checkNext(first + "d9#", DIGITS);
            checkNext(first + "d9#0", DIGITS + ";");
            checkNext(first + "d9#99", ";");
            checkNext(first + "x0;", LETTERS);
        }
    }

    /** Behind the beginning only the signs can stand, and a text can only end behind a digit that is no pitch of a draw. */
    private static void checkNext(String beginning, String signs) {
        for (int sign = 0; sign <= 256; sign++) {
            String text = beginning + (sign == 256 ? '\uffff' : (char) sign);
            boolean isContinued = signs.indexOf(text.charAt(beginning.length())) >= 0;
            boolean isWhole = sign >= '0' && sign <= '9' && !beginning.endsWith("d");
            int due = !isContinued ? beginning.length() : isWhole ? -1 : text.length();
            BuskPitches x = new BuskPitches();
            Twins.attempt(() -> Offices.read(x, text));
            Check.same("the error position of " + text, due, x.errorPosition());
        }
    }

    @Says("The error position of a text is the offset of the first character that cannot continue such a text, or the"
        + " length of the text if it ends too early.")
    static void errorPositionsAtTheEnd() {
        String orders = "c1;".repeat(19);
        textWrong(orders + "c1;", Offices::busy, 60);
        textWrong(orders + "d1#", Offices::busy, 60);
        textWrong(orders + "c1x", Offices::busy, 59);
        textWrong(orders, Offices::busy, 57);
        textWrong("x" + orders, Offices::busy, 1);
        Check.same("sixty without an error", 20, Offices.read(Offices.busy(), orders + "c11"));
    }

    @Says("A text is carried out if each order can be, one after the other;")
    static void oneAfterTheOther() {
        BuskPitches x = Offices.with(ACCORDION, 9);
        Check.same("all", 11, Offices.read(x, "w0;d3#7;p1;c20;p1;a3;x3;w0;d0#0;p2;x0"));
        Check.same("hours", 4, x.account(0));
        Check.same("draws", 2, x.account(12));
        Check.same("answered", 2, x.account(8));
        Check.same("not answered", 2, x.account(7));
        Check.same("at home", 1, x.account(3));
        textRefused("d3#7;w0", () -> Offices.with(ACCORDION, 9), 6, 0);
        textRefused("w0;x3;d3#7", () -> Offices.with(ACCORDION, 9), 7, 3);
        BuskPitches snapped = Offices.busy();
        Check.same("new strings ahead", 2, Offices.read(snapped, "s6;w6"));
        textRefused("w6;s6", Offices::busy, 4, 6);
    }

    @Says("else nothing of it is,")
    static void allOrNothing() {
        String orders = "c50;p60;w4;d3#2;x2;a7;s6";
        Check.same("the orders can be", 7, Offices.read(Offices.busy(), orders));
        textRefused(orders + ";x0", Offices::busy, 7, 0);
        textThrown(orders + ";w8", Offices::busy);
        textThrown(orders + ";c51", Offices::busy);
        textWrong(orders + ";c", Offices::busy, orders.length() + 2);
    }

    @Says("and the first order that cannot be decides what is thrown.")
    static void firstOrderDecides() {
        textRefused("x0;w8", Offices::busy, 7, 0);
        textThrown("w8;x0", Offices::busy);
        textRefused("x0;w6", Offices::busy, 7, 0);
        textRefused("w6;x0", Offices::busy, 4, 6);
        textRefused("c1;x0;x1;c60", Offices::busy, 7, 0);
        textThrown("c1;c60;x1", Offices::busyWithErrors);
    }
}
