import java.util.Random;
import java.util.function.LongSupplier;

/** Random runs of the 512 calls of an office against the model: every answer and every exception is the same. */
public final class ModelTests {
    private static final int RUNS = 4000;
    private static final int CALLS = 512;
    private static final String[] ORDERS = {"w", "d", "x", "s", "a", "c", "p", "w", "d"};

    private final Random random;
    private final BuskPitches office = new BuskPitches();
    private final OfficeModel model = new OfficeModel();
    private final int wrongOf;
    private String pending = "";
    private String call = "";
    private LongSupplier due = null;
    private LongSupplier got = null;

    private ModelTests(long seed) {
        random = new Random(seed);
        // Some runs are nearly all right, some nearly all wrong.
        wrongOf = 4 << random.nextInt(6);
    }

    public static void main(String[] args) {
        int runs = args.length > 0 ? Integer.parseInt(args[0]) : RUNS;
        for (int run = 0; run < runs; run++) {
            new ModelTests(run).run(run);
        }
        Check.end("ModelTests");
    }

    private void run(int run) {
        boolean isSame = true;
        for (int number = 0; number < CALLS && isSame; number++) {
            choose();
            String expected = outcome(due);
            String answered = outcome(got);
            isSame = expected.equals(answered);
            if (!isSame) {
                Check.sameText("run " + run + " call " + number + " " + call, expected, answered);
            }
        }
        Check.isTrue("run " + run, isSame);
    }

    private static String outcome(LongSupplier supplier) {
        try {
            return Long.toString(supplier.getAsLong());
        } catch (RuntimeException e) {
            return e.getClass().getName();
        }
    }

    private int number(int least, int most) {
        if (random.nextInt(wrongOf) > 0) {
            return least + random.nextInt(most - least + 1);
        }
        int[] wild = {least - 1, most + 1, -1, Integer.MIN_VALUE, Integer.MAX_VALUE, least, most, random.nextInt()};
        return wild[random.nextInt(wild.length)];
    }

    private int pitch() {
        return random.nextBoolean() ? number(0, 2) : number(0, 7);
    }

    private int buskerNumber() {
        int count = (int) model.account(2);
        return number(0, count == 0 ? 0 : count - 1);
    }

    private void take(String name, LongSupplier expected, LongSupplier answered) {
        call = name;
        due = expected;
        got = answered;
    }

    private void choose() {
        if (!pending.isEmpty()) {
            char c = pending.charAt(0);
            pending = pending.substring(1);
            take("append(" + c + ")", () -> model.append(c), () -> office.append(c));
            return;
        }
        int chosen = random.nextInt(56);
        if (chosen < 24) {
            chooseChange(chosen);
        } else if (chosen < 52) {
            chooseLookUp(chosen - 24);
        } else {
            chooseRare(chosen);
        }
    }

    private void chooseChange(int chosen) {
        int pitch = pitch();
        int busker = buskerNumber();
        switch (chosen) {
            case 0: { int a = number(0, 50); take("crowd(" + a + ")", () -> model.crowd(a), () -> office.crowd(a)); break; }
            case 1: { int a = number(40, 120);
                take("limit(" + pitch + ", " + a + ")", () -> model.limit(pitch, a), () -> office.limit(pitch, a)); break; }
            case 2: { int a = number(0, 1); int b = number(1, 9);
                take("busker(" + a + ", " + b + ")", () -> model.busker(a, b), () -> office.busker(a, b)); break; }
            case 3: case 4: case 5: case 6: take("join(" + busker + ")", () -> model.join(busker), () -> office.join(busker)); break;
            case 7: case 8: case 9: { int a = number(0, 99);
                take("draw(" + pitch + ", " + a + ")", () -> model.draw(pitch, a), () -> office.draw(pitch, a)); break; }
            case 10: take("leave(" + pitch + ")", () -> model.leave(pitch), () -> office.leave(pitch)); break;
            case 11: { int a = pitch();
                take("swap(" + pitch + ", " + a + ")", () -> model.swap(pitch, a), () -> office.swap(pitch, a)); break; }
            case 12: take("strings(" + busker + ")", () -> model.strings(busker), () -> office.strings(busker)); break;
            case 13: take("answer(" + pitch + ")", () -> model.answer(pitch), () -> office.answer(pitch)); break;
            case 14: case 15: { int a = random.nextInt(4) > 0 && busker >= 0 && busker < model.account(2)
                    ? (int) model.buskerOf(busker, 0) : number(0, 1);
                take("rack(" + busker + ", " + a + ")", () -> model.rack(busker, a), () -> office.rack(busker, a)); break; }
            case 16: take("unrack(" + busker + ")", () -> model.unrack(busker), () -> office.unrack(busker)); break;
            case 17: case 18: case 19: { int a = number(1, 3); take("pass(" + a + ")", () -> model.pass(a), () -> office.pass(a)); break; }
            case 20: { int a = number(1, 60); take("pass(" + a + ")", () -> model.pass(a), () -> office.pass(a)); break; }
            case 21: pending = text(); choose(); break;
            default: take("read()", model::read, office::read); break;
        }
    }

    private void chooseLookUp(int chosen) {
        int pitch = pitch();
        int busker = buskerNumber();
        switch (chosen) {
            case 0: { int a = number(0, 6);
                take("buskerOf(" + busker + ", " + a + ")", () -> model.buskerOf(busker, a), () -> office.buskerOf(busker, a)); break; }
            case 1: take("hat(" + busker + ")", () -> model.hat(busker), () -> Float.floatToIntBits(office.hat(busker))); break;
            case 2: take("wear(" + busker + ")", () -> model.wear(busker), () -> office.wear(busker)); break;
            case 3: { int a = number(0, 2);
                take("pitchOf(" + pitch + ", " + a + ")", () -> model.pitchOf(pitch, a), () -> office.pitchOf(pitch, a)); break; }
            case 4: { int a = number(0, 3); take("waiting(" + a + ")", () -> model.waiting(a), () -> office.waiting(a)); break; }
            case 5: take("noise(" + pitch + ")", () -> model.noise(pitch), () -> office.noise(pitch)); break;
            case 6: take("noiseAgain(" + pitch + ")", () -> model.noise(pitch), () -> office.noiseAgain(pitch)); break;
            case 7: take("below(" + pitch + ")", () -> model.below(pitch), () -> Float.floatToIntBits(office.below(pitch))); break;
            case 8: take("noiseWith(" + pitch + ", " + busker + ")", () -> model.noiseWith(pitch, busker),
                () -> office.noiseWith(pitch, busker)); break;
            case 9: case 10: take("quietest(" + busker + ")", () -> model.quietest(busker), () -> office.quietest(busker)); break;
            case 11: take("loudest()", model::loudest, office::loudest); break;
            case 12: take("snapsIn(" + busker + ")", () -> model.snapsIn(busker), () -> office.snapsIn(busker)); break;
            case 13: { int a = number(0, 1); int b = number(0, 2);
                take("onRack(" + a + ", " + b + ")", () -> model.onRack(a, b), () -> office.onRack(a, b)); break; }
            case 14: case 15: { int a = number(0, 7); take("ranked(" + a + ")", () -> model.ranked(a), () -> office.ranked(a)); break; }
            case 16: case 17: { int a = number(0, 60);
                take("hatIn(" + busker + ", " + a + ")", () -> model.hatIn(busker, a), () -> office.hatIn(busker, a)); break; }
            case 18: { int a = number(0, 60); take("playingIn(" + a + ")", () -> model.playingIn(a), () -> office.playingIn(a)); break; }
            case 19: take("sign(" + pitch + ")", () -> model.sign(pitch), () -> office.sign(pitch)); break;
            case 20: take("errorPosition()", model::errorPosition, office::errorPosition); break;
            case 21: take("refusal(false)", () -> model.refusal(false), () -> office.refusal(false)); break;
            case 22: take("refusal(true)", () -> model.refusal(true), () -> office.refusal(true)); break;
            case 23: take("meanBits()", model::meanBits, office::meanBits); break;
            case 24: take("isWell()", () -> 1, () -> office.isWell() ? 1 : 0); break;
            default: { int a = number(0, 14); take("account(" + a + ")", () -> model.account(a), () -> office.account(a)); break; }
        }
    }

    private void chooseRare(int chosen) {
        // Restoring is rare, as it forgets what can be undone.
        if (chosen == 52) {
            take("save()", model::save, office::save);
        } else if (chosen == 53 && random.nextInt(3) == 0) {
            take("restore()", model::restore, office::restore);
        } else {
            take("undo()", model::undo, office::undo);
        }
    }

    /** One order or a few, mostly without an error. */
    private String text() {
        StringBuilder text = new StringBuilder();
        int orders = 1 + random.nextInt(random.nextInt(10) == 0 ? 14 : 3);
        for (int k = 0; k < orders; k++) {
            text.append(k == 0 ? "" : ";").append(order());
        }
        if (random.nextInt(6) == 0) {
            String signs = "wdxsacp#;0123456789 ";
            char sign = signs.charAt(random.nextInt(signs.length()));
            text.setCharAt(random.nextInt(text.length()), sign);
        }
        if (random.nextInt(12) == 0) {
            text.setLength(random.nextInt(text.length()));
        }
        return text.toString();
    }

    private String order() {
        String letter = ORDERS[random.nextInt(ORDERS.length)];
        String digit = Integer.toString(random.nextInt(random.nextInt(8) == 0 ? 10 : 4));
        String number = Integer.toString(random.nextInt(random.nextInt(4) == 0 ? 100 : 50));
        switch (letter) {
            case "d": return "d" + digit + "#" + number;
            case "c": return "c" + number;
            case "p": return "p" + (random.nextBoolean() ? "1" : "0" + digit);
            default: return letter + digit;
        }
    }
}
