import java.util.ArrayDeque;
import java.util.ArrayList;
import java.util.Arrays;
import java.util.Deque;
import java.util.List;
import java.util.NoSuchElementException;
import java.util.regex.Matcher;
import java.util.regex.Pattern;

/** The document once more, by lists, copies and patterns, so that both can be compared. */
final class OfficeModel {
    private static final Pattern TEXT = Pattern.compile(order() + "(;" + order() + ")*");

    private static final class Busker {
        int kind;
        int loudness;
        int hours;
        int newStrings;
        float hat;
        float wear;

        Busker copy() {
            Busker b = new Busker();
            b.kind = kind;
            b.loudness = loudness;
            b.hours = hours;
            b.newStrings = newStrings;
            b.hat = hat;
            b.wear = wear;
            return b;
        }
    }

    private static final class World {
        int hour = 0;
        int crowd = 10;
        int answered = 0;
        int allComplaints = 0;
        int bought = 0;
        int draws = 0;
        float[] limit = new float[8];
        int[] complaints = new int[8];
        int[] soFar = new int[8];
        int[] on = new int[8];
        int[][] racks = new int[2][3];
        List<Busker> buskers = new ArrayList<>();
        List<Integer> line = new ArrayList<>();

        World() {
            Arrays.fill(limit, 80.0f);
            Arrays.fill(on, -1);
            Arrays.fill(racks[0], -1);
            Arrays.fill(racks[1], -1);
        }

        World copy() {
            World w = new World();
            w.hour = hour;
            w.crowd = crowd;
            w.answered = answered;
            w.allComplaints = allComplaints;
            w.bought = bought;
            w.draws = draws;
            w.limit = limit.clone();
            w.complaints = complaints.clone();
            w.soFar = soFar.clone();
            w.on = on.clone();
            w.racks = new int[][] {racks[0].clone(), racks[1].clone()};
            for (Busker b : buskers) {
                w.buskers.add(b.copy());
            }
            w.line.addAll(line);
            return w;
        }
    }

    private World w = new World();
    private World saved = null;
    private final Deque<World> undos = new ArrayDeque<>();
    private String input = "";
    private int error = -1;
    private int reason = 0;
    private int detail = 0;

    private static String order() {
        return "(w\\d|d\\d#\\d{1,2}|x\\d|s\\d|a\\d|c\\d{1,2}|p\\d{1,2})".replace("\\d", "[0-9]");
    }

    private void refuse(int why, int more) {
        reason = why;
        detail = more;
        throw new UnsupportedOperationException();
    }

    private Busker at(int busker) {
        if (busker < 0 || busker >= w.buskers.size()) {
            throw new IndexOutOfBoundsException();
        }
        return w.buskers.get(busker);
    }

    private static void pitchMustBe(int pitch) {
        if (pitch < 0 || pitch > 7) {
            throw new IndexOutOfBoundsException();
        }
    }

    private static void range(int number, int least, int most) {
        if (number < least || number > most) {
            throw new IllegalArgumentException();
        }
    }

    private void remember(World before) {
        undos.addLast(before);
        if (undos.size() > 8) {
            undos.removeFirst();
        }
    }

    private static int find(int[] row, int busker) {
        for (int k = 0; k < row.length; k++) {
            if (row[k] == busker) {
                return k;
            }
        }
        return -1;
    }

    long crowd(int crowd) {
        range(crowd, 0, 50);
        remember(w.copy());
        int before = w.crowd;
        w.crowd = crowd;
        return before;
    }

    long limit(int pitch, int limit) {
        pitchMustBe(pitch);
        range(limit, 40, 120);
        remember(w.copy());
        float before = w.limit[pitch];
        w.limit[pitch] = limit;
        return Float.floatToIntBits(before);
    }

    long busker(int kind, int loudness) {
        range(kind, 0, 1);
        range(loudness, 1, 9);
        if (w.buskers.size() == 8) {
            refuse(1, 8);
        }
        remember(w.copy());
        Busker b = new Busker();
        b.kind = kind;
        b.loudness = loudness;
        w.buskers.add(b);
        return w.buskers.size() - 1;
    }

    long buskerOf(int busker, int what) {
        Busker b = at(busker);
        range(what, 0, 6);
        int[] all = {b.kind, b.loudness, find(w.on, busker), w.line.indexOf(busker),
            find(w.racks[b.kind], busker), b.hours, b.newStrings};
        return all[what];
    }

    long hat(int busker) {
        return Float.floatToIntBits(at(busker).hat);
    }

    long wear(int busker) {
        return Float.floatToIntBits(at(busker).wear);
    }

    long pitchOf(int pitch, int what) {
        pitchMustBe(pitch);
        range(what, 0, 2);
        return what == 0 ? w.on[pitch] : what == 1 ? w.complaints[pitch] : w.soFar[pitch];
    }

    long join(int busker) {
        Busker b = at(busker);
        if (w.line.contains(busker)) {
            refuse(2, w.line.indexOf(busker));
        }
        if (find(w.on, busker) >= 0) {
            refuse(3, find(w.on, busker));
        }
        if (b.wear >= 1.0f) {
            refuse(4, busker);
        }
        remember(w.copy());
        w.line.add(busker);
        return w.line.size();
    }

    long draw(int pitch, int number) {
        pitchMustBe(pitch);
        range(number, 0, 99);
        if (w.on[pitch] >= 0) {
            refuse(5, w.on[pitch]);
        }
        if (w.line.isEmpty()) {
            refuse(6, 0);
        }
        remember(w.copy());
        w.on[pitch] = w.line.remove(number % w.line.size());
        w.draws++;
        return w.on[pitch];
    }

    long waiting(int place) {
        if (place < 0 || place >= w.line.size()) {
            throw new NoSuchElementException();
        }
        return w.line.get(place);
    }

    long leave(int pitch) {
        pitchMustBe(pitch);
        if (w.on[pitch] < 0) {
            refuse(7, pitch);
        }
        remember(w.copy());
        int gone = w.on[pitch];
        w.on[pitch] = -1;
        return gone;
    }

    long swap(int pitch, int other) {
        pitchMustBe(pitch);
        pitchMustBe(other);
        for (int k : new int[] {pitch, other}) {
            if (w.on[k] < 0) {
                refuse(7, k);
            }
        }
        remember(w.copy());
        int first = w.on[pitch];
        w.on[pitch] = w.on[other];
        w.on[other] = first;
        return w.on[pitch];
    }

    private static float own(Busker b) {
        return b == null ? 0.0f : b.kind == 1 ? 50.0f + 4.0f * b.loudness + 5.0f : 50.0f + 4.0f * b.loudness;
    }

    private Busker on(World world, int pitch) {
        return pitch < 0 || pitch > 7 || world.on[pitch] < 0 ? null : world.buskers.get(world.on[pitch]);
    }

    private float noiseIn(World world, int pitch, Busker there) {
        return own(there) + 0.25f * own(on(world, pitch - 1)) + 0.25f * own(on(world, pitch + 1));
    }

    private float noiseIn(World world, int pitch) {
        return noiseIn(world, pitch, on(world, pitch));
    }

    long noise(int pitch) {
        pitchMustBe(pitch);
        return Float.floatToIntBits(noiseIn(w, pitch));
    }

    long below(int pitch) {
        pitchMustBe(pitch);
        return Float.floatToIntBits(w.limit[pitch] - noiseIn(w, pitch));
    }

    long noiseWith(int pitch, int busker) {
        pitchMustBe(pitch);
        return Float.floatToIntBits(noiseIn(w, pitch, at(busker)));
    }

    long quietest(int busker) {
        Busker b = at(busker);
        List<Integer> open = new ArrayList<>();
        for (int k = 0; k < 8; k++) {
            if (w.on[k] < 0 && !(noiseIn(w, k, b) > w.limit[k])) {
                open.add(k);
            }
        }
        open.sort((k, l) -> Float.compare(noiseIn(w, k, b), noiseIn(w, l, b)));
        if (open.isEmpty()) {
            throw new NoSuchElementException();
        }
        return open.get(0);
    }

    long loudest() {
        List<Integer> all = new ArrayList<>(List.of(0, 1, 2, 3, 4, 5, 6, 7));
        all.sort((k, l) -> Float.compare(noiseIn(w, l), noiseIn(w, k)));
        return all.get(0);
    }

    long strings(int busker) {
        Busker b = at(busker);
        if (b.hat < 2.0f) {
            refuse(8, (int) Math.floor(b.hat));
        }
        remember(w.copy());
        b = at(busker);
        b.hat -= 2.0f;
        b.wear = 0.0f;
        b.newStrings++;
        w.bought++;
        return Float.floatToIntBits(b.hat);
    }

    long snapsIn(int busker) {
        Busker b = at(busker);
        if (b.kind == 1) {
            throw new NoSuchElementException();
        }
        int hours = 0;
        for (float wear = b.wear; wear < 1.0f; wear += 0.05f * b.loudness) {
            hours++;
        }
        return hours;
    }

    long answer(int pitch) {
        pitchMustBe(pitch);
        if (w.complaints[pitch] == 0) {
            refuse(9, pitch);
        }
        remember(w.copy());
        int count = w.complaints[pitch];
        w.answered += count;
        w.complaints[pitch] = 0;
        return count;
    }

    long rack(int busker, int rack) {
        Busker b = at(busker);
        if (rack != 0 && rack != 1) {
            throw new IndexOutOfBoundsException();
        }
        if (find(w.racks[b.kind], busker) >= 0) {
            refuse(10, find(w.racks[b.kind], busker));
        }
        if (find(w.racks[rack], -1) < 0) {
            refuse(11, rack);
        }
        if (b.kind != rack) {
            refuse(12, rack);
        }
        remember(w.copy());
        int place = find(w.racks[rack], -1);
        w.racks[rack][place] = busker;
        return place;
    }

    long unrack(int busker) {
        Busker b = at(busker);
        int place = find(w.racks[b.kind], busker);
        if (place < 0) {
            refuse(13, busker);
        }
        remember(w.copy());
        w.racks[b.kind][place] = -1;
        return place;
    }

    long onRack(int rack, int place) {
        if (rack < 0 || rack > 1 || place < 0 || place > 2) {
            throw new IndexOutOfBoundsException();
        }
        if (w.racks[rack][place] < 0) {
            throw new NoSuchElementException();
        }
        return w.racks[rack][place];
    }

    long ranked(int place) {
        if (place < 0 || place >= w.buskers.size()) {
            throw new NoSuchElementException();
        }
        List<Integer> order = new ArrayList<>();
        for (int k = 0; k < w.buskers.size(); k++) {
            order.add(k);
        }
        order.sort((k, l) -> Float.compare(w.buskers.get(l).hat, w.buskers.get(k).hat));
        return order.get(place);
    }

    private int hourIn(World world) {
        float[] noises = new float[8];
        for (int k = 0; k < 8; k++) {
            noises[k] = noiseIn(world, k);
        }
        int gone = 0;
        for (int k = 0; k < 8; k++) {
            Busker b = on(world, k);
            if (b == null) {
                continue;
            }
            boolean isAdded = false;
            if (noises[k] > world.limit[k]) {
                if (world.complaints[k] < 99) {
                    world.complaints[k]++;
                    world.soFar[k]++;
                    world.allComplaints++;
                    isAdded = true;
                }
            } else {
                float takings = 0.1f * world.crowd;
                takings = takings * b.loudness;
                takings = takings / (1.0f + world.complaints[k]);
                b.hat = b.hat + takings;
            }
            b.hours++;
            if (b.kind == 0) {
                b.wear += 0.05f * b.loudness;
            }
            if (b.wear >= 1.0f || world.complaints[k] >= 3 && isAdded) {
                world.on[k] = -1;
                gone++;
            }
        }
        world.hour++;
        return gone;
    }

    long pass(int hours) {
        range(hours, 1, 60);
        remember(w.copy());
        int gone = 0;
        for (int k = 0; k < hours; k++) {
            gone += hourIn(w);
        }
        return gone;
    }

    private World worldIn(int hours) {
        World world = w.copy();
        for (int k = 0; k < hours; k++) {
            hourIn(world);
        }
        return world;
    }

    long hatIn(int busker, int hours) {
        at(busker);
        range(hours, 0, 60);
        return Float.floatToIntBits(worldIn(hours).buskers.get(busker).hat);
    }

    private static int playing(World world) {
        return (int) Arrays.stream(world.on).filter(b -> b >= 0).count();
    }

    long playingIn(int hours) {
        range(hours, 0, 60);
        return playing(worldIn(hours));
    }

    long sign(int pitch) {
        pitchMustBe(pitch);
        Busker b = on(w, pitch);
        boolean isLoud = noiseIn(w, pitch) > w.limit[pitch];
        char sign = b == null ? '.' : b.kind == 0 ? 'f' : 'a';
        return !isLoud ? sign : b == null ? '!' : Character.toUpperCase(sign);
    }

    long append(char c) {
        if (input.length() == 60) {
            throw new IllegalStateException();
        }
        input += c;
        return input.length();
    }

    private static int errorIn(String text) {
        for (int k = 1; k <= text.length(); k++) {
            Matcher matcher = TEXT.matcher(text.substring(0, k));
            if (!matcher.matches() && !matcher.hitEnd()) {
                return k - 1;
            }
        }
        return TEXT.matcher(text).matches() ? -1 : text.length();
    }

    long read() {
        String text = input;
        input = "";
        error = errorIn(text);
        if (error >= 0) {
            throw new IllegalArgumentException();
        }
        World before = w.copy();
        List<World> undosBefore = new ArrayList<>(undos);
        boolean isDone = false;
        String[] orders = text.split(";");
        try {
            for (String order : orders) {
                carryOut(order);
            }
            isDone = true;
        } catch (IndexOutOfBoundsException e) {
            throw new IllegalArgumentException();
        } finally {
            undos.clear();
            undos.addAll(undosBefore);
            if (isDone) {
                remember(before);
            } else {
                w = before;
            }
        }
        return orders.length;
    }

    private void carryOut(String order) {
        int first = order.charAt(1) - '0';
        switch (order.charAt(0)) {
            case 'w': join(first); break;
            case 'd': draw(first, Integer.parseInt(order.substring(3))); break;
            case 'x': leave(first); break;
            case 's': strings(first); break;
            case 'a': answer(first); break;
            case 'c': crowd(Integer.parseInt(order.substring(1))); break;
            default: pass(Integer.parseInt(order.substring(1))); break;
        }
    }

    long errorPosition() {
        return error;
    }

    long refusal(boolean isDetail) {
        if (reason == 0) {
            throw new NoSuchElementException();
        }
        return isDetail ? detail : reason;
    }

    long account(int what) {
        range(what, 0, 14);
        int count = w.buskers.size();
        int snapped = (int) w.buskers.stream().filter(b -> b.wear >= 1.0f).count();
        int cases = (int) (Arrays.stream(w.racks[0]).filter(b -> b >= 0).count()
            + Arrays.stream(w.racks[1]).filter(b -> b >= 0).count());
        int[] all = {w.hour, w.crowd, count, count - w.line.size() - playing(w), w.line.size(), playing(w), snapped,
            Arrays.stream(w.complaints).sum(), w.answered, w.allComplaints, cases, w.bought, w.draws,
            input.length(), undos.size()};
        return all[what];
    }

    long meanBits() {
        if (w.buskers.isEmpty()) {
            throw new ArithmeticException();
        }
        double sum = 0.0;
        for (Busker b : w.buskers) {
            sum += b.hat;
        }
        return Double.doubleToLongBits(sum / w.buskers.size());
    }

    long undo() {
        if (undos.isEmpty()) {
            throw new IllegalStateException();
        }
        w = undos.removeLast();
        return undos.size();
    }

    long save() {
        saved = w.copy();
        return w.buskers.size();
    }

    long restore() {
        if (saved == null) {
            throw new IllegalStateException();
        }
        w = saved.copy();
        undos.clear();
        return w.buskers.size();
    }
}
