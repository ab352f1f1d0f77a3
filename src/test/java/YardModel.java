import java.util.ArrayDeque;
import java.util.ArrayList;
import java.util.HashMap;
import java.util.List;
import java.util.Map;

/** The document once more, written another way: every answer is a text, every exception "throws.X". */
final class YardModel {
    private static final String IAE = "throws.IllegalArgumentException";
    private static final String ISE = "throws.IllegalStateException";
    private static final String NSE = "throws.NoSuchElementException";
    private static final String IOB = "throws.IndexOutOfBoundsException";
    private static final String UOE = "throws.UnsupportedOperationException";
    private static final String AE = "throws.ArithmeticException";

    private static final class Trailer {
        int hour;
        char kind;
        int work;
        char state = 'b';
        int arrived;
        int docked;
        int door = -1;
    }

    private final List<Integer> capacities = new ArrayList<>();
    private final List<Boolean> powers = new ArrayList<>();
    /** A lane's trailers as characters, the one nearest to the exit last. */
    private List<String> lanes = new ArrayList<>();
    private final List<Character> doors = new ArrayList<>();
    private final List<Trailer> trailers = new ArrayList<>();
    private int tolerance = 1;
    private int[] rates = {2, 30, 4, 50};
    private int now;
    private int moves;
    private long charged;

    private static String text(Object answer) {
        return String.valueOf(answer);
    }

    private boolean isNoTrailer(int t) {
        return t < 0 || t >= trailers.size();
    }

    private static String sign(int t) {
        return String.valueOf((char) ('A' + t));
    }

    private int laneWith(List<String> in, int t) {
        for (int i = 0; i < in.size(); i++) {
            if (in.get(i).contains(sign(t))) {
                return i;
            }
        }
        return -1;
    }

    private boolean fits(List<String> in, int t, int lane) {
        return in.get(lane).length() < capacities.get(lane)
            && (trailers.get(t).kind == 'd' || powers.get(lane));
    }

    private int doorUser(int door) {
        for (int t = 0; t < trailers.size(); t++) {
            if (trailers.get(t).state == 'w' && trailers.get(t).door == door) {
                return t;
            }
        }
        return -1;
    }

    private boolean canDock(int t, int door) {
        char kind = doors.get(door);
        return doorUser(door) < 0 && (kind == 'b' || kind == trailers.get(t).kind);
    }

    String addLane(int capacity, boolean power) {
        if (capacity < 1 || capacity > 3) {
            return IAE;
        }
        if (lanes.size() == 4) {
            return ISE;
        }
        capacities.add(capacity);
        powers.add(power);
        lanes.add("");
        return text(lanes.size() - 1);
    }

    String addDoor(char kind) {
        if ("dcb".indexOf(kind) < 0) {
            return IAE;
        }
        if (doors.size() == 4) {
            return ISE;
        }
        doors.add(kind);
        return text(doors.size() - 1);
    }

    String setTolerance(int hours) {
        if (hours < 0 || hours > 9) {
            return IAE;
        }
        int before = tolerance;
        tolerance = hours;
        return text(before);
    }

    String setCharges(int free, int first, int hours, int second) {
        if (free < 0 || free > 24 || first < 0 || first > 99 || hours < 0 || hours > 24 || second < 0
                || second > 99) {
            return IAE;
        }
        int before = rates[0];
        rates = new int[] {free, first, hours, second};
        return text(before);
    }

    String book(int hour, char kind, int work) {
        if (hour < now || hour > 999 || work < 1 || work > 9 || "dc".indexOf(kind) < 0) {
            return IAE;
        }
        if (trailers.size() == 40) {
            return ISE;
        }
        Trailer trailer = new Trailer();
        trailer.hour = hour;
        trailer.kind = kind;
        trailer.work = work;
        trailers.add(trailer);
        return text(trailers.size() - 1);
    }

    String arrive(int t, int lane) {
        if (isNoTrailer(t)) {
            return NSE;
        }
        if (lane < 0 || lane >= lanes.size()) {
            return IOB;
        }
        if (trailers.get(t).state != 'b' || String.join("", lanes).length() == 6) {
            return ISE;
        }
        if (!fits(lanes, t, lane)) {
            return UOE;
        }
        lanes.set(lane, lanes.get(lane) + sign(t));
        trailers.get(t).state = 'y';
        trailers.get(t).arrived = now;
        return punctuality(t);
    }

    String state(int t) {
        return isNoTrailer(t) ? NSE : text(trailers.get(t).state);
    }

    String punctuality(int t) {
        if (isNoTrailer(t)) {
            return NSE;
        }
        Trailer trailer = trailers.get(t);
        if (trailer.state == 'b' || trailer.state == 'n') {
            return ISE;
        }
        if (trailer.arrived < trailer.hour - tolerance) {
            return "e";
        }
        return trailer.arrived > trailer.hour + tolerance ? "l" : "o";
    }

    String nextBooked() {
        for (int hour = 0; hour <= 999; hour++) {
            for (int t = 0; t < trailers.size(); t++) {
                if (trailers.get(t).state == 'b' && trailers.get(t).hour == hour) {
                    return text(t);
                }
            }
        }
        return NSE;
    }

    String shift(int t, int lane) {
        if (isNoTrailer(t)) {
            return NSE;
        }
        if (lane < 0 || lane >= lanes.size()) {
            return IOB;
        }
        int home = laneWith(lanes, t);
        if (home < 0 || !lanes.get(home).endsWith(sign(t))) {
            return ISE;
        }
        if (home == lane || !fits(lanes, t, lane)) {
            return UOE;
        }
        lanes = moved(lanes, home, lane);
        moves++;
        return text(moves);
    }

    private static List<String> moved(List<String> in, int from, int to) {
        List<String> result = new ArrayList<>(in);
        String source = in.get(from);
        result.set(from, source.substring(0, source.length() - 1));
        result.set(to, in.get(to) + source.substring(source.length() - 1));
        return result;
    }

    String dock(int t, int door) {
        if (isNoTrailer(t)) {
            return NSE;
        }
        if (door < 0 || door >= doors.size()) {
            return IOB;
        }
        int home = laneWith(lanes, t);
        if (home < 0 || !lanes.get(home).endsWith(sign(t))) {
            return ISE;
        }
        if (!canDock(t, door)) {
            return UOE;
        }
        lanes.set(home, lanes.get(home).replace(sign(t), ""));
        Trailer trailer = trailers.get(t);
        trailer.state = 'w';
        trailer.door = door;
        trailer.docked = now;
        moves++;
        return text(now + trailer.work);
    }

    String leave(int t) {
        if (isNoTrailer(t)) {
            return NSE;
        }
        Trailer trailer = trailers.get(t);
        if (trailer.state != 'w') {
            return ISE;
        }
        if (trailer.docked + trailer.work > now) {
            return UOE;
        }
        trailer.state = 'g';
        charged += Integer.parseInt(charge(t));
        return charge(t);
    }

    String laneOf(int t) {
        if (isNoTrailer(t)) {
            return NSE;
        }
        int home = laneWith(lanes, t);
        return home < 0 ? ISE : text(home);
    }

    String blockers(int t) {
        if (isNoTrailer(t)) {
            return NSE;
        }
        int home = laneWith(lanes, t);
        return home < 0 ? ISE : text(lanes.get(home).length() - 1 - lanes.get(home).indexOf(sign(t)));
    }

    String trailerAt(int lane, int index) {
        if (lane < 0 || lane >= lanes.size()) {
            return IOB;
        }
        String line = new StringBuilder(lanes.get(lane)).reverse().toString();
        return index < 0 || index >= line.length() ? NSE : text(line.charAt(index) - 'A');
    }

    String freeDoor(int t) {
        if (isNoTrailer(t)) {
            return NSE;
        }
        for (int door = 0; door < doors.size(); door++) {
            if (canDock(t, door)) {
                return text(door);
            }
        }
        return ISE;
    }

    /** Goes through all yards breadth first, each yard once. */
    String fewestMoves(int t) {
        if (isNoTrailer(t)) {
            return NSE;
        }
        int home = laneWith(lanes, t);
        if (home < 0) {
            return ISE;
        }
        Map<List<String>, Integer> distances = new HashMap<>();
        ArrayDeque<List<String>> open = new ArrayDeque<>();
        distances.put(lanes, 0);
        open.add(lanes);
        while (!open.isEmpty()) {
            List<String> yard = open.remove();
            int distance = distances.get(yard);
            if (yard.get(home).endsWith(sign(t))) {
                return text(distance);
            }
            if (distance < 4) {
                for (List<String> next : neighbours(yard)) {
                    if (distances.putIfAbsent(next, distance + 1) == null) {
                        open.add(next);
                    }
                }
            }
        }
        return UOE;
    }

    String fewestByOrders(int t) {
        return fewestMoves(t);
    }

    private List<List<String>> neighbours(List<String> yard) {
        List<List<String>> result = new ArrayList<>();
        for (int from = 0; from < yard.size(); from++) {
            for (int to = 0; to < yard.size(); to++) {
                String source = yard.get(from);
                if (from != to && !source.isEmpty() && fits(yard, source.charAt(source.length() - 1) - 'A', to)) {
                    result.add(moved(yard, from, to));
                }
            }
        }
        return result;
    }

    String pass(int hours) {
        if (hours < 1 || hours > 99) {
            return IAE;
        }
        int noShows = 0;
        for (int i = 0; i < hours; i++) {
            now++;
            for (Trailer trailer : trailers) {
                if (trailer.state == 'b' && trailer.hour + 24 < now) {
                    trailer.state = 'n';
                    noShows++;
                }
            }
        }
        return text(noShows);
    }

    String time() {
        return text(now);
    }

    String waited(int t) {
        if (isNoTrailer(t)) {
            return NSE;
        }
        Trailer trailer = trailers.get(t);
        if (trailer.state == 'b' || trailer.state == 'n') {
            return ISE;
        }
        int until = trailer.state == 'y' ? now : trailer.docked;
        int hours = 0;
        for (int hour = trailer.arrived; hour < until; hour++) {
            if (hour >= trailer.hour) {
                hours++;
            }
        }
        return text(hours);
    }

    String charge(int t) {
        String waited = waited(t);
        if (waited.startsWith("throws")) {
            return waited;
        }
        if (punctuality(t).equals("l")) {
            return "0";
        }
        int hours = Integer.parseInt(waited);
        int sum = 0;
        for (int h = 1; h <= hours; h++) {
            sum += h <= rates[0] ? 0 : h <= rates[0] + rates[2] ? rates[1] : rates[3];
        }
        return text(sum);
    }

    String chargeByHours(int t) {
        return charge(t);
    }

    String moves() {
        return text(moves);
    }

    String charged() {
        return text(charged);
    }

    String usedShare() {
        if (doors.isEmpty()) {
            return AE;
        }
        int used = 0;
        for (int door = 0; door < doors.size(); door++) {
            used += doorUser(door) >= 0 ? 1 : 0;
        }
        return text((float) used / (float) doors.size());
    }

    String meanWaiting() {
        long sum = 0;
        int arrived = 0;
        for (int t = 0; t < trailers.size(); t++) {
            if (!waited(t).startsWith("throws")) {
                sum += Long.parseLong(waited(t));
                arrived++;
            }
        }
        return arrived == 0 ? AE : text((double) sum / (double) arrived);
    }
}
