import java.util.NoSuchElementException;

/** A planner of a trailer yard: appointments, lanes, doors, one tractor, and charges for waiting. */
public final class DockyardSlots {
    private static final int MAX_LANES = 4;
    private static final int MAX_CAPACITY = 3;
    private static final int MAX_DOORS = 4;
    private static final int MAX_APPOINTMENTS = 40;
    private static final int MAX_TRAILERS_IN_LANES = 6;
    private static final int MAX_SEARCHED_MOVES = 4;
    private static final int MAX_TOLERANCE = 9;
    private static final int MAX_CHARGE_HOURS = 24;
    private static final int MAX_RATE = 99;
    private static final int MAX_BOOKED_HOUR = 999;
    private static final int MAX_WORK = 9;
    private static final int MAX_PASSED_HOURS = 99;
    private static final int NO_SHOW_HOURS = 24;

    private static final char DRY = 'd';
    private static final char COLD = 'c';
    private static final char BOTH = 'b';

    private static final char BOOKED = 'b';
    private static final char IN_LANE = 'y';
    private static final char AT_DOOR = 'w';
    private static final char GONE = 'g';
    private static final char NO_SHOW = 'n';

    private static final char EARLY = 'e';
    private static final char ON_TIME = 'o';
    private static final char LATE = 'l';

    private final LaneRow lanes;
    private final Door[] doors;
    private int doorCount;
    private final Appointment[] appointments;
    private int appointmentCount;
    private int tolerance;
    private int freeHours;
    private int firstRate;
    private int firstHours;
    private int secondRate;
    private int now;
    private int moveCount;
    private long chargedSum;

    public DockyardSlots() {
        lanes = new LaneRow();
        doors = new Door[MAX_DOORS];
        appointments = new Appointment[MAX_APPOINTMENTS];
        tolerance = 1;
        freeHours = 2;
        firstRate = 30;
        firstHours = 4;
        secondRate = 50;
    }

    // ---- yard

    public int addLane(int capacity, boolean hasPower) throws IllegalArgumentException, IllegalStateException {
        if (isOutside(capacity, 1, MAX_CAPACITY)) {
            throw new IllegalArgumentException("the capacity is out of range");
        }
        if (lanes.count >= MAX_LANES) {
            throw new IllegalStateException("there are 4 lanes");
        }
        return lanes.append(capacity, hasPower);
    }

    public int addDoor(char kind) throws IllegalArgumentException, IllegalStateException {
        if (kind != DRY && kind != COLD && kind != BOTH) {
            throw new IllegalArgumentException("there is no such kind");
        }
        if (doorCount < 0 || doorCount >= doors.length) {
            throw new IllegalStateException("there are 4 doors");
        }
        int number = doorCount;
        doors[number] = new Door(kind);
        doorCount++;
        return number;
    }

    public int setTolerance(int hours) throws IllegalArgumentException {
        if (isOutside(hours, 0, MAX_TOLERANCE)) {
            throw new IllegalArgumentException("the tolerance is out of range");
        }
        int before = tolerance;
        tolerance = hours;
        return before;
    }

    public int setCharges(int free, int first, int hours, int second) throws IllegalArgumentException {
        if (isOutside(free, 0, MAX_CHARGE_HOURS) || isOutside(first, 0, MAX_RATE)
                || isOutside(hours, 0, MAX_CHARGE_HOURS) || isOutside(second, 0, MAX_RATE)) {
            throw new IllegalArgumentException("a number is out of range");
        }
        int before = freeHours;
        freeHours = free;
        firstRate = first;
        firstHours = hours;
        secondRate = second;
        return before;
    }

    // ---- appointments

    public int book(int hour, char kind, int work) throws IllegalArgumentException, IllegalStateException {
        if (isOutside(hour, now, MAX_BOOKED_HOUR) || isOutside(work, 1, MAX_WORK)) {
            throw new IllegalArgumentException("the hour or the work is out of range");
        }
        if (kind != DRY && kind != COLD) {
            throw new IllegalArgumentException("there is no such kind");
        }
        if (appointmentCount < 0 || appointmentCount >= appointments.length) {
            throw new IllegalStateException("40 appointments have been booked");
        }
        int number = appointmentCount;
        appointments[number] = new Appointment(number, hour, kind, work);
        appointmentCount++;
        return number;
    }

    public char arrive(int trailer, int lane) throws NoSuchElementException, IndexOutOfBoundsException,
            IllegalStateException, UnsupportedOperationException {
        Appointment appointment = appointmentOrThrow(trailer);
        Lane target = laneOrThrow(lane);
        if (appointment.state != BOOKED) {
            throw new IllegalStateException("the appointment is not booked");
        }
        if (lanes.trailerCount() >= MAX_TRAILERS_IN_LANES) {
            throw new IllegalStateException("there are 6 trailers in lanes");
        }
        if (!target.canTake(appointment)) {
            throw new UnsupportedOperationException("the trailer cannot come into the lane");
        }
        target.bringIn(appointment);
        appointment.state = IN_LANE;
        appointment.arrivedAt = now;
        return punctualityOf(appointment);
    }

    public char state(int trailer) throws NoSuchElementException {
        return appointmentOrThrow(trailer).state;
    }

    public char punctuality(int trailer) throws NoSuchElementException, IllegalStateException {
        return punctualityOf(arrivedOrThrow(trailer));
    }

    public int nextBooked() throws NoSuchElementException {
        Appointment next = null;
        for (int i = 0; i < appointmentCount && i < appointments.length; i++) {
            Appointment each = appointments[i];
            if (each != null && each.state == BOOKED && (next == null || each.hour < next.hour)) {
                next = each;
            }
        }
        if (next == null) {
            throw new NoSuchElementException("no appointment is booked");
        }
        return next.number;
    }

    // ---- moves

    public int shift(int trailer, int lane) throws NoSuchElementException, IndexOutOfBoundsException,
            IllegalStateException, UnsupportedOperationException {
        Appointment appointment = appointmentOrThrow(trailer);
        Lane target = laneOrThrow(lane);
        Lane home = homeOfReachedOrThrow(appointment);
        if (home.number == target.number) {
            throw new UnsupportedOperationException("the trailer is in this lane");
        }
        if (!target.canTake(appointment)) {
            throw new UnsupportedOperationException("the trailer cannot come into the lane");
        }
        home.takeOut();
        target.bringIn(appointment);
        moveCount++;
        return moveCount;
    }

    public int dock(int trailer, int door) throws NoSuchElementException, IndexOutOfBoundsException,
            IllegalStateException, UnsupportedOperationException {
        Appointment appointment = appointmentOrThrow(trailer);
        Door target = doorAt(door);
        if (target == null) {
            throw new IndexOutOfBoundsException("there is no such door");
        }
        Lane home = homeOfReachedOrThrow(appointment);
        if (!target.canTake(appointment)) {
            throw new UnsupportedOperationException("the trailer cannot be docked at the door");
        }
        home.takeOut();
        target.isUsed = true;
        appointment.door = target;
        appointment.state = AT_DOOR;
        appointment.dockedAt = now;
        moveCount++;
        return appointment.doneAt();
    }

    public int leave(int trailer) throws NoSuchElementException, IllegalStateException,
            UnsupportedOperationException {
        Appointment appointment = appointmentOrThrow(trailer);
        Door from = appointment.door;
        if (from == null) {
            throw new IllegalStateException("the trailer is not at a door");
        }
        if (now < appointment.doneAt()) {
            throw new UnsupportedOperationException("the work is not done");
        }
        from.isUsed = false;
        appointment.door = null;
        appointment.state = GONE;
        int due = chargeInSteps(appointment);
        chargedSum += due;
        return due;
    }

    public int laneOf(int trailer) throws NoSuchElementException, IllegalStateException {
        return homeOrThrow(appointmentOrThrow(trailer)).number;
    }

    public int blockers(int trailer) throws NoSuchElementException, IllegalStateException {
        Appointment appointment = appointmentOrThrow(trailer);
        return homeOrThrow(appointment).countBefore(appointment);
    }

    public int trailerAt(int lane, int index) throws IndexOutOfBoundsException, NoSuchElementException {
        Appointment found = laneOrThrow(lane).fromExit(index);
        if (found == null) {
            throw new NoSuchElementException("there is no such trailer");
        }
        return found.number;
    }

    public int freeDoor(int trailer) throws NoSuchElementException, IllegalStateException {
        Appointment appointment = appointmentOrThrow(trailer);
        int found = -1;
        for (int i = 0; i < doorCount && found < 0; i++) {
            Door each = doorAt(i);
            if (each != null && each.canTake(appointment)) {
                found = i;
            }
        }
        if (found < 0) {
            throw new IllegalStateException("there is no such door");
        }
        return found;
    }

    public int fewestMoves(int trailer) throws NoSuchElementException, IllegalStateException,
            UnsupportedOperationException {
        Appointment appointment = appointmentOrThrow(trailer);
        Lane home = homeOrThrow(appointment);
        int allowed = 0;
        while (allowed <= MAX_SEARCHED_MOVES && !isReachedWithin(lanes, home, appointment, allowed)) {
            allowed++;
        }
        if (allowed > MAX_SEARCHED_MOVES) {
            throw new UnsupportedOperationException("the trailer cannot be reached with at most 4 moves");
        }
        return allowed;
    }

    public int fewestByOrders(int trailer) throws NoSuchElementException, IllegalStateException,
            UnsupportedOperationException {
        Appointment appointment = appointmentOrThrow(trailer);
        Lane home = homeOrThrow(appointment);
        int fewest = bestOfOrders(lanes, home, appointment, 0, MAX_SEARCHED_MOVES + 1);
        if (fewest > MAX_SEARCHED_MOVES) {
            throw new UnsupportedOperationException("the trailer cannot be reached with at most 4 moves");
        }
        return fewest;
    }

    // ---- hours and charges

    public int pass(int hours) throws IllegalArgumentException {
        if (isOutside(hours, 1, MAX_PASSED_HOURS)) {
            throw new IllegalArgumentException("the number of hours is out of range");
        }
        now += hours;
        int noShows = 0;
        for (int i = 0; i < appointmentCount && i < appointments.length; i++) {
            Appointment each = appointments[i];
            if (each != null && each.state == BOOKED && now - each.hour > NO_SHOW_HOURS) {
                each.state = NO_SHOW;
                noShows++;
            }
        }
        return noShows;
    }

    public int time() {
        return now;
    }

    public int waited(int trailer) throws NoSuchElementException, IllegalStateException {
        return waitingHours(arrivedOrThrow(trailer));
    }

    public int charge(int trailer) throws NoSuchElementException, IllegalStateException {
        return chargeInSteps(arrivedOrThrow(trailer));
    }

    public int chargeByHours(int trailer) throws NoSuchElementException, IllegalStateException {
        Appointment appointment = arrivedOrThrow(trailer);
        if (punctualityOf(appointment) == LATE) {
            return 0;
        }
        int hours = waitingHours(appointment);
        int sum = 0;
        for (int before = 0; before < hours; before++) {
            sum += rateOfHour(before);
        }
        return sum;
    }

    public int moves() {
        return moveCount;
    }

    public long charged() {
        return chargedSum;
    }

    public float usedShare() throws ArithmeticException {
        if (doorCount <= 0) {
            throw new ArithmeticException("there are no doors");
        }
        int used = 0;
        for (int i = 0; i < doorCount; i++) {
            Door each = doorAt(i);
            if (each != null && each.isUsed) {
                used++;
            }
        }
        return (float) used / (float) doorCount;
    }

    public double meanWaiting() throws ArithmeticException {
        int sum = 0;
        int trailers = 0;
        for (int i = 0; i < appointmentCount && i < appointments.length; i++) {
            Appointment each = appointments[i];
            if (each != null && each.hasArrived()) {
                sum += waitingHours(each);
                trailers++;
            }
        }
        if (trailers <= 0) {
            throw new ArithmeticException("no trailer has arrived");
        }
        return (double) sum / (double) trailers;
    }

    // ---- looking things up

    private static boolean isOutside(int number, int lowest, int highest) {
        return number < lowest || number > highest;
    }

    private Appointment appointmentOrThrow(int number) {
        if (number < 0 || number >= appointmentCount || number >= appointments.length) {
            throw new NoSuchElementException("there is no such appointment");
        }
        Appointment found = appointments[number];
        if (found == null) {
            throw new NoSuchElementException("there is no such appointment");
        }
        return found;
    }

    private Appointment arrivedOrThrow(int number) {
        Appointment appointment = appointmentOrThrow(number);
        if (!appointment.hasArrived()) {
            throw new IllegalStateException("the trailer has not arrived");
        }
        return appointment;
    }

    private Lane laneOrThrow(int number) {
        Lane found = lanes.laneAt(number);
        if (found == null) {
            throw new IndexOutOfBoundsException("there is no such lane");
        }
        return found;
    }

    private static Lane homeOrThrow(Appointment appointment) {
        Lane home = appointment.lane;
        if (home == null) {
            throw new IllegalStateException("the trailer is not in a lane");
        }
        return home;
    }

    private static Lane homeOfReachedOrThrow(Appointment appointment) {
        Lane home = homeOrThrow(appointment);
        if (home.countBefore(appointment) != 0) {
            throw new IllegalStateException("the trailer is not reached");
        }
        return home;
    }

    private Door doorAt(int number) {
        if (number < 0 || number >= doorCount || number >= doors.length) {
            return null;
        }
        return doors[number];
    }

    // ---- searching for moves

    /** Tells whether at most so many moves free the trailer; afterwards all trailers stand as before. */
    private static boolean isReachedWithin(LaneRow lanes, Lane home, Appointment trailer, int movesLeft) {
        int blocking = home.countBefore(trailer);
        if (blocking == 0) {
            return true;
        }
        // One move frees the lane of one trailer at most, so fewer moves than blockers can't do.
        if (movesLeft <= 0 || blocking > movesLeft) {
            return false;
        }
        boolean found = false;
        for (int from = 0; from < lanes.count && !found; from++) {
            for (int to = 0; to < lanes.count && !found; to++) {
                if (lanes.allowMove(from, to)) {
                    lanes.moveNearest(from, to);
                    found = isReachedWithin(lanes, home, trailer, movesLeft - 1);
                    lanes.moveNearest(to, from);
                }
            }
        }
        return found;
    }

    /** Returns the fewest moves that free the trailer, or best if no order needs fewer than best. */
    private static int bestOfOrders(LaneRow lanes, Lane home, Appointment trailer, int made, int best) {
        if (home.countBefore(trailer) == 0) {
            return Math.min(made, best);
        }
        // A longer order would not be better; as best is 5 at most, this also ends the recursion.
        if (made >= MAX_SEARCHED_MOVES || made + 1 >= best) {
            return best;
        }
        int fewest = best;
        for (int from = 0; from < lanes.count; from++) {
            for (int to = 0; to < lanes.count; to++) {
                if (lanes.allowMove(from, to)) {
                    lanes.moveNearest(from, to);
                    fewest = bestOfOrders(lanes, home, trailer, made + 1, fewest);
                    lanes.moveNearest(to, from);
                }
            }
        }
        return fewest;
    }

    // ---- waiting

    private char punctualityOf(Appointment appointment) {
        int hoursLate = appointment.arrivedAt - appointment.hour;
        if (hoursLate > tolerance) {
            return LATE;
        }
        return -hoursLate > tolerance ? EARLY : ON_TIME;
    }

    private int waitingHours(Appointment appointment) {
        int begin = Math.max(appointment.arrivedAt, appointment.hour);
        int end = appointment.state == IN_LANE ? now : appointment.dockedAt;
        return Math.max(0, end - begin);
    }

    private int chargeInSteps(Appointment appointment) {
        if (punctualityOf(appointment) == LATE) {
            return 0;
        }
        int paid = Math.max(0, waitingHours(appointment) - freeHours);
        int atFirstRate = Math.min(paid, firstHours);
        return atFirstRate * firstRate + (paid - atFirstRate) * secondRate;
    }

    /** Returns what an hour of waiting costs before which so many hours were waited. */
    private int rateOfHour(int before) {
        if (before < freeHours) {
            return 0;
        }
        return before < freeHours + firstHours ? firstRate : secondRate;
    }

    // ---- what stands in the yard

    /** An appointment and its trailer. */
    private static final class Appointment {
        final int number;
        final int hour;
        final char kind;
        final int work;
        char state;
        int arrivedAt;
        int dockedAt;
        /** The lane in which the trailer is, or null. */
        Lane lane;
        /** How many trailers are behind it in its lane, away from the exit. */
        int place;
        /** The door at which the trailer is, or null. */
        Door door;

        Appointment(int number, int hour, char kind, int work) {
            this.number = number;
            this.hour = hour;
            this.kind = kind;
            this.work = work;
            this.state = BOOKED;
        }

        boolean hasArrived() {
            return state != BOOKED && state != NO_SHOW;
        }

        int doneAt() {
            return dockedAt + work;
        }
    }

    /** A door for one trailer. */
    private static final class Door {
        final char kind;
        boolean isUsed;

        Door(char kind) {
            this.kind = kind;
        }

        boolean canTake(Appointment trailer) {
            return !isUsed && (kind == BOTH || kind == trailer.kind);
        }
    }

    /** A lane: a stack of trailers, the last one nearest to the exit. */
    private static final class Lane {
        final int number;
        private final int capacity;
        private final boolean hasPower;
        private final Appointment[] trailers;
        int count;

        Lane(int number, int capacity, boolean hasPower) {
            this.number = number;
            this.capacity = capacity;
            this.hasPower = hasPower;
            this.trailers = new Appointment[MAX_CAPACITY];
        }

        boolean canTake(Appointment trailer) {
            return count < capacity && (hasPower || trailer.kind != COLD);
        }

        void bringIn(Appointment trailer) {
            if (count >= 0 && count < trailers.length) {
                trailers[count] = trailer;
                trailer.lane = this;
                trailer.place = count;
                count++;
            }
        }

        /** Takes the trailer nearest to the exit out; returns null if there is none. */
        Appointment takeOut() {
            Appointment nearest = fromExit(0);
            if (nearest != null) {
                count--;
                nearest.lane = null;
            }
            return nearest;
        }

        /** Returns the trailer with so many between it and the exit, or null. */
        Appointment fromExit(int index) {
            if (index < 0 || index >= count || count > trailers.length) {
                return null;
            }
            return trailers[count - 1 - index];
        }

        /** Returns how many are between a trailer of this lane and the exit. */
        int countBefore(Appointment trailer) {
            return count - 1 - trailer.place;
        }
    }

    /** The lanes in the order of their numbers. */
    private static final class LaneRow {
        private final Lane[] lanes;
        int count;

        LaneRow() {
            lanes = new Lane[MAX_LANES];
        }

        /** Returns the number of the new lane. */
        int append(int capacity, boolean hasPower) {
            int number = count;
            if (number >= 0 && number < lanes.length) {
                lanes[number] = new Lane(number, capacity, hasPower);
                count++;
            }
            return number;
        }

        /** Returns the lane with this number, or null. */
        Lane laneAt(int number) {
            if (number < 0 || number >= count || number >= lanes.length) {
                return null;
            }
            return lanes[number];
        }

        int trailerCount() {
            int sum = 0;
            for (int i = 0; i < count; i++) {
                Lane each = laneAt(i);
                if (each != null) {
                    sum += each.count;
                }
            }
            return sum;
        }

        /** Tells whether the nearest trailer of one lane can come into another one. */
        boolean allowMove(int from, int to) {
            Lane source = laneAt(from);
            Lane target = laneAt(to);
            if (from == to || source == null || target == null) {
                return false;
            }
            Appointment nearest = source.fromExit(0);
            return nearest != null && target.canTake(nearest);
        }

        void moveNearest(int from, int to) {
            Lane source = laneAt(from);
            Lane target = laneAt(to);
            if (source != null && target != null) {
                Appointment nearest = source.takeOut();
                if (nearest != null) {
                    target.bringIn(nearest);
                }
            }
        }
    }
}
