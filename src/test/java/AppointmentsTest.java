/** Promises 6 to 10: book, arrive, state, punctuality, nextBooked. */
public final class AppointmentsTest {
    private static final int[] NO_NUMBERS = {Integer.MIN_VALUE, -1, 40, Integer.MAX_VALUE};

    public static void main(String[] args) {
        Check check = new Check();
        book(check);
        arriveRefuses(check);
        sixInLanes(check);
        state(check);
        punctuality(check);
        nextBooked(check);
        check.end();
    }

    private static void book(Check check) {
        DockyardSlots x = new DockyardSlots();
        x.pass(5);
        for (int hour : new int[] {4, 1000, -1, Integer.MIN_VALUE, Integer.MAX_VALUE}) {
            check.illegalArgument("6 hour " + hour, () -> x.book(hour, 'd', 1));
        }
        for (int work : new int[] {0, 10, -1, Integer.MIN_VALUE, Integer.MAX_VALUE}) {
            check.illegalArgument("6 work " + work, () -> x.book(5, 'd', work));
        }
        for (char kind : new char[] {'b', 'x', 'D', 0}) {
            check.illegalArgument("6 kind " + (int) kind, () -> x.book(5, kind, 1));
        }
        check.due("6 this hour", 0, () -> x.book(5, 'd', 1));
        check.due("6 the last hour", 1, () -> x.book(999, 'c', 9));
        for (int i = 2; i < 40; i++) {
            int number = i;
            check.due("6 number " + i, number, () -> x.book(6, 'd', 2));
        }
        check.illegalState("6 the 41st", () -> x.book(6, 'd', 2));
        check.illegalArgument("6 hour before count", () -> x.book(4, 'd', 2));
        check.illegalArgument("6 kind before count", () -> x.book(6, 'b', 2));
        check.illegalArgument("6 work before count", () -> x.book(6, 'd', 10));
        check.due("6 is booked", 'b', () -> x.state(39));
        check.noSuchElement("6 no 41st", () -> x.state(40));
        DockyardSlots late = new DockyardSlots();
        for (int i = 0; i < 10; i++) {
            late.pass(99);
        }
        late.pass(9);
        check.due("6 at 999", 0, () -> late.book(999, 'd', 1));
        late.pass(1);
        check.illegalArgument("6 at 1000, 999 is past", () -> late.book(999, 'd', 1));
        check.illegalArgument("6 at 1000, 1000 is too late", () -> late.book(1000, 'd', 1));
    }

    private static void arriveRefuses(Check check) {
        DockyardSlots x = new DockyardSlots();
        x.addLane(1, false);
        x.addLane(2, true);
        x.book(0, 'c', 1);
        x.book(0, 'd', 1);
        x.book(0, 'd', 1);
        for (int number : NO_NUMBERS) {
            check.noSuchElement("7 trailer " + number, () -> x.arrive(number, 0));
            check.noSuchElement("7 trailer before lane " + number, () -> x.arrive(number, 9));
            check.outOfBounds("7 lane " + number, () -> x.arrive(0, number));
        }
        check.noSuchElement("7 trailer 3", () -> x.arrive(3, 0));
        check.outOfBounds("7 lane 2", () -> x.arrive(0, 2));
        check.unsupported("7 cold without power", () -> x.arrive(0, 0));
        check.due("7 still booked", 'b', () -> x.state(0));
        check.noSuchElement("7 the lane is empty", () -> x.trailerAt(0, 0));
        check.due("7 arrives", 'o', () -> x.arrive(1, 0));
        check.due("7 is in the lane", 0, () -> x.laneOf(1));
        check.due("7 state", 'y', () -> x.state(1));
        check.due("7 is no move", 0, () -> x.moves());
        check.illegalState("7 arrived before", () -> x.arrive(1, 1));
        check.illegalState("7 state before room", () -> x.arrive(1, 0));
        check.outOfBounds("7 lane before state", () -> x.arrive(1, 2));
        check.unsupported("7 no room", () -> x.arrive(2, 0));
        check.due("7 cold with power", 'o', () -> x.arrive(0, 1));
        check.due("7 nearest to the exit", 'o', () -> x.arrive(2, 1));
        check.due("7 last is nearest", 2, () -> x.trailerAt(1, 0));
        check.due("7 first is behind", 0, () -> x.trailerAt(1, 1));
        x.book(0, 'd', 1);
        x.pass(25);
        check.illegalState("7 no-show", () -> x.arrive(3, 1));
    }

    private static void sixInLanes(Check check) {
        DockyardSlots x = new DockyardSlots();
        x.addLane(3, true);
        x.addLane(3, true);
        x.addLane(3, false);
        x.addDoor('d');
        for (int i = 0; i < 8; i++) {
            x.book(0, i == 7 ? 'c' : 'd', 1);
        }
        for (int i = 0; i < 6; i++) {
            int trailer = i;
            check.due("7 of six " + i, 'o', () -> x.arrive(trailer, trailer % 2));
        }
        check.illegalState("7 the seventh", () -> x.arrive(6, 2));
        check.illegalState("7 six before power", () -> x.arrive(7, 2));
        check.illegalState("7 six before room", () -> x.arrive(6, 0));
        check.due("7 shift does not count", 1, () -> x.shift(5, 2));
        check.illegalState("7 still six", () -> x.arrive(6, 2));
        check.due("7 dock makes room", 1, () -> x.dock(5, 0));
        check.due("7 six again", 'o', () -> x.arrive(6, 2));
    }

    private static void state(Check check) {
        DockyardSlots x = new DockyardSlots();
        x.addLane(3, true);
        x.addDoor('b');
        for (int number : NO_NUMBERS) {
            check.noSuchElement("8 number " + number, () -> x.state(number));
        }
        check.noSuchElement("8 none booked", () -> x.state(0));
        x.book(0, 'd', 2);
        x.book(0, 'd', 2);
        check.noSuchElement("8 number 2", () -> x.state(2));
        check.due("8 booked", 'b', () -> x.state(0));
        x.arrive(0, 0);
        check.due("8 in a lane", 'y', () -> x.state(0));
        x.dock(0, 0);
        check.due("8 at a door", 'w', () -> x.state(0));
        x.pass(2);
        check.due("8 until it leaves", 'w', () -> x.state(0));
        x.leave(0);
        check.due("8 gone", 'g', () -> x.state(0));
        x.pass(22);
        check.due("8 24 hours ago", 'b', () -> x.state(1));
        x.pass(1);
        check.due("8 no-show", 'n', () -> x.state(1));
        check.due("8 stays gone", 'g', () -> x.state(0));
    }

    private static void punctuality(Check check) {
        DockyardSlots x = new DockyardSlots();
        x.addLane(3, true);
        x.addLane(3, true);
        x.addDoor('b');
        for (int hour : new int[] {8, 9, 10, 11, 12, 12}) {
            x.book(hour, 'd', 1);
        }
        for (int number : NO_NUMBERS) {
            check.noSuchElement("9 number " + number, () -> x.punctuality(number));
        }
        check.illegalState("9 booked", () -> x.punctuality(0));
        x.pass(10);
        check.due("7 2 hours late", 'l', () -> x.arrive(0, 0));
        check.due("7 1 hour late", 'o', () -> x.arrive(1, 0));
        check.due("7 in its hour", 'o', () -> x.arrive(2, 0));
        check.due("7 1 hour early", 'o', () -> x.arrive(3, 1));
        check.due("7 2 hours early", 'e', () -> x.arrive(4, 1));
        x.pass(30);
        check.due("9 2 hours late", 'l', () -> x.punctuality(0));
        check.due("9 1 hour late", 'o', () -> x.punctuality(1));
        check.due("9 in its hour", 'o', () -> x.punctuality(2));
        check.due("9 1 hour early", 'o', () -> x.punctuality(3));
        check.due("9 2 hours early", 'e', () -> x.punctuality(4));
        check.illegalState("9 no-show", () -> x.punctuality(5));
        x.setTolerance(0);
        check.due("9 late by 0", 'l', () -> x.punctuality(1));
        check.due("9 on time by 0", 'o', () -> x.punctuality(2));
        check.due("9 early by 0", 'e', () -> x.punctuality(3));
        x.setTolerance(2);
        check.due("9 not late by 2", 'o', () -> x.punctuality(0));
        check.due("9 not early by 2", 'o', () -> x.punctuality(4));
        x.setTolerance(1);
        x.dock(2, 0);
        check.due("9 at a door", 'o', () -> x.punctuality(2));
        x.pass(1);
        x.leave(2);
        x.dock(1, 0);
        x.pass(1);
        x.leave(1);
        x.dock(0, 0);
        x.pass(1);
        x.leave(0);
        check.due("9 gone", 'l', () -> x.punctuality(0));
    }

    private static void nextBooked(Check check) {
        DockyardSlots x = new DockyardSlots();
        x.addLane(3, true);
        check.noSuchElement("10 none", () -> x.nextBooked());
        x.book(7, 'd', 1);
        x.book(5, 'd', 1);
        x.book(5, 'c', 1);
        x.book(6, 'd', 1);
        check.due("10 the earliest, then the lowest", 1, () -> x.nextBooked());
        x.arrive(1, 0);
        check.due("10 the other one", 2, () -> x.nextBooked());
        x.pass(30);
        check.due("10 no no-shows", 3, () -> x.nextBooked());
        x.arrive(3, 0);
        check.due("10 the last", 0, () -> x.nextBooked());
        x.pass(2);
        check.noSuchElement("10 none any more", () -> x.nextBooked());
    }
}
