/** Promises 11 to 19: shift, dock, leave, laneOf, blockers, trailerAt, freeDoor, and the fewest moves. */
public final class MovesTest {
    private static final int[] NO_NUMBERS = {Integer.MIN_VALUE, -1, 40, Integer.MAX_VALUE};

    public static void main(String[] args) {
        Check check = new Check();
        shift(check);
        dock(check);
        leave(check);
        placesInLanes(check);
        freeDoor(check);
        fewestRefuses(check);
        fewestByBlockers(check);
        fewestByMakingRoom(check);
        fewestWithPower(check);
        fewestUpToFour(check);
        check.end();
    }

    private static void fewest(Check check, String what, Object want, DockyardSlots x, int trailer) {
        check.due("18 " + what, want, () -> x.fewestMoves(trailer));
        check.due("19 " + what, want, () -> x.fewestByOrders(trailer));
    }

    private static void shift(Check check) {
        DockyardSlots x = new DockyardSlots();
        x.addLane(3, true);
        x.addLane(1, true);
        x.addLane(2, false);
        x.addDoor('b');
        x.book(0, 'd', 1);
        x.book(0, 'c', 1);
        x.book(0, 'd', 1);
        for (int number : NO_NUMBERS) {
            check.noSuchElement("11 trailer " + number, () -> x.shift(number, 0));
            check.noSuchElement("11 trailer before lane " + number, () -> x.shift(number, 3));
            check.outOfBounds("11 lane " + number, () -> x.shift(0, number));
        }
        check.outOfBounds("11 lane 3 before state", () -> x.shift(0, 3));
        check.illegalState("11 booked", () -> x.shift(0, 0));
        x.arrive(0, 0);
        x.arrive(1, 0);
        check.illegalState("11 not reached", () -> x.shift(0, 1));
        check.illegalState("11 not reached before this lane", () -> x.shift(0, 0));
        check.unsupported("11 in this lane", () -> x.shift(1, 0));
        check.unsupported("11 no power", () -> x.shift(1, 2));
        check.due("11 nothing moved", 0, () -> x.moves());
        check.due("11 where it was", 0, () -> x.laneOf(1));
        check.due("11 first move", 1, () -> x.shift(1, 1));
        check.due("11 new lane", 1, () -> x.laneOf(1));
        check.due("11 trailer in it", 1, () -> x.trailerAt(1, 0));
        check.noSuchElement("11 out of the old lane", () -> x.trailerAt(0, 1));
        check.due("11 the other is reached", 0, () -> x.blockers(0));
        check.due("11 still in a lane", 'y', () -> x.state(1));
        check.unsupported("11 no room", () -> x.shift(0, 1));
        check.due("11 second move", 2, () -> x.shift(0, 2));
        x.arrive(2, 0);
        check.due("11 third move, onto another", 3, () -> x.shift(2, 2));
        check.due("11 it blocks now", 1, () -> x.blockers(0));
        check.due("11 dock counts", 1, () -> x.dock(2, 0));
        check.illegalState("11 at a door", () -> x.shift(2, 0));
        check.due("11 fifth move", 5, () -> x.shift(0, 0));
        x.pass(1);
        x.leave(2);
        check.illegalState("11 gone", () -> x.shift(2, 0));
    }

    private static void dock(Check check) {
        DockyardSlots x = new DockyardSlots();
        x.addLane(3, true);
        x.addLane(3, true);
        x.addDoor('d');
        x.addDoor('c');
        x.addDoor('b');
        for (int i = 0; i < 6; i++) {
            x.book(2, i % 2 == 0 ? 'd' : 'c', i + 1);
        }
        for (int number : NO_NUMBERS) {
            check.noSuchElement("12 trailer " + number, () -> x.dock(number, 0));
            check.noSuchElement("12 trailer before door " + number, () -> x.dock(number, 3));
            check.outOfBounds("12 door " + number, () -> x.dock(0, number));
        }
        check.outOfBounds("12 door 3 before state", () -> x.dock(0, 3));
        check.illegalState("12 booked", () -> x.dock(0, 0));
        for (int i = 0; i < 3; i++) {
            x.arrive(i, 0);
            x.arrive(i + 3, 1);
        }
        x.pass(3);
        check.illegalState("12 not reached", () -> x.dock(0, 0));
        check.illegalState("12 not reached before kind", () -> x.dock(0, 1));
        check.unsupported("12 dry at cold", () -> x.dock(2, 1));
        check.unsupported("12 cold at dry", () -> x.dock(5, 0));
        check.due("12 nothing moved", 0, () -> x.moves());
        check.due("12 dry at dry", 6, () -> x.dock(2, 0));
        check.due("12 one move", 1, () -> x.moves());
        check.due("12 state", 'w', () -> x.state(2));
        check.due("12 the next is reached", 0, () -> x.blockers(1));
        check.illegalState("12 docked before", () -> x.dock(2, 2));
        check.unsupported("12 the kind, not only the room", () -> x.dock(1, 0));
        check.due("12 cold at both", 9, () -> x.dock(5, 2));
        check.unsupported("12 used", () -> x.dock(1, 2));
        check.due("12 cold at cold", 5, () -> x.dock(1, 1));
        check.unsupported("12 all used", () -> x.dock(0, 0));
        x.pass(6);
        x.leave(5);
        check.due("12 dry at both", 10, () -> x.dock(0, 2));
        check.due("12 four moves", 4, () -> x.moves());
        check.illegalState("12 gone", () -> x.dock(5, 2));
    }

    private static void leave(Check check) {
        DockyardSlots x = new DockyardSlots();
        x.addLane(3, true);
        x.addDoor('b');
        x.addDoor('b');
        x.book(0, 'd', 3);
        x.book(1, 'c', 1);
        for (int number : NO_NUMBERS) {
            check.noSuchElement("13 trailer " + number, () -> x.leave(number));
        }
        check.illegalState("13 booked", () -> x.leave(0));
        x.arrive(1, 0);
        x.arrive(0, 0);
        check.illegalState("13 in a lane", () -> x.leave(0));
        x.pass(9);
        x.dock(0, 0);
        x.dock(1, 1);
        check.unsupported("13 in this hour", () -> x.leave(0));
        x.pass(2);
        check.unsupported("13 an hour too soon", () -> x.leave(0));
        check.due("13 stays", 'w', () -> x.state(0));
        check.due("13 no charge yet", 0, () -> x.charged());
        check.due("13 leaves later than done", 4 * 30 + 2 * 50, () -> x.leave(1));
        x.pass(1);
        check.due("13 leaves when done", 4 * 30 + 3 * 50, () -> x.leave(0));
        check.due("13 state", 'g', () -> x.state(0));
        check.illegalState("13 gone", () -> x.leave(0));
        check.due("13 is no move", 2, () -> x.moves());
        check.due("13 the doors are free", 0.0f, () -> x.usedShare());
        check.due("13 the first is free", 0, () -> x.freeDoor(0));
        x.book(12, 'd', 1);
        x.pass(14);
        x.arrive(2, 0);
        x.pass(9);
        x.dock(2, 1);
        x.pass(1);
        check.due("13 late is free", 0, () -> x.leave(2));
        check.due("13 the sum", 490, () -> x.charged());
        x.book(36, 'd', 1);
        x.pass(30);
        check.illegalState("13 no-show", () -> x.leave(3));
    }

    private static void placesInLanes(Check check) {
        DockyardSlots x = new DockyardSlots();
        x.addLane(3, true);
        x.addLane(2, true);
        x.addDoor('b');
        for (int i = 0; i < 5; i++) {
            x.book(0, 'd', 1);
        }
        for (int number : NO_NUMBERS) {
            check.noSuchElement("14 trailer " + number, () -> x.laneOf(number));
            check.noSuchElement("15 trailer " + number, () -> x.blockers(number));
            check.outOfBounds("16 lane " + number, () -> x.trailerAt(number, 0));
            check.noSuchElement("16 index " + number, () -> x.trailerAt(0, number));
        }
        check.illegalState("14 booked", () -> x.laneOf(0));
        check.illegalState("15 booked", () -> x.blockers(0));
        check.outOfBounds("16 lane 2", () -> x.trailerAt(2, 0));
        check.outOfBounds("16 lane before index", () -> x.trailerAt(2, -1));
        check.noSuchElement("16 empty", () -> x.trailerAt(1, 0));
        for (int i = 0; i < 4; i++) {
            x.arrive(i, i < 3 ? 0 : 1);
        }
        for (int i = 0; i < 3; i++) {
            int trailer = i;
            check.due("14 trailer " + i, 0, () -> x.laneOf(trailer));
            check.due("15 trailer " + i, 2 - trailer, () -> x.blockers(trailer));
            check.due("16 trailer " + i, trailer, () -> x.trailerAt(0, 2 - trailer));
        }
        check.due("14 lane 1", 1, () -> x.laneOf(3));
        check.due("15 alone", 0, () -> x.blockers(3));
        check.noSuchElement("16 index 3", () -> x.trailerAt(0, 3));
        check.noSuchElement("16 index -1", () -> x.trailerAt(0, -1));
        check.noSuchElement("16 index 1", () -> x.trailerAt(1, 1));
        x.dock(2, 0);
        check.illegalState("14 at a door", () -> x.laneOf(2));
        check.illegalState("15 at a door", () -> x.blockers(2));
        check.due("15 one less", 1, () -> x.blockers(0));
        check.due("16 one less", 1, () -> x.trailerAt(0, 0));
        check.noSuchElement("16 not there any more", () -> x.trailerAt(0, 2));
        x.pass(1);
        x.leave(2);
        check.illegalState("14 gone", () -> x.laneOf(2));
        check.illegalState("15 gone", () -> x.blockers(2));
        x.pass(24);
        check.illegalState("14 no-show", () -> x.laneOf(4));
        check.illegalState("15 no-show", () -> x.blockers(4));
    }

    private static void freeDoor(Check check) {
        DockyardSlots x = new DockyardSlots();
        x.addLane(3, true);
        x.book(0, 'd', 1);
        x.book(0, 'c', 1);
        x.book(0, 'c', 1);
        for (int number : NO_NUMBERS) {
            check.noSuchElement("17 trailer " + number, () -> x.freeDoor(number));
        }
        check.illegalState("17 no doors", () -> x.freeDoor(0));
        x.addDoor('c');
        check.illegalState("17 no dry door", () -> x.freeDoor(0));
        check.due("17 booked", 0, () -> x.freeDoor(1));
        x.addDoor('b');
        x.addDoor('d');
        check.due("17 the lowest", 1, () -> x.freeDoor(0));
        x.arrive(0, 0);
        x.arrive(1, 0);
        check.due("17 not reached", 1, () -> x.freeDoor(0));
        x.dock(1, 1);
        check.due("17 the lowest free one", 2, () -> x.freeDoor(0));
        check.due("17 at a door", 0, () -> x.freeDoor(1));
        x.arrive(2, 0);
        x.dock(2, 0);
        check.illegalState("17 all of its kind are used", () -> x.freeDoor(1));
        x.pass(1);
        x.leave(1);
        check.due("17 gone", 1, () -> x.freeDoor(1));
        x.book(1, 'd', 1);
        x.pass(26);
        check.due("17 no-show", 1, () -> x.freeDoor(3));
    }

    private static void fewestRefuses(Check check) {
        DockyardSlots x = new DockyardSlots();
        x.addLane(3, true);
        x.addDoor('b');
        for (int i = 0; i < 4; i++) {
            x.book(0, 'd', 1);
        }
        for (int number : NO_NUMBERS) {
            fewest(check, "trailer " + number, "throws.NoSuchElementException", x, number);
        }
        fewest(check, "booked", "throws.IllegalStateException", x, 0);
        x.arrive(0, 0);
        x.arrive(1, 0);
        x.arrive(2, 0);
        fewest(check, "reached", 0, x, 2);
        fewest(check, "no other lane", "throws.UnsupportedOperationException", x, 1);
        fewest(check, "no other lane", "throws.UnsupportedOperationException", x, 0);
        x.dock(2, 0);
        fewest(check, "at a door", "throws.IllegalStateException", x, 2);
        x.pass(25);
        fewest(check, "no-show", "throws.IllegalStateException", x, 3);
        x.leave(2);
        fewest(check, "gone", "throws.IllegalStateException", x, 2);
    }

    private static void fewestByBlockers(Check check) {
        DockyardSlots x = new DockyardSlots();
        x.addLane(3, true);
        x.addLane(1, true);
        for (int i = 0; i < 4; i++) {
            x.book(0, 'd', 1);
        }
        x.arrive(0, 0);
        x.arrive(1, 0);
        x.arrive(2, 0);
        fewest(check, "two blockers, room for one", "throws.UnsupportedOperationException", x, 0);
        fewest(check, "one blocker", 1, x, 1);
        x.addLane(1, true);
        fewest(check, "two blockers, room for two", 2, x, 0);
        check.due("18 nothing moved", 0, () -> x.moves());
        for (int i = 0; i < 3; i++) {
            int trailer = i;
            check.due("18 where it was " + i, trailer, () -> x.trailerAt(0, 2 - trailer));
            check.due("18 lane of " + i, 0, () -> x.laneOf(trailer));
            check.due("18 blockers of " + i, 2 - trailer, () -> x.blockers(trailer));
        }
        check.noSuchElement("18 lane 1 is empty", () -> x.trailerAt(1, 0));
        check.noSuchElement("18 lane 2 is empty", () -> x.trailerAt(2, 0));
    }

    /** The cold blocker needs the other lane with power, out of which a dry trailer has to be moved first. */
    private static void fewestByMakingRoom(Check check) {
        DockyardSlots x = new DockyardSlots();
        x.addLane(2, true);
        x.addLane(1, true);
        x.addLane(3, false);
        x.book(0, 'd', 1);
        x.book(0, 'c', 1);
        x.book(0, 'd', 1);
        x.arrive(0, 0);
        x.arrive(1, 0);
        fewest(check, "room with power", 1, x, 0);
        x.arrive(2, 1);
        fewest(check, "one to be moved first", 2, x, 0);
        check.due("19 nothing moved", 0, () -> x.moves());
        check.due("19 where it was", 1, () -> x.laneOf(2));
    }

    private static void fewestWithPower(Check check) {
        DockyardSlots x = new DockyardSlots();
        x.addLane(3, true);
        x.addLane(3, false);
        x.addLane(3, false);
        for (int i = 0; i < 3; i++) {
            x.book(0, i == 1 ? 'c' : 'd', 1);
            x.arrive(i, 0);
        }
        fewest(check, "the cold one is reached", 1, x, 1);
        fewest(check, "the cold one cannot go", "throws.UnsupportedOperationException", x, 0);
        x.addLane(1, true);
        fewest(check, "the cold one can go", 2, x, 0);
    }

    private static void fewestUpToFour(Check check) {
        // One of the two cold ones has room with power, the other one only behind a dry one.
        DockyardSlots three = new DockyardSlots();
        three.addLane(3, false);
        three.addLane(3, true);
        three.addLane(1, true);
        three.addLane(1, true);
        for (int i = 0; i < 4; i++) {
            three.book(0, i == 1 || i == 2 ? 'c' : 'd', 1);
        }
        three.arrive(0, 1);
        three.arrive(1, 1);
        three.arrive(2, 1);
        three.arrive(3, 3);
        fewest(check, "two cold ones, one dry one in the way", 3, three, 0);

        DockyardSlots four = new DockyardSlots();
        four.addLane(3, true);
        four.addLane(2, true);
        four.addLane(3, false);
        for (int i = 0; i < 5; i++) {
            four.book(0, i == 1 || i == 2 ? 'c' : 'd', 1);
            four.arrive(i, i < 3 ? 0 : 1);
        }
        fewest(check, "two cold ones, two dry ones in the way", 4, four, 0);
        fewest(check, "one cold one, one dry one in the way", 2, four, 1);
        four.book(0, 'd', 1);
        four.arrive(5, 2);
        fewest(check, "room for two dry ones", 4, four, 0);

        // The three cold ones need all places with power, so both dry ones leave them: five moves.
        DockyardSlots five = new DockyardSlots();
        five.addLane(3, true);
        five.addLane(2, true);
        five.addLane(3, false);
        five.addLane(1, true);
        for (int i = 0; i < 6; i++) {
            five.book(0, i == 1 || i == 2 || i == 4 ? 'c' : 'd', 1);
            five.arrive(i, i < 3 ? 0 : i < 5 ? 1 : 3);
        }
        fewest(check, "five moves are too many", "throws.UnsupportedOperationException", five, 0);
        five.shift(5, 2);
        fewest(check, "four are not", 4, five, 0);
        check.due("18 only the shift moved", 1, () -> five.moves());

        DockyardSlots near = new DockyardSlots();
        near.addLane(2, true);
        near.addLane(1, true);
        near.addLane(2, false);
        near.addLane(2, false);
        near.book(0, 'd', 1);
        near.book(0, 'c', 1);
        near.book(0, 'd', 1);
        near.arrive(0, 0);
        near.arrive(1, 0);
        near.arrive(2, 1);
        fewest(check, "one dry one in the way", 2, near, 0);
        check.due("18 and it goes so", 1, () -> near.shift(2, 3));
        check.due("18 and it goes so", 2, () -> near.shift(1, 1));
        fewest(check, "behind these moves", 0, near, 0);
    }
}
