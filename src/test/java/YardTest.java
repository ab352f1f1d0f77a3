/** Promises 1 to 5: a new object, addLane, addDoor, setTolerance, setCharges. */
public final class YardTest {
    private static final int[] FAR = {Integer.MIN_VALUE, -1, Integer.MAX_VALUE};

    public static void main(String[] args) {
        Check check = new Check();
        newObject(check);
        addLane(check);
        addDoor(check);
        setTolerance(check);
        toleranceCountsAtOnce(check);
        setCharges(check);
        chargesCountAtOnce(check);
        check.end();
    }

    private static void newObject(Check check) {
        DockyardSlots x = new DockyardSlots();
        check.due("1 time", 0, () -> x.time());
        check.due("1 moves", 0, () -> x.moves());
        check.due("1 charged", 0, () -> x.charged());
        check.outOfBounds("1 no lane", () -> x.trailerAt(0, 0));
        check.arithmetic("1 no door", () -> x.usedShare());
        check.noSuchElement("1 no appointment", () -> x.state(0));
        check.noSuchElement("1 nothing booked", () -> x.nextBooked());
        check.arithmetic("1 none arrived", () -> x.meanWaiting());
        check.due("1 book", 0, () -> x.book(0, 'd', 1));
        check.outOfBounds("1 arrive without lanes", () -> x.arrive(0, 0));
        check.illegalState("1 no free door", () -> x.freeDoor(0));
        DockyardSlots other = new DockyardSlots();
        check.noSuchElement("1 objects are apart", () -> other.state(0));
    }

    private static void addLane(Check check) {
        DockyardSlots x = new DockyardSlots();
        for (int capacity : new int[] {0, 4, Integer.MIN_VALUE, -1, Integer.MAX_VALUE}) {
            check.illegalArgument("2 capacity " + capacity, () -> x.addLane(capacity, true));
        }
        check.due("2 first", 0, () -> x.addLane(1, false));
        check.due("2 second", 1, () -> x.addLane(2, true));
        check.due("2 third", 2, () -> x.addLane(3, false));
        check.outOfBounds("2 not yet", () -> x.trailerAt(3, 0));
        check.due("2 fourth", 3, () -> x.addLane(3, true));
        check.illegalState("2 fifth", () -> x.addLane(1, false));
        check.illegalArgument("2 capacity before count", () -> x.addLane(0, false));
        for (int i = 0; i < 10; i++) {
            x.book(0, i < 8 ? 'd' : 'c', 1);
        }
        check.due("2 capacity 1", 'o', () -> x.arrive(0, 0));
        check.unsupported("2 capacity 1 is full", () -> x.arrive(1, 0));
        check.unsupported("2 no power", () -> x.arrive(8, 2));
        check.due("2 power", 'o', () -> x.arrive(8, 1));
        check.due("2 dry with power", 'o', () -> x.arrive(1, 1));
        check.unsupported("2 capacity 2 is full", () -> x.arrive(2, 1));
        check.due("2 in three", 'o', () -> x.arrive(2, 2));
        check.due("2 in three", 'o', () -> x.arrive(3, 2));
        check.due("2 in three", 'o', () -> x.arrive(4, 2));
    }

    private static void addDoor(Check check) {
        DockyardSlots x = new DockyardSlots();
        for (char kind : new char[] {'a', 'e', 'D', 'C', 'B', 0, (char) 65535}) {
            check.illegalArgument("3 kind " + (int) kind, () -> x.addDoor(kind));
        }
        check.due("3 first", 0, () -> x.addDoor('d'));
        check.due("3 second", 1, () -> x.addDoor('c'));
        check.due("3 third", 2, () -> x.addDoor('b'));
        check.due("3 fourth", 3, () -> x.addDoor('d'));
        check.illegalState("3 fifth", () -> x.addDoor('d'));
        check.illegalArgument("3 kind before count", () -> x.addDoor('x'));
        check.due("3 none is used", 0.0f, () -> x.usedShare());
    }

    private static void setTolerance(Check check) {
        DockyardSlots x = new DockyardSlots();
        for (int hours : FAR) {
            check.illegalArgument("4 tolerance " + hours, () -> x.setTolerance(hours));
        }
        check.illegalArgument("4 tolerance 10", () -> x.setTolerance(10));
        check.due("4 initially 1", 1, () -> x.setTolerance(9));
        check.due("4 to 0", 9, () -> x.setTolerance(0));
        check.illegalArgument("4 tolerance 10 again", () -> x.setTolerance(10));
        check.due("4 kept", 0, () -> x.setTolerance(4));
        check.due("4 kept", 4, () -> x.setTolerance(4));
    }

    /** A trailer two hours late: whether it is late, and so free of charge, goes by the tolerance of now. */
    private static void toleranceCountsAtOnce(Check check) {
        DockyardSlots x = new DockyardSlots();
        x.addLane(3, true);
        x.book(0, 'd', 1);
        x.pass(2);
        check.due("4 late by 2", 'l', () -> x.arrive(0, 0));
        x.pass(5);
        check.due("4 late is free", 0, () -> x.charge(0));
        check.due("4 late is free by hours", 0, () -> x.chargeByHours(0));
        x.setTolerance(2);
        check.due("4 on time by 2", 'o', () -> x.punctuality(0));
        check.due("4 charged now", 90, () -> x.charge(0));
        check.due("4 charged now by hours", 90, () -> x.chargeByHours(0));
    }

    private static void setCharges(Check check) {
        DockyardSlots x = new DockyardSlots();
        for (int number : new int[] {25, Integer.MIN_VALUE, -1, Integer.MAX_VALUE}) {
            check.illegalArgument("5 free " + number, () -> x.setCharges(number, 1, 1, 1));
            check.illegalArgument("5 hours " + number, () -> x.setCharges(1, 1, number, 1));
        }
        for (int number : new int[] {100, Integer.MIN_VALUE, -1, Integer.MAX_VALUE}) {
            check.illegalArgument("5 first " + number, () -> x.setCharges(1, number, 1, 1));
            check.illegalArgument("5 second " + number, () -> x.setCharges(1, 1, 1, number));
        }
        check.due("5 initially 2", 2, () -> x.setCharges(24, 99, 24, 99));
        check.due("5 to 0", 24, () -> x.setCharges(0, 0, 0, 0));
        check.due("5 kept", 0, () -> x.setCharges(7, 1, 2, 3));
        check.due("5 kept", 7, () -> x.setCharges(7, 1, 2, 3));
    }

    private static void chargesCountAtOnce(Check check) {
        DockyardSlots x = new DockyardSlots();
        x.addLane(3, true);
        x.addDoor('b');
        x.book(0, 'd', 1);
        x.arrive(0, 0);
        x.pass(8);
        check.due("5 initial charges", 4 * 30 + 2 * 50, () -> x.charge(0));
        x.dock(0, 0);
        x.pass(1);
        check.illegalArgument("5 wrong ones change nothing", () -> x.setCharges(1, 2, 3, 100));
        check.due("5 as before", 4 * 30 + 2 * 50, () -> x.charge(0));
        x.setCharges(1, 10, 3, 7);
        check.due("5 at a door", 3 * 10 + 4 * 7, () -> x.charge(0));
        check.due("5 at a door by hours", 3 * 10 + 4 * 7, () -> x.chargeByHours(0));
        check.due("5 on leaving", 58, () -> x.leave(0));
        x.setCharges(0, 1, 24, 7);
        check.due("5 gone", 8, () -> x.charge(0));
        check.due("5 gone by hours", 8, () -> x.chargeByHours(0));
        check.due("5 the sum stays", 58, () -> x.charged());
    }
}
