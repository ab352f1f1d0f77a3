/** Promises 20 to 28: pass, time, waited, charge, chargeByHours, moves, charged, usedShare, meanWaiting. */
public final class HoursAndChargesTest {
    private static final int[] NO_NUMBERS = {Integer.MIN_VALUE, -1, 40, Integer.MAX_VALUE};

    public static void main(String[] args) {
        Check check = new Check();
        passAndTime(check);
        waited(check);
        chargeRefuses(check);
        chargesBySteps(check);
        chargesByHoursAgree(check);
        movesAndCharged(check);
        usedShare(check);
        meanWaiting(check);
        manyHours(check);
        check.end();
    }

    private static void charge(Check check, String what, Object want, DockyardSlots x, int trailer) {
        check.due("23 " + what, want, () -> x.charge(trailer));
        check.due("24 " + what, want, () -> x.chargeByHours(trailer));
    }

    private static void passAndTime(Check check) {
        DockyardSlots x = new DockyardSlots();
        x.addLane(3, true);
        for (int hours : new int[] {0, 100, -1, Integer.MIN_VALUE, Integer.MAX_VALUE}) {
            check.illegalArgument("20 hours " + hours, () -> x.pass(hours));
        }
        check.due("21 at first", 0, () -> x.time());
        check.due("20 one hour", 0, () -> x.pass(1));
        check.due("21 one hour", 1, () -> x.time());
        x.book(1, 'd', 1);
        x.book(1, 'd', 1);
        x.book(2, 'd', 1);
        x.book(60, 'd', 1);
        x.book(1, 'd', 1);
        x.arrive(4, 0);
        check.due("20 24 hours ago", 0, () -> x.pass(24));
        check.due("21 more", 25, () -> x.time());
        check.due("20 25 hours ago", 2, () -> x.pass(1));
        check.due("20 only once", 1, () -> x.pass(1));
        check.due("20 none", 0, () -> x.pass(1));
        check.due("20 arrived ones do not", 'y', () -> x.state(4));
        check.due("20 most hours", 1, () -> x.pass(99));
        check.due("21 most hours", 127, () -> x.time());
        check.due("20 state", 'n', () -> x.state(3));
    }

    private static void waited(Check check) {
        DockyardSlots x = new DockyardSlots();
        x.addLane(3, true);
        x.addDoor('b');
        x.book(3, 'd', 2);
        x.book(0, 'd', 1);
        x.book(0, 'd', 1);
        x.book(3, 'd', 1);
        for (int number : NO_NUMBERS) {
            check.noSuchElement("22 trailer " + number, () -> x.waited(number));
        }
        check.illegalState("22 booked", () -> x.waited(0));
        x.arrive(0, 0);
        check.due("22 not begun", 0, () -> x.waited(0));
        x.pass(2);
        check.due("22 not begun", 0, () -> x.waited(0));
        x.arrive(1, 0);
        check.due("22 from its arrival", 0, () -> x.waited(1));
        x.pass(1);
        check.due("22 begins", 0, () -> x.waited(0));
        check.due("22 one hour", 1, () -> x.waited(1));
        x.pass(4);
        check.due("22 from its hour", 4, () -> x.waited(0));
        check.due("22 five hours", 5, () -> x.waited(1));
        x.dock(1, 0);
        x.pass(3);
        check.due("22 until it is docked", 5, () -> x.waited(1));
        x.leave(1);
        x.pass(1);
        check.due("22 when it is gone", 5, () -> x.waited(1));
        check.due("22 the other goes on", 8, () -> x.waited(0));
        x.pass(17);
        check.illegalState("22 no-show", () -> x.waited(2));
        DockyardSlots early = new DockyardSlots();
        early.addLane(1, false);
        early.addDoor('d');
        early.book(9, 'd', 1);
        early.arrive(0, 0);
        early.pass(2);
        early.dock(0, 0);
        check.due("22 docked before its hour", 0, () -> early.waited(0));
        early.pass(30);
        check.due("22 and still none", 0, () -> early.waited(0));
        check.due("22 nothing to pay", 0, () -> early.leave(0));
    }

    private static void chargeRefuses(Check check) {
        DockyardSlots x = new DockyardSlots();
        x.book(3, 'd', 2);
        for (int number : NO_NUMBERS) {
            charge(check, "trailer " + number, "throws.NoSuchElementException", x, number);
        }
        charge(check, "booked", "throws.IllegalStateException", x, 0);
        x.pass(28);
        charge(check, "no-show", "throws.IllegalStateException", x, 0);
    }

    private static void chargesBySteps(Check check) {
        DockyardSlots x = new DockyardSlots();
        x.addLane(3, true);
        x.book(0, 'd', 1);
        x.book(0, 'd', 1);
        x.book(2, 'd', 1);
        x.arrive(0, 0);
        int[] due = {0, 0, 0, 30, 60, 90, 120, 170, 220};
        for (int hour = 0; hour < due.length; hour++) {
            charge(check, "hour " + hour, due[hour], x, 0);
            if (hour == 1) {
                x.arrive(1, 0);
            }
            if (hour == 4) {
                x.arrive(2, 0);
            }
            x.pass(1);
        }
        charge(check, "an hour behind is on time, 8 hours", 220, x, 1);
        x.pass(20);
        charge(check, "late is free", 0, x, 2);
        x.setCharges(0, 99, 0, 10);
        charge(check, "the second rate only", 290, x, 0);
        x.setCharges(24, 99, 24, 10);
        charge(check, "the first rate only", 5 * 99, x, 0);
        x.setCharges(24, 0, 1, 10);
        charge(check, "a first rate of 0", 40, x, 0);
        x.setCharges(0, 7, 24, 0);
        charge(check, "a second rate of 0", 168, x, 0);
    }

    private static void chargesByHoursAgree(Check check) {
        for (int free = 0; free <= 24; free += 6) {
            for (int paid = 0; paid <= 24; paid += 4) {
                DockyardSlots x = new DockyardSlots();
                x.addLane(1, false);
                x.book(5, 'd', 1);
                x.arrive(0, 0);
                x.setCharges(free, 13, paid, 29);
                for (int hour = 0; hour < 60; hour++) {
                    int sum = 0;
                    for (int h = 1; h <= hour - 5; h++) {
                        sum += h <= free ? 0 : h <= free + paid ? 13 : 29;
                    }
                    charge(check, free + " free, " + paid + " paid, hour " + hour, sum, x, 0);
                    x.pass(1);
                }
            }
        }
    }

    private static void movesAndCharged(Check check) {
        DockyardSlots x = new DockyardSlots();
        x.addLane(3, true);
        x.addLane(3, true);
        x.addDoor('b');
        check.due("25 at first", 0, () -> x.moves());
        check.due("26 at first", 0, () -> x.charged());
        x.book(0, 'd', 1);
        x.book(0, 'd', 1);
        x.arrive(0, 0);
        x.arrive(1, 0);
        check.due("25 arrivals do not count", 0, () -> x.moves());
        x.shift(1, 1);
        check.due("25 to a lane", 1, () -> x.moves());
        check.unsupported("25 refused", () -> x.shift(1, 1));
        check.due("25 refused ones do not count", 1, () -> x.moves());
        x.pass(3);
        x.dock(0, 0);
        check.due("25 to a door", 2, () -> x.moves());
        x.pass(1);
        check.due("26 not before it leaves", 0, () -> x.charged());
        x.leave(0);
        check.due("25 leaving does not count", 2, () -> x.moves());
        check.due("26 the first", 30, () -> x.charged());
        x.dock(1, 0);
        x.pass(1);
        x.leave(1);
        check.due("26 the sum", 90, () -> x.charged());
        x.setCharges(0, 0, 0, 0);
        check.due("26 as they were when they left", 90, () -> x.charged());
        check.due("23 but not the charge", 0, () -> x.charge(1));
    }

    private static void usedShare(Check check) {
        DockyardSlots x = new DockyardSlots();
        x.addLane(3, true);
        check.arithmetic("27 no doors", () -> x.usedShare());
        x.addDoor('d');
        check.due("27 none of one", 0.0f, () -> x.usedShare());
        x.addDoor('b');
        x.addDoor('c');
        x.book(0, 'd', 1);
        x.book(0, 'd', 1);
        x.arrive(0, 0);
        x.arrive(1, 0);
        check.due("27 none of three", 0.0f, () -> x.usedShare());
        x.dock(1, 1);
        check.due("27 one of three", 1.0f / 3.0f, () -> x.usedShare());
        x.dock(0, 0);
        check.due("27 two of three", 2.0f / 3.0f, () -> x.usedShare());
        x.addDoor('b');
        check.due("27 two of four", 0.5f, () -> x.usedShare());
        x.pass(1);
        x.leave(1);
        check.due("27 one of four", 0.25f, () -> x.usedShare());
    }

    private static void meanWaiting(Check check) {
        DockyardSlots x = new DockyardSlots();
        x.addLane(3, true);
        x.addDoor('b');
        check.arithmetic("28 none", () -> x.meanWaiting());
        x.book(0, 'd', 1);
        x.book(0, 'd', 1);
        x.book(4, 'd', 1);
        x.book(0, 'd', 1);
        check.arithmetic("28 none arrived", () -> x.meanWaiting());
        x.arrive(0, 0);
        check.due("28 none waited", 0.0, () -> x.meanWaiting());
        x.pass(1);
        check.due("28 one", 1.0, () -> x.meanWaiting());
        x.arrive(1, 0);
        x.arrive(2, 0);
        check.due("28 one of three", 1.0 / 3.0, () -> x.meanWaiting());
        x.pass(4);
        check.due("28 three", 10.0 / 3.0, () -> x.meanWaiting());
        x.dock(2, 0);
        x.pass(1);
        x.leave(2);
        check.due("28 a gone one counts", 12.0 / 3.0, () -> x.meanWaiting());
        x.pass(20);
        check.due("28 a no-show does not", 'n', () -> x.state(3));
        check.due("28 a no-show does not", 52.0 / 3.0, () -> x.meanWaiting());
    }

    private static void manyHours(Check check) {
        DockyardSlots x = new DockyardSlots();
        x.addLane(1, false);
        x.book(0, 'd', 1);
        x.arrive(0, 0);
        x.setCharges(0, 99, 24, 99);
        for (int i = 0; i < 500; i++) {
            x.pass(99);
        }
        check.due("21 many hours", 49500, () -> x.time());
        check.due("22 many hours", 49500, () -> x.waited(0));
        charge(check, "many hours", 49500 * 99, x, 0);
        check.due("28 many hours", 49500.0, () -> x.meanWaiting());
    }
}
