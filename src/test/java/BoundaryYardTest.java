/** The sentences of promises 1 to 5 that name a boundary, on both sides of it. */
public final class BoundaryYardTest extends Rows {
    private static final int[] OUTSIDE = {Integer.MIN_VALUE, -2, -1, 100, Integer.MAX_VALUE};

    /** One trailer that has waited so long that all four charges count for it. */
    private static final String WAITING = "addLane 1 true; book 0 d 1; arrive 0 0; pass 60; ";

    public static void main(String[] args) {
        BoundaryYardTest test = new BoundaryYardTest();
        test.newYardIsEmpty();
        test.newYardsAreApart();
        test.capacityOfALane();
        test.numberOfALane();
        test.laneHoldsItsCapacity();
        test.laneHasPower();
        test.fourLanes();
        test.kindOfADoor();
        test.numberOfADoor();
        test.fourDoors();
        test.toleranceInRange();
        test.toleranceBefore();
        test.chargesInRange();
        test.freeHoursBefore();
        test.chargesCountAtOnce();
        test.chargesOfDockedTrailers();
        test.check.end();
    }

    private void newYardIsEmpty() {
        about("1: Creates a yard without lanes and doors, at the hour 0.");
        row("", "time", 0);
        row("", "trailerAt 0 0", IOB);
        row("", "usedShare", AE);
        row("", "meanWaiting", AE);
        row("", "nextBooked", NSE);
        row("", "state 0", NSE);
        row("", "moves", 0);
        row("", "charged", 0);
        row("", "addLane 1 true", 0);
        row("", "addDoor d", 0);
        row("", "book 0 d 1", 0);
        row("book 0 d 1", "arrive 0 0", IOB);
        row("book 0 d 1", "shift 0 0", IOB);
        row("book 0 d 1", "dock 0 0", IOB);
        row("book 0 d 1", "freeDoor 0", ISE);
    }

    private void newYardsAreApart() {
        about("1: Creates a yard ..");
        String untouched = Later.asks(new DockyardSlots());
        DockyardSlots first = new DockyardSlots();
        DockyardSlots second = new DockyardSlots();
        Later.changes(first);
        same("1: a new yard beside another one", untouched, Later.asks(second));
        same("1: a new yard behind another one", untouched, Later.asks(new DockyardSlots()));
    }

    private void capacityOfALane() {
        about("2: capacity: 1 to 3; IllegalArgumentException if the capacity is out of range.");
        for (String power : new String[] {" true", " false"}) {
            row("", "addLane 0" + power, IAE);
            row("", "addLane 1" + power, 0);
            row("", "addLane 2" + power, 0);
            row("", "addLane 3" + power, 0);
            row("", "addLane 4" + power, IAE);
            for (int capacity : OUTSIDE) {
                row("", "addLane " + capacity + power, IAE);
            }
        }
    }

    private void numberOfALane() {
        about("2: Returns the number of the lane.");
        row("", "addLane 2 true", 0);
        row("addLane 2 true", "addLane 1 false", 1);
        row("addLane 2 true *2", "addLane 3 true", 2);
        row("addLane 2 true *3", "addLane 2 true", 3);
        row("addDoor d *4; book 0 d 1 *5", "addLane 2 true", 0);
    }

    private void laneHoldsItsCapacity() {
        about("2: capacity: how many trailers it holds.");
        for (int capacity = 1; capacity <= 3; capacity++) {
            String before = "addLane " + capacity + " false; book 0 d 1 *4; ";
            for (int i = 0; i < capacity; i++) {
                row(before, "arrive " + i + " 0", 'o');
                before += "arrive " + i + " 0; ";
            }
            row(before, "arrive " + capacity + " 0", UOE);
            row(before, "trailerAt 0 " + (capacity - 1), 0);
            row(before, "trailerAt 0 " + capacity, NSE);
        }
    }

    private void laneHasPower() {
        about("2: hasPower: whether it has power.");
        row("addLane 1 true; book 0 c 1", "arrive 0 0", 'o');
        row("addLane 1 false; book 0 c 1", "arrive 0 0", UOE);
        row("addLane 1 true; book 0 d 1", "arrive 0 0", 'o');
        row("addLane 1 false; book 0 d 1", "arrive 0 0", 'o');
        row("addLane 1 true; addLane 1 false; book 0 c 1", "arrive 0 1", UOE);
        row("addLane 1 false; addLane 1 true; book 0 c 1", "arrive 0 1", 'o');
    }

    private void fourLanes() {
        about("2: IllegalStateException if there are 4 lanes.");
        row("addLane 1 true *3", "addLane 3 false", 3);
        row("addLane 1 true *4", "addLane 3 false", ISE);
        about("2: the exception that is documented first.");
        row("addLane 1 true *4", "addLane 0 true", IAE);
        row("addLane 1 true *4", "addLane 4 false", IAE);
    }

    private void kindOfADoor() {
        about("3: kind: 'd', 'c' or 'b'; IllegalArgumentException if there is no such kind.");
        for (char kind : new char[] {'d', 'c', 'b'}) {
            row("", "addDoor " + kind, 0);
        }
        for (int kind : new int[] {0, 1, 'a', 'e', 'B', 'C', 'D', 'y', 'w', 'x', 'b' + 256, 65535}) {
            row("", "addDoor #" + kind, IAE);
        }
        for (int kind = 0; kind <= 65535; kind++) {
            char sign = (char) kind;
            boolean isKind = sign == 'd' || sign == 'c' || sign == 'b';
            check.due("3: kind #" + kind, isKind ? 0 : IAE, () -> new DockyardSlots().addDoor(sign));
        }
    }

    private void numberOfADoor() {
        about("3: Returns the number of the door.");
        for (int count = 0; count < 4; count++) {
            row(count == 0 ? "" : "addDoor c *" + count, "addDoor b", count);
        }
        row("addLane 1 true *4; book 0 d 1 *5", "addDoor d", 0);
    }

    private void fourDoors() {
        about("3: IllegalStateException if there are 4 doors.");
        row("addDoor d *3", "addDoor d", 3);
        for (char kind : new char[] {'d', 'c', 'b'}) {
            row("addDoor d *4", "addDoor " + kind, ISE);
        }
        about("3: the exception that is documented first.");
        row("addDoor d *4", "addDoor x", IAE);
        row("addDoor d *4", "addDoor #0", IAE);
    }

    private void toleranceInRange() {
        about("4: hours: the tolerance, 0 to 9; IllegalArgumentException if the tolerance is out of range.");
        String before = "addLane 1 true; book 0 d 1; pass 1; arrive 0 0";
        row(before, "setTolerance -1", IAE);
        for (int hours = 0; hours <= 9; hours++) {
            row(before, "setTolerance " + hours, 1);
        }
        row(before, "setTolerance 10", IAE);
        for (int hours : OUTSIDE) {
            row(before, "setTolerance " + hours, IAE);
        }
    }

    private void toleranceBefore() {
        about("4: Returns the tolerance before.");
        row("", "setTolerance 1", 1);
        for (int hours = 0; hours <= 9; hours++) {
            row("setTolerance " + hours, "setTolerance 9", hours);
            row("setTolerance " + hours, "setTolerance 0", hours);
            row("setTolerance " + hours, "setTolerance 10", IAE);
            row("setTolerance " + hours, "setTolerance -1", IAE);
        }
        row("setTolerance 7; setTolerance 2", "setTolerance 5", 2);
    }

    private void chargesInRange() {
        about("5: free 0 to 24, first 0 to 99, hours 0 to 24, second 0 to 99; IllegalArgumentException if one is not.");
        int[] highest = {24, 99, 24, 99};
        for (int place = 0; place < 4; place++) {
            row(WAITING, charges(place, -1), IAE);
            row(WAITING, charges(place, 0), 2);
            row(WAITING, charges(place, 1), 2);
            row(WAITING, charges(place, highest[place] - 1), 2);
            row(WAITING, charges(place, highest[place]), 2);
            row(WAITING, charges(place, highest[place] + 1), IAE);
            for (int number : OUTSIDE) {
                row(WAITING, charges(place, number), IAE);
            }
        }
        row(WAITING, "setCharges 0 0 0 0", 2);
        row(WAITING, "setCharges 24 99 24 99", 2);
        row(WAITING, "setCharges 25 100 25 100", IAE);
        row(WAITING, "setCharges -1 -1 -1 -1", IAE);
    }

    /** Charges of which only the one at this place is at a boundary. */
    private static String charges(int place, int number) {
        StringBuilder text = new StringBuilder("setCharges");
        for (int i = 0; i < 4; i++) {
            text.append(' ').append(i == place ? number : 5 + i);
        }
        return text.toString();
    }

    private void freeHoursBefore() {
        about("5: Returns the hours that were free before.");
        row("", "setCharges 3 4 5 6", 2);
        for (int free : new int[] {0, 1, 23, 24}) {
            row("setCharges " + free + " 4 5 6", "setCharges 7 8 9 10", free);
            row("setCharges " + free + " 4 5 6", "setCharges 25 8 9 10", IAE);
        }
        row("setCharges 11 12 13 14; setCharges 15 16 17 18", "setCharges 0 0 0 0", 15);
    }

    private void chargesCountAtOnce() {
        about("5: Sets the charges for waiting; they count at once ..");
        charge(WAITING, 0, 4 * 30 + 54 * 50);
        charge(WAITING + "setCharges 24 1 24 0", 0, 24);
        charge(WAITING + "setCharges 24 99 24 99", 0, 36 * 99);
        charge(WAITING + "setCharges 0 0 0 0", 0, 0);
        charge(WAITING + "setCharges 0 0 0 1", 0, 60);
        charge(WAITING + "setCharges 0 1 24 0", 0, 24);
        charge(WAITING + "setCharges 24 7 0 1", 0, 36);
    }

    private void chargesOfDockedTrailers() {
        about("5: .. also for trailers that were docked.");
        String docked = "addDoor d; " + WAITING + "dock 0 0; pass 1; ";
        charge(docked + "setCharges 0 0 0 1", 0, 60);
        row(docked + "setCharges 0 0 0 1", "leave 0", 60);
        charge(docked + "leave 0; setCharges 0 0 0 1", 0, 60);
        row(docked + "leave 0; setCharges 0 0 0 1", "charged", 4 * 30 + 54 * 50);
        row(docked + "setCharges 0 0 0 1; leave 0; setCharges 0 0 0 2", "charged", 60);
    }
}
