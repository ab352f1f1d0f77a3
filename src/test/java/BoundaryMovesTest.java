/** The sentences of promises 11 to 17 that name a boundary, on both sides of it. */
public final class BoundaryMovesTest extends Rows {
    /** Lane 0 with power, lane 1 for one trailer with power, lane 2 without power; a door of each kind. */
    private static final String YARD = "addLane 3 true; addLane 1 true; addLane 2 false; "
        + "addDoor d; addDoor c; addDoor b; ";

    /** Dry 0, cold 1 and dry 2 in lane 0, the last one nearest to the exit; dry 3 and cold 4 are booked. */
    private static final String THREE = YARD + "book 0 d 1; book 0 c 2; book 0 d 9; book 0 d 1; book 0 c 1; "
        + "arrive 0 0; arrive 1 0; arrive 2 0; ";

    public static void main(String[] args) {
        BoundaryMovesTest test = new BoundaryMovesTest();
        test.noSuchTrailer();
        test.notInALane();
        test.shiftNoSuchLane();
        test.shiftNotReached();
        test.shiftThisLane();
        test.shiftCannotCome();
        test.shiftFirstException();
        test.shiftReturnsMoves();
        test.dockNoSuchDoor();
        test.dockNotReached();
        test.dockUsedDoor();
        test.dockOtherKind();
        test.dockFirstException();
        test.dockReturnsTheHour();
        test.leaveNotAtADoor();
        test.leaveTooSoon();
        test.leaveFirstException();
        test.leaveReturnsItsCharge();
        test.laneOf();
        test.blockers();
        test.trailerAtNoSuchLane();
        test.trailerAtIndex();
        test.freeDoorLowest();
        test.freeDoorNone();
        test.freeDoorWherever();
        test.check.end();
    }

    private void noSuchTrailer() {
        String[] calls = {"shift T 1", "dock T 0", "leave T", "laneOf T", "blockers T", "freeDoor T"};
        int promise = 11;
        for (String call : calls) {
            about((promise == 16 ? 17 : promise) + ": NoSuchElementException if there is no such appointment.");
            row(YARD, call.replace("T", "0"), NSE);
            row(THREE, call.replace("T", "5"), NSE);
            for (int trailer : FAR) {
                row(THREE + "book 0 d 1 *35", call.replace("T", String.valueOf(trailer)), NSE);
            }
            promise++;
        }
        String last = YARD + "book 0 d 1 *40; arrive 39 0; ";
        about("11, 12, 14, 15, 17: .. the last appointment");
        row(last, "shift 39 1", 1);
        row(last, "dock 39 0", 1);
        row(last, "laneOf 39", 0);
        row(last, "blockers 39", 0);
        row(last, "freeDoor 39", 0);
        row(last + "dock 39 0; pass 1", "leave 39", 0);
    }

    private void notInALane() {
        String[] calls = {"shift 0 1", "dock 0 2", "laneOf 0", "blockers 0"};
        Object[] due = {1, 1, 0, 0};
        int[] promises = {11, 12, 14, 15};
        String one = YARD + "book 0 d 1; ";
        for (int i = 0; i < calls.length; i++) {
            about(promises[i] + ": IllegalStateException if the trailer is not in a lane.");
            row(one, calls[i], ISE);
            row(one + "pass 25", calls[i], ISE);
            row(one + "arrive 0 0", calls[i], due[i]);
            row(one + "arrive 0 0; dock 0 0", calls[i], ISE);
            row(one + "arrive 0 0; dock 0 2", calls[i], ISE);
            row(one + "arrive 0 0; dock 0 0; pass 1; leave 0", calls[i], ISE);
        }
    }

    private void shiftNoSuchLane() {
        about("11: IndexOutOfBoundsException if there is no such lane.");
        row(THREE, "shift 2 -1", IOB);
        row(THREE, "shift 2 1", 1);
        row(THREE, "shift 2 2", 1);
        row(THREE, "shift 2 3", IOB);
        row(THREE + "addLane 1 false", "shift 2 3", 1);
        row(THREE + "addLane 1 false", "shift 2 4", IOB);
        for (int lane : FAR) {
            row(THREE, "shift 2 " + lane, IOB);
        }
    }

    private void shiftNotReached() {
        about("11: IllegalStateException if the trailer .. is not reached.");
        row(THREE, "shift 0 2", ISE);
        row(THREE, "shift 1 1", ISE);
        row(THREE, "shift 2 1", 1);
        row(THREE + "shift 2 2", "shift 1 1", 2);
        row(THREE + "shift 2 2", "shift 0 1", ISE);
        row(THREE + "dock 2 0", "shift 1 1", 2);
        row(THREE + "dock 2 0; dock 1 1", "shift 0 1", 3);
        row(THREE + "dock 2 0; arrive 4 0", "shift 1 1", ISE);
    }

    private void shiftThisLane() {
        about("11: UnsupportedOperationException if it is in this lane ..");
        row(THREE, "shift 2 0", UOE);
        row(THREE + "dock 2 0", "shift 1 0", UOE);
        row(THREE + "shift 2 1", "shift 2 1", UOE);
        row(THREE + "shift 2 2", "shift 2 2", UOE);
        row(THREE + "shift 2 2", "shift 2 0", 2);
        row(THREE + "shift 2 2", "shift 2 1", 2);
    }

    private void shiftCannotCome() {
        about("11: UnsupportedOperationException if it .. cannot come into it.");
        row(THREE + "arrive 3 1", "shift 2 1", UOE);
        row(THREE + "arrive 3 1; shift 3 2", "shift 2 1", 2);
        row(THREE + "dock 2 0", "shift 1 2", UOE);
        row(THREE + "dock 2 0", "shift 1 1", 2);
        row(THREE + "arrive 3 2", "shift 2 2", 1);
        row(THREE + "book 0 d 1; arrive 3 2; arrive 5 2", "shift 2 2", UOE);
        row(THREE + "arrive 4 1", "shift 4 0", UOE);
        row(THREE + "arrive 4 1; shift 2 2", "shift 4 0", 2);
        row(THREE + "arrive 4 1", "shift 4 2", UOE);
    }

    private void shiftFirstException() {
        about("11: the exception that is documented first.");
        row(THREE, "shift 5 3", NSE);
        row(THREE + "arrive 3 1", "shift 5 1", NSE);
        row(THREE, "shift 3 3", IOB);
        row(THREE, "shift 0 3", IOB);
        row(THREE, "shift 0 0", ISE);
        row(THREE, "shift 1 2", ISE);
        row(THREE + "arrive 3 1", "shift 1 1", ISE);
        row(THREE, "shift 3 0", ISE);
        row(THREE, "shift 4 2", ISE);
        row(THREE + "dock 2 0", "shift 2 0", ISE);
    }

    private void shiftReturnsMoves() {
        about("11: Returns the number of moves of the tractor so far.");
        row(THREE, "shift 2 1", 1);
        row(THREE + "shift 2 1", "shift 2 0", 2);
        row(THREE + "dock 2 0", "shift 1 1", 2);
        row(THREE + "dock 2 0; dock 1 1; pass 9; leave 2; leave 1", "shift 0 1", 3);
        String forth = "shift 2 1; shift 2 0; ";
        row(THREE + forth.repeat(100), "shift 2 2", 201);
    }

    private void dockNoSuchDoor() {
        about("12: IndexOutOfBoundsException if there is no such door.");
        row(THREE, "dock 2 -1", IOB);
        row(THREE, "dock 2 0", 9);
        row(THREE, "dock 2 2", 9);
        row(THREE, "dock 2 3", IOB);
        row(THREE + "addDoor d", "dock 2 3", 9);
        row(THREE + "addDoor d", "dock 2 4", IOB);
        for (int door : FAR) {
            row(THREE, "dock 2 " + door, IOB);
        }
    }

    private void dockNotReached() {
        about("12: IllegalStateException if the trailer .. is not reached.");
        row(THREE, "dock 0 0", ISE);
        row(THREE, "dock 1 1", ISE);
        row(THREE, "dock 2 0", 9);
        row(THREE + "shift 2 1", "dock 1 1", 2);
        row(THREE + "shift 2 1", "dock 0 0", ISE);
        row(THREE + "shift 2 2; shift 1 1", "dock 0 0", 1);
        row(THREE + "dock 2 0; arrive 4 0", "dock 1 1", ISE);
    }

    private void dockUsedDoor() {
        about("12: UnsupportedOperationException if there is a trailer at the door ..");
        row(THREE + "dock 2 2", "dock 1 2", UOE);
        row(THREE + "dock 2 2", "dock 1 1", 2);
        row(THREE + "dock 2 2; pass 9", "dock 1 2", UOE);
        row(THREE + "dock 2 2; pass 9; leave 2", "dock 1 2", 11);
        row(THREE + "dock 2 0; dock 1 2", "dock 0 0", UOE);
        row(THREE + "dock 2 0; dock 1 1", "dock 0 2", 1);
    }

    private void dockOtherKind() {
        about("12: UnsupportedOperationException if .. the door is of another kind.");
        row(THREE, "dock 2 1", UOE);
        row(THREE, "dock 2 0", 9);
        row(THREE, "dock 2 2", 9);
        row(THREE + "shift 2 1", "dock 1 0", UOE);
        row(THREE + "shift 2 1", "dock 1 1", 2);
        row(THREE + "shift 2 1", "dock 1 2", 2);
    }

    private void dockFirstException() {
        about("12: the exception that is documented first.");
        row(THREE, "dock 5 3", NSE);
        row(THREE + "dock 2 0", "dock 5 0", NSE);
        row(THREE, "dock 3 3", IOB);
        row(THREE, "dock 0 3", IOB);
        row(THREE, "dock 3 1", ISE);
        row(THREE, "dock 0 1", ISE);
        row(THREE + "shift 2 2; dock 2 0", "dock 0 0", ISE);
        row(THREE + "dock 2 0", "dock 2 0", ISE);
        row(THREE + "dock 2 0", "dock 3 0", ISE);
        row(THREE + "dock 2 0; pass 9; leave 2", "dock 2 1", ISE);
    }

    private void dockReturnsTheHour() {
        about("12: Returns the hour in which the work is done: this one plus the hours of work.");
        row(THREE, "dock 2 0", 9);
        row(THREE + "pass 1", "dock 2 0", 10);
        row(THREE + "pass 99", "dock 2 0", 108);
        row(YARD + "book 999 c 1; arrive 0 0", "dock 0 1", 1);
        about("12: .. where work begins in this hour.");
        row(THREE + "pass 5; dock 2 0; pass 8", "leave 2", UOE);
        row(THREE + "pass 5; dock 2 0; pass 9", "leave 2", 90);
    }

    private void leaveNotAtADoor() {
        about("13: IllegalStateException if it is not at a door.");
        row(THREE, "leave 3", ISE);
        row(THREE + "pass 25", "leave 3", ISE);
        row(THREE, "leave 2", ISE);
        row(THREE + "pass 50", "leave 2", ISE);
        row(THREE + "dock 2 0; pass 9", "leave 2", 0);
        row(THREE + "dock 2 0; pass 9; leave 2", "leave 2", ISE);
    }

    private void leaveTooSoon() {
        about("13: UnsupportedOperationException if the hour in which the work is done has not come.");
        for (int work = 1; work <= 9; work++) {
            String docked = YARD + "pass 3; book 3 d " + work + "; arrive 0 0; dock 0 0; ";
            row(docked, "leave 0", UOE);
            if (work > 1) {
                row(docked + "pass " + (work - 1), "leave 0", UOE);
            }
            row(docked + "pass " + work, "leave 0", 0);
            row(docked + "pass " + (work + 1), "leave 0", 0);
        }
    }

    private void leaveFirstException() {
        about("13: the exception that is documented first.");
        row(THREE, "leave 2", ISE);
        row(THREE + "dock 2 0", "leave 1", ISE);
        row(THREE + "dock 2 0", "leave 5", NSE);
    }

    private void leaveReturnsItsCharge() {
        about("13: Returns its charge for waiting.");
        row(THREE + "pass 2; dock 2 0; pass 9", "leave 2", 0);
        row(THREE + "pass 3; dock 2 0; pass 9", "leave 2", 30);
        row(THREE + "pass 7; dock 2 0; pass 9", "leave 2", 170);
        row(THREE + "pass 7; dock 2 0; pass 99", "leave 2", 170);
        row(THREE + "pass 7; dock 2 0; pass 99; setTolerance 0", "leave 2", 170);
        String behind = YARD + "book 0 d 1; pass 1; arrive 0 0; pass 3; dock 0 0; pass 1; ";
        row(behind, "leave 0", 30);
        row(behind + "setTolerance 0", "leave 0", 0);
        about("13: .. leave its door and the yard: the door is free");
        row(THREE + "dock 2 0; pass 9; leave 2", "freeDoor 2", 0);
        row(THREE + "dock 2 0; pass 9; leave 2", "usedShare", 0.0f);
        row(THREE + "dock 2 0; pass 9; leave 2", "state 2", 'g');
    }

    private void laneOf() {
        about("14: Returns the number of the lane.");
        for (int trailer = 0; trailer < 3; trailer++) {
            row(THREE, "laneOf " + trailer, 0);
        }
        row(THREE + "shift 2 2", "laneOf 2", 2);
        row(THREE + "shift 2 2; shift 2 1", "laneOf 2", 1);
        row(THREE + "addLane 1 true; arrive 4 3", "laneOf 4", 3);
    }

    private void blockers() {
        about("15: Returns how many trailers are between a trailer and the exit of its lane.");
        row(THREE, "blockers 0", 2);
        row(THREE, "blockers 1", 1);
        row(THREE, "blockers 2", 0);
        row(THREE + "arrive 3 2; shift 2 2", "blockers 3", 1);
        row(THREE + "arrive 3 2; shift 2 2", "blockers 2", 0);
        row(THREE + "arrive 3 2; shift 2 2", "blockers 0", 1);
        row(THREE + "dock 2 0; dock 1 1", "blockers 0", 0);
        row(THREE + "dock 2 0; arrive 3 0", "blockers 0", 2);
    }

    private void trailerAtNoSuchLane() {
        about("16: IndexOutOfBoundsException if there is no such lane.");
        row(THREE, "trailerAt -1 0", IOB);
        row(THREE, "trailerAt 0 0", 2);
        row(THREE, "trailerAt 2 0", NSE);
        row(THREE, "trailerAt 3 0", IOB);
        row(THREE + "addLane 1 true", "trailerAt 3 0", NSE);
        row(THREE + "addLane 1 true; arrive 3 3", "trailerAt 3 0", 3);
        row(THREE + "addLane 1 true", "trailerAt 4 0", IOB);
        about("16: the exception that is documented first.");
        for (int number : FAR) {
            row(THREE, "trailerAt " + number + " 0", IOB);
            row(THREE, "trailerAt " + number + " " + number, IOB);
            row(THREE, "trailerAt 3 " + number, IOB);
        }
    }

    private void trailerAtIndex() {
        about("16: .. at an index, counted from the exit; NoSuchElementException if there is no such trailer.");
        row(THREE, "trailerAt 0 -1", NSE);
        row(THREE, "trailerAt 0 0", 2);
        row(THREE, "trailerAt 0 1", 1);
        row(THREE, "trailerAt 0 2", 0);
        row(THREE, "trailerAt 0 3", NSE);
        row(THREE, "trailerAt 1 0", NSE);
        row(THREE + "dock 2 0", "trailerAt 0 1", 0);
        row(THREE + "dock 2 0", "trailerAt 0 2", NSE);
        row(THREE + "shift 2 1", "trailerAt 1 0", 2);
        row(THREE + "shift 2 1", "trailerAt 1 1", NSE);
        for (int index : FAR) {
            row(THREE, "trailerAt 0 " + index, NSE);
            row(THREE, "trailerAt 2 " + index, NSE);
        }
    }

    private void freeDoorLowest() {
        about("17: Returns the free door with the lowest number that a trailer can be docked at.");
        String doors = "addLane 3 true; addDoor c; addDoor b; addDoor d; addDoor b; "
            + "book 0 d 1 *4; book 0 c 1 *4; ";
        row(doors, "freeDoor 0", 1);
        row(doors, "freeDoor 4", 0);
        row(doors + "arrive 0 0; dock 0 1", "freeDoor 1", 2);
        row(doors + "arrive 0 0; dock 0 1; arrive 1 0; dock 1 2", "freeDoor 2", 3);
        row(doors + "arrive 4 0; dock 4 0", "freeDoor 5", 1);
        row(doors + "arrive 4 0; dock 4 0; arrive 5 0; dock 5 1", "freeDoor 6", 3);
        row(doors + "arrive 4 0; dock 4 0; arrive 5 0; dock 5 1", "freeDoor 0", 2);
        row(doors + "arrive 0 0; dock 0 3", "freeDoor 1", 1);
        row(doors + "arrive 0 0; dock 0 1; pass 1", "freeDoor 1", 2);
        row(doors + "arrive 0 0; dock 0 1; pass 1; leave 0", "freeDoor 1", 1);
    }

    private void freeDoorNone() {
        about("17: IllegalStateException if there is no such door.");
        row("book 0 d 1", "freeDoor 0", ISE);
        row("addDoor c; book 0 d 1", "freeDoor 0", ISE);
        row("addDoor d; book 0 c 1", "freeDoor 0", ISE);
        row("addDoor c; addDoor d; book 0 d 1", "freeDoor 0", 1);
        String four = "addLane 3 true; addDoor d *4; book 0 d 1 *5; arrive 0 0; dock 0 0; arrive 1 0; dock 1 1; "
            + "arrive 2 0; dock 2 2; ";
        row(four, "freeDoor 4", 3);
        row(four + "arrive 3 0; dock 3 3", "freeDoor 4", ISE);
        row(four + "arrive 3 0; dock 3 3; pass 1; leave 3", "freeDoor 4", 3);
    }

    private void freeDoorWherever() {
        about("17: .. wherever the trailer is.");
        String one = "addLane 3 true; addDoor d; book 0 d 1; book 0 d 1; ";
        String[] places = {"", "pass 25", "arrive 0 0", "arrive 0 0; arrive 1 0"};
        for (String place : places) {
            row(one + place, "freeDoor 0", 0);
        }
        row(one + "arrive 0 0; dock 0 0", "freeDoor 0", ISE);
        row(one + "arrive 0 0; dock 0 0; addDoor b", "freeDoor 0", 1);
        row(one + "arrive 0 0; dock 0 0; pass 1; leave 0", "freeDoor 0", 0);
        row("addLane 1 true; addDoor c; book 0 d 1; arrive 0 0", "freeDoor 0", ISE);
        row("addDoor c; book 0 d 1; pass 25", "freeDoor 0", ISE);
    }
}
