/** The sentences of promises 18 and 19 that name a boundary, on both sides of it. */
public final class BoundaryFewestTest extends Rows {
    private static final String UP_TO_THREE = "addLane 3 true; addLane 3 true; addDoor b *4; book 0 d 1 *8; "
        + "arrive 0 0; arrive 1 0; arrive 2 0; ";

    public static void main(String[] args) {
        BoundaryFewestTest test = new BoundaryFewestTest();
        test.noSuchAppointment();
        test.notInALane();
        test.zeroIfReached();
        test.oneMoveForEachBlocker();
        test.noOtherRoom();
        test.noPower();
        test.roomIsMade();
        test.powerIsMade();
        test.fourMovesAreEnough();
        test.fiveMovesAreTooMany();
        test.firstException();
        test.nothingIsMoved();
        test.check.end();
    }

    private void noSuchAppointment() {
        about("18, 19: NoSuchElementException if there is no such appointment.");
        fewest("", 0, NSE);
        fewest(UP_TO_THREE, 8, NSE);
        String last = "addLane 1 true; book 0 d 1 *40; arrive 39 0";
        fewest(last, 39, 0);
        for (int trailer : FAR) {
            fewest(last, trailer, NSE);
        }
    }

    private void notInALane() {
        about("18, 19: IllegalStateException if it is not in a lane.");
        String one = "addLane 1 true; addDoor d; book 0 d 1; ";
        fewest(one, 0, ISE);
        fewest(one + "pass 25", 0, ISE);
        fewest(one + "arrive 0 0", 0, 0);
        fewest(one + "arrive 0 0; dock 0 0", 0, ISE);
        fewest(one + "arrive 0 0; dock 0 0; pass 1; leave 0", 0, ISE);
    }

    private void zeroIfReached() {
        about("18, 19: Returns the number of moves, 0 if it is reached.");
        fewest("addLane 1 false; book 0 d 1; arrive 0 0", 0, 0);
        fewest(UP_TO_THREE, 2, 0);
        fewest(UP_TO_THREE, 1, 1);
        fewest(UP_TO_THREE + "dock 2 0", 1, 0);
        fewest(UP_TO_THREE + "shift 2 1", 1, 0);
        fewest(UP_TO_THREE + "shift 2 1; shift 1 1", 0, 0);
        fewest(UP_TO_THREE + "shift 2 1; shift 1 1", 2, 1);
    }

    private void oneMoveForEachBlocker() {
        about("18, 19: Returns the fewest moves for a trailer.");
        fewest(UP_TO_THREE, 0, 2);
        fewest(UP_TO_THREE + "arrive 3 1", 0, 2);
        fewest(UP_TO_THREE + "arrive 3 1", 3, 0);
        fewest(UP_TO_THREE + "addLane 3 true; addLane 3 true", 0, 2);
    }

    private void noOtherRoom() {
        about("18, 19: UnsupportedOperationException if it cannot be reached: no room.");
        String three = "book 0 d 1 *6; arrive 0 0; arrive 1 0; arrive 2 0; ";
        fewest("addLane 3 true; " + three, 1, UOE);
        fewest("addLane 3 true; " + three, 2, 0);
        fewest("addLane 3 true; addLane 1 true; " + three, 1, 1);
        fewest("addLane 3 true; addLane 1 true; " + three, 0, UOE);
        fewest("addLane 3 true; addLane 2 true; " + three, 0, 2);
        fewest("addLane 3 true; addLane 2 true; " + three + "arrive 3 1", 0, UOE);
        fewest("addLane 3 true; addLane 1 true *2; " + three, 0, 2);
        String full = "addLane 3 true; addLane 1 true *3; " + three + "arrive 3 1; arrive 4 2; ";
        fewest(full, 1, 1);
        fewest(full, 0, UOE);
        fewest(full + "arrive 5 3", 1, UOE);
        fewest(full + "arrive 5 3", 2, 0);
    }

    private void noPower() {
        about("18, 19: UnsupportedOperationException if it cannot be reached: no power.");
        for (String kind : new String[] {"d", "c"}) {
            boolean isDry = kind.equals("d");
            String two = "book 0 d 1; book 0 " + kind + " 1; arrive 0 0; arrive 1 0";
            fewest("addLane 2 true; addLane 2 false; " + two, 0, isDry ? 1 : UOE);
            fewest("addLane 2 true; addLane 2 true; " + two, 0, 1);
            fewest("addLane 2 true; addLane 2 false *3; " + two, 0, isDry ? 1 : UOE);
            fewest("addLane 2 true; addLane 2 false *2; addLane 1 true; " + two, 0, 1);
        }
    }

    private void roomIsMade() {
        about("18, 19: .. of trailers from lanes to lanes: also of those in other lanes.");
        String before = "addLane 2 true; addLane 1 true; addLane SIZE false; book 0 d 1; book 0 c 1; book 0 d 1 *3; "
            + "arrive 0 0; arrive 1 0; arrive 2 1; ";
        String one = before.replace("SIZE", "1");
        fewest(one, 0, 2);
        fewest(one + "arrive 3 2", 0, UOE);
        String two = before.replace("SIZE", "2");
        fewest(two + "arrive 3 2", 0, 2);
        fewest(two + "arrive 3 2; arrive 4 2", 0, UOE);
    }

    private void powerIsMade() {
        about("18, 19: .. a trailer comes out of a lane with power for a cold one.");
        String yard = "addLane 3 true; addLane 1 true; addLane 1 true; addLane 3 false; book 0 d 1; book 0 c 1 *2; "
            + "book 0 d 1 *2; arrive 0 0; arrive 1 0; arrive 2 0; ";
        fewest(yard, 0, 2);
        fewest(yard + "arrive 3 1", 0, 3);
        fewest(yard + "arrive 3 2", 0, 3);
        fewest(yard + "arrive 3 1", 1, 1);
        fewest(yard + "arrive 3 1; arrive 4 2", 0, 4);
        fewest(yard + "arrive 3 1; arrive 4 2", 1, 2);
    }

    private void fourMovesAreEnough() {
        about("18, 19: .. with at most 4 moves.");
        String four = "addLane 3 true; addLane 2 true; addLane 3 false; book 0 d 1; book 0 c 1 *2; book 0 d 1 *3; "
            + "arrive 0 0; arrive 1 0; arrive 2 0; ";
        fewest(four, 0, 2);
        fewest(four + "arrive 3 1", 0, 3);
        fewest(four + "arrive 3 1; arrive 4 1", 0, 4);
        fewest(four + "arrive 3 1; arrive 4 1; arrive 5 2", 0, 4);
    }

    /** The three cold ones need all places with power, so that both dry ones have to leave them. */
    private void fiveMovesAreTooMany() {
        about("18, 19: UnsupportedOperationException if it cannot be reached with at most 4 moves.");
        String five = "addLane 3 true; addLane 2 true; addLane 3 false; addLane 1 true; book 0 d 1; book 0 c 1 *2; "
            + "book 0 d 1; book 0 c 1; book 0 d 1; "
            + "arrive 0 0; arrive 1 0; arrive 2 0; arrive 3 1; arrive 4 1; arrive 5 3; ";
        fewest(five, 0, UOE);
        fewest(five + "shift 5 2", 0, 4);
        fewest(five + "shift 5 2; shift 4 3", 0, 3);
        fewest(five + "shift 5 2; shift 4 3; shift 3 2", 0, 2);
        fewest(five + "shift 5 2; shift 4 3; shift 3 2; shift 2 1", 0, 1);
        fewest(five + "shift 5 2; shift 4 3; shift 3 2; shift 2 1; shift 1 1", 0, 0);
    }

    private void firstException() {
        about("18, 19: the exception that is documented first.");
        String noWay = "addLane 3 true; book 0 d 1 *3; arrive 0 0; arrive 1 0; ";
        fewest(noWay, 0, UOE);
        fewest(noWay, 2, ISE);
        fewest(noWay, 3, NSE);
    }

    private void nothingIsMoved() {
        about("18, 19: Returns ..: it moves nothing itself.");
        String before = UP_TO_THREE + "arrive 3 1; arrive 4 1; ";
        for (int trailer = 0; trailer < 5; trailer++) {
            changesNothing("18: fewestMoves " + trailer, before, "fewestMoves " + trailer);
            changesNothing("19: fewestByOrders " + trailer, before, "fewestByOrders " + trailer);
        }
    }
}
