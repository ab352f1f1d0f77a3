import java.util.ArrayList;
import java.util.List;

/**
 * Calls with boundary arguments in yards at their boundaries, each answered as by YardModel. Behind a call that is
 * refused, and behind one that only asks, all later calls answer as if it had not been made.
 */
public final class RefusedCallsTest extends Rows {
    private static final int[] TRAILERS = {Integer.MIN_VALUE, -1, 0, 1, 2, 3, 4, 5, 6, 7, 39, 40, Integer.MAX_VALUE};
    private static final int[] PLACES = {Integer.MIN_VALUE, -1, 0, 1, 2, 3, 4, Integer.MAX_VALUE};
    private static final String FULL_FACE = "addLane 3 true; addLane 2 false; addLane 1 true; addLane 3 true; "
        + "addDoor d; addDoor c; addDoor b; addDoor b; ";
    private static final String BOOKED = FULL_FACE + "book 0 d 1; book 0 c 2; book 0 d 9; book 1 c 1; book 2 d 1; "
        + "book 3 d 1; book 4 c 1; book 30 d 1; ";
    private static final String SIX = BOOKED + "arrive 0 0; arrive 1 0; arrive 2 0; arrive 3 3; arrive 4 1; "
        + "arrive 5 3; ";
    private static final String DOCKED = SIX + "pass 9; dock 2 0; dock 1 1; dock 0 2; dock 5 3; ";

    private static final String[] YARDS = {
        "",
        "addLane 1 false; book 0 d 1; book 0 c 1",
        "addLane 3 true *4",
        "addDoor d; addDoor c; addDoor b; addDoor b",
        "setTolerance 0; setCharges 0 99 0 99; " + BOOKED,
        SIX,
        SIX + "pass 8; setTolerance 9; setCharges 1 99 2 98",
        "addLane 3 true; addLane 2 true; addLane 1 true; book 0 c 1 *8; arrive 0 0; arrive 1 0; arrive 2 0; "
            + "arrive 3 1; arrive 4 1; arrive 5 2; pass 12",
        DOCKED,
        DOCKED + "pass 9",
        DOCKED + "pass 9; leave 2; leave 1; leave 0; leave 5; pass 20",
        "addLane 3 true; addLane 2 true; addLane 3 false; addLane 1 true; book 0 d 1; book 0 c 1 *2; book 0 d 1; "
            + "book 0 c 1; book 0 d 1; arrive 0 0; arrive 1 0; arrive 2 0; arrive 3 1; arrive 4 1; arrive 5 3",
        "addLane 3 true; addDoor b; book 0 d 1 *40; arrive 39 0; arrive 3 0; dock 3 0; pass 25",
        "addLane 1 true; book 999 d 1; pass 99 *10; pass 9; arrive 0 0",
        "addLane 1 true; book 999 d 1; book 999 c 1; pass 99 *10; pass 10; arrive 0 0",
    };

    private final List<String> changes = new ArrayList<>();
    private final List<String> asks = new ArrayList<>();

    public static void main(String[] args) {
        RefusedCallsTest test = new RefusedCallsTest();
        test.listChanges();
        test.listMoves();
        test.listAsks();
        for (String yard : YARDS) {
            test.tryAll(yard);
        }
        test.check.end();
    }

    private void listChanges() {
        for (int capacity : new int[] {Integer.MIN_VALUE, -1, 0, 1, 3, 4, Integer.MAX_VALUE}) {
            changes.add("addLane " + capacity + " true");
            changes.add("addLane " + capacity + " false");
        }
        for (String kind : new String[] {"d", "c", "b", "x", "#0", "#65535"}) {
            changes.add("addDoor " + kind);
        }
        for (int hours : new int[] {Integer.MIN_VALUE, -1, 0, 1, 9, 10, 99, 100, Integer.MAX_VALUE}) {
            changes.add("setTolerance " + hours);
            changes.add("pass " + hours);
        }
        for (int number : new int[] {Integer.MIN_VALUE, -1, 0, 24, 25, 99, 100, Integer.MAX_VALUE}) {
            changes.add("setCharges " + number + " 5 6 7");
            changes.add("setCharges 4 " + number + " 6 7");
            changes.add("setCharges 4 5 " + number + " 7");
            changes.add("setCharges 4 5 6 " + number);
        }
        for (int hour : new int[] {Integer.MIN_VALUE, -1, 0, 8, 9, 998, 999, 1000, Integer.MAX_VALUE}) {
            for (String kind : new String[] {"d", "c", "b", "#0"}) {
                for (int work : new int[] {Integer.MIN_VALUE, 0, 1, 9, 10}) {
                    changes.add("book " + hour + " " + kind + " " + work);
                }
            }
        }
    }

    private void listMoves() {
        for (int trailer : TRAILERS) {
            changes.add("leave " + trailer);
            for (int place : PLACES) {
                changes.add("arrive " + trailer + " " + place);
                changes.add("shift " + trailer + " " + place);
                changes.add("dock " + trailer + " " + place);
            }
        }
    }

    private void listAsks() {
        for (String name : new String[] {"nextBooked", "time", "moves", "charged", "usedShare", "meanWaiting"}) {
            asks.add(name);
        }
        for (String name : new String[] {"state", "punctuality", "laneOf", "blockers", "freeDoor", "fewestMoves",
            "fewestByOrders", "waited", "charge", "chargeByHours"}) {
            for (int trailer : TRAILERS) {
                asks.add(name + " " + trailer);
            }
        }
        for (int lane : PLACES) {
            for (int index : PLACES) {
                asks.add("trailerAt " + lane + " " + index);
            }
        }
    }

    private void tryAll(String yard) {
        String laterAsks = Later.asks(Script.yardAfter(yard));
        String laterChanges = Later.changes(Script.yardAfter(yard));
        for (String call : changes) {
            String due = tryOne(yard, call);
            if (due.startsWith("throws.")) {
                changesNothing("[" + yard + "] " + call, yard, call, laterAsks, laterChanges);
            }
        }
        for (String call : asks) {
            tryOne(yard, call);
            changesNothing("[" + yard + "] " + call, yard, call, laterAsks, laterChanges);
        }
    }

    /** Returns the answer that is due to the call. */
    private String tryOne(String yard, String call) {
        String due = Script.modelAnswer(yard, call);
        DockyardSlots x = Script.yardAfter(yard);
        check.due("[" + yard + "] " + call, due, () -> Script.answer(x, call));
        return due;
    }
}
