/** What a yard answers later on, as one text: two yards with the same text are alike. */
final class Later {
    private static final String[] YARD_ASKS = {"time", "moves", "charged", "usedShare", "meanWaiting", "nextBooked"};
    private static final String[] TRAILER_ASKS = {"punctuality", "laneOf", "blockers", "freeDoor", "fewestMoves",
        "fewestByOrders", "waited", "charge", "chargeByHours"};
    private static final int CHANGED_TRAILERS = 8;

    private final DockyardSlots x;
    private final StringBuilder text = new StringBuilder();

    private Later(DockyardSlots x) {
        this.x = x;
    }

    /** The answers to all that can be asked: 419 calls if 40 are booked. */
    static String asks(DockyardSlots x) {
        Later later = new Later(x);
        later.askAll();
        return later.text.toString();
    }

    /** The answers to changes of all kinds, and to what is asked between them: some 300 calls. */
    static String changes(DockyardSlots x) {
        Later later = new Later(x);
        later.makeAll();
        return later.text.toString();
    }

    private String call(String call) {
        String got = Script.answer(x, call);
        text.append(call).append(": ").append(got).append('\n');
        return got;
    }

    private void askAll() {
        for (String name : YARD_ASKS) {
            call(name);
        }
        for (int lane = 0; lane < 4; lane++) {
            for (int index = 0; index < 3; index++) {
                call("trailerAt " + lane + " " + index);
            }
        }
        for (int t = 0; t < 40 && !call("state " + t).startsWith("throws."); t++) {
            for (String name : TRAILER_ASKS) {
                call(name + " " + t);
            }
        }
    }

    private void makeAll() {
        call("pass 1");
        for (int t = 0; t < CHANGED_TRAILERS; t++) {
            call("leave " + t);
        }
        toEachPlace("dock");
        toEachPlace("shift");
        toEachPlace("arrive");
        call("nextBooked");
        call("pass 7");
        for (int t = 0; t < CHANGED_TRAILERS; t++) {
            call("charge " + t);
            call("punctuality " + t);
        }
        call("setTolerance 3");
        call("setCharges 1 7 2 11");
        call("book 999 c 2");
        call("addLane 2 true");
        call("addDoor b");
        toEachPlace("shift");
        toEachPlace("dock");
        call("pass 30");
        for (int t = 0; t < CHANGED_TRAILERS; t++) {
            call("leave " + t);
        }
        for (String name : YARD_ASKS) {
            call(name);
        }
    }

    private void toEachPlace(String name) {
        for (int t = 0; t < CHANGED_TRAILERS; t++) {
            for (int place = 0; place < 4; place++) {
                call(name + " " + t + " " + place);
            }
        }
    }
}
