/** The sentences of promises 20 to 28 that name a boundary, on both sides of it. */
public final class BoundaryHoursTest extends Rows {
    private static final String YARD = "addLane 3 true; addLane 3 true; addDoor b; addDoor b; addDoor b; ";
    private static final String ONE = YARD + "book 0 d 1; ";

    public static void main(String[] args) {
        BoundaryHoursTest test = new BoundaryHoursTest();
        test.hoursThatPass();
        test.passReturnsNoShows();
        test.noShowsOfEachHour();
        test.timeGoesOn();
        test.noSuchAppointment();
        test.notArrived();
        test.waitedHours();
        test.chargeUntilNow();
        test.bothChargesAreTheSame();
        test.movesToLanesAndDoors();
        test.refusedOnesAreNoMoves();
        test.chargedWhenTheyLeft();
        test.usedShareWithoutDoors();
        test.usedShareOfDoors();
        test.meanOfNone();
        test.meanOfThoseThatArrived();
        test.check.end();
    }

    private void hoursThatPass() {
        about("20: hours: 1 to 99; IllegalArgumentException if the number is out of range.");
        String before = ONE + "arrive 0 0; book 0 d 1; book 75 d 1; ";
        row(before, "pass 0", IAE);
        row(before, "pass 1", 0);
        row(before, "pass 99", 1);
        row(before, "pass 100", IAE);
        for (int hours : new int[] {Integer.MIN_VALUE, -1, -99, 101, Integer.MAX_VALUE}) {
            row(before, "pass " + hours, IAE);
        }
        for (int hours = 1; hours <= 99; hours++) {
            row("pass " + hours, "time", hours);
        }
    }

    private void passReturnsNoShows() {
        about("20: Returns the number of appointments that became no-shows.");
        row("", "pass 99", 0);
        row("book 0 d 1", "pass 24", 0);
        row("book 0 d 1", "pass 25", 1);
        row("book 0 d 1; pass 24", "pass 1", 1);
        row("book 0 d 1; pass 25", "pass 99", 0);
        row("book 74 d 1", "pass 98", 0);
        row("book 74 d 1", "pass 99", 1);
        row("book 75 d 1", "pass 99", 0);
        row("book 0 d 1 *40", "pass 24", 0);
        row("book 0 d 1 *40", "pass 25", 40);
        row("book 0 d 1; book 1 d 1; book 2 c 1", "pass 26", 2);
        row("book 0 d 1; book 1 d 1; book 2 c 1; pass 25", "pass 1", 1);
    }

    private void noShowsOfEachHour() {
        about("20: .. of those hours that pass, only once each.");
        String ten = "";
        for (int hour = 0; hour < 10; hour++) {
            ten += "book " + hour + " d 1; ";
        }
        for (int hours = 1; hours <= 40; hours++) {
            int noShows = Math.max(0, Math.min(10, hours - 24));
            row(ten, "pass " + hours, noShows);
            row(ten + "pass 27", "pass " + hours, Math.min(10, hours + 3) - 3);
        }
        row(ONE + "arrive 0 0", "pass 99", 0);
        row(ONE + "arrive 0 0; dock 0 0", "pass 99", 0);
        row(ONE + "arrive 0 0; dock 0 0; pass 1; leave 0", "pass 99", 0);
    }

    private void timeGoesOn() {
        about("21: Returns the time.");
        row("", "time", 0);
        row("pass 1; pass 99", "time", 100);
        row("pass 99 *10; pass 9", "time", 999);
        row("pass 99 *10; pass 10", "time", 1000);
        row("pass 99 *100", "time", 9900);
        row(ONE + "arrive 0 0; shift 0 1; dock 0 0", "time", 0);
    }

    private void noSuchAppointment() {
        String[] calls = {"waited ", "charge ", "chargeByHours "};
        for (int i = 0; i < calls.length; i++) {
            about((22 + i) + ": NoSuchElementException if there is no such appointment.");
            row("", calls[i] + 0, NSE);
            row(ONE + "arrive 0 0", calls[i] + 0, 0);
            row(ONE + "arrive 0 0", calls[i] + 1, NSE);
            row(YARD + "book 0 d 1 *40; arrive 39 0", calls[i] + 39, 0);
            for (int trailer : FAR) {
                row(YARD + "book 0 d 1 *40; arrive 39 0", calls[i] + trailer, NSE);
            }
        }
    }

    private void notArrived() {
        String[] calls = {"waited 0", "charge 0", "chargeByHours 0"};
        for (int i = 0; i < calls.length; i++) {
            about((22 + i) + ": IllegalStateException if it is booked, or a no-show.");
            row(ONE, calls[i], ISE);
            row(ONE + "pass 24", calls[i], ISE);
            row(ONE + "pass 25", calls[i], ISE);
            row(ONE + "arrive 0 0", calls[i], 0);
            row(ONE + "arrive 0 0; dock 0 0", calls[i], 0);
            row(ONE + "arrive 0 0; dock 0 0; pass 1; leave 0", calls[i], 0);
        }
    }

    private void waitedHours() {
        about("22: Returns for how many hours a trailer has waited.");
        for (int arrived = 8; arrived <= 12; arrived++) {
            String one = YARD + "book 10 d 1; pass " + arrived + "; arrive 0 0; ";
            int begin = Math.max(10, arrived);
            row(one, "waited 0", 0);
            for (int hours = 1; hours <= 5; hours++) {
                int waited = Math.max(0, arrived + hours - begin);
                row(one + "pass " + hours, "waited 0", waited);
                row(one + "pass " + hours + "; dock 0 0; pass 1", "waited 0", waited);
                row(one + "pass " + hours + "; dock 0 0; pass 1; leave 0; pass 9", "waited 0", waited);
            }
        }
        row(YARD + "book 0 d 1; arrive 0 0; pass 99 *400", "waited 0", 39600);
    }

    private void chargeUntilNow() {
        about("23, 24: Returns the charge for the waiting of a trailer until now.");
        charge(ONE + "arrive 0 0; pass 2", 0, 0);
        charge(ONE + "arrive 0 0; pass 3", 0, 30);
        charge(ONE + "arrive 0 0; pass 6", 0, 120);
        charge(ONE + "arrive 0 0; pass 7", 0, 170);
        charge(ONE + "arrive 0 0; pass 7; dock 0 0; pass 9", 0, 170);
        charge(ONE + "arrive 0 0; pass 7; dock 0 0; pass 9; leave 0; pass 9", 0, 170);
        charge(ONE + "arrive 0 0; pass 99 *400", 0, 120 + 39594 * 50);
        charge("setCharges 0 99 24 99; " + ONE + "arrive 0 0; pass 99 *400", 0, 39600 * 99);
    }

    private void bothChargesAreTheSame() {
        about("24: Returns the same charge, found hour by hour.");
        int[][] charges = {{0, 0, 0, 0}, {0, 99, 0, 1}, {24, 99, 24, 98}, {1, 7, 2, 11}, {0, 5, 24, 0}, {24, 0, 1, 9}};
        for (int[] each : charges) {
            for (int hours = 1; hours <= 52; hours++) {
                int paid = Math.max(0, hours - each[0]);
                int due = Math.min(paid, each[2]) * each[1] + Math.max(0, paid - each[2]) * each[3];
                charge("setCharges " + each[0] + " " + each[1] + " " + each[2] + " " + each[3] + "; " + ONE
                    + "arrive 0 0; pass " + hours, 0, due);
            }
        }
    }

    private void movesToLanesAndDoors() {
        about("25: Returns the number of moves, to lanes and to doors.");
        row("", "moves", 0);
        row(ONE + "arrive 0 0", "moves", 0);
        row(ONE + "arrive 0 0; shift 0 1", "moves", 1);
        row(ONE + "arrive 0 0; dock 0 0", "moves", 1);
        row(ONE + "arrive 0 0; shift 0 1; dock 0 0", "moves", 2);
        row(ONE + "arrive 0 0; shift 0 1; dock 0 0; pass 1; leave 0", "moves", 2);
        row(ONE + "arrive 0 0; " + "shift 0 1; shift 0 0; ".repeat(200), "moves", 400);
    }

    private void refusedOnesAreNoMoves() {
        about("25: .. a move that is refused is none.");
        String[] refused = {"shift 0 0", "shift 0 2", "shift 1 1", "dock 0 3", "dock 1 0", "dock 0 0"};
        String before = "addLane 3 true *2; addDoor c; addDoor b *2; book 0 d 1; book 0 d 1; arrive 0 0; ";
        for (String call : refused) {
            DockyardSlots x = Script.yardAfter(before);
            String got = Script.answer(x, call);
            check.due("25: " + call + " is refused", true, () -> got.startsWith("throws."));
            check.due("25: " + call + " is no move", 0, () -> x.moves());
        }
        row(before + "dock 0 1", "moves", 1);
    }

    private void chargedWhenTheyLeft() {
        about("26: Returns the sum of the charges that trailers had when they left.");
        String two = YARD + "book 0 d 1 *2; arrive 0 0; arrive 1 1; pass 3; dock 0 0; ";
        row("", "charged", 0);
        row(two + "pass 1", "charged", 0);
        row(two + "pass 1; leave 0", "charged", 30);
        row(two + "pass 1; leave 0; pass 3; dock 1 0; pass 1", "charged", 30);
        row(two + "pass 1; leave 0; pass 3; dock 1 0; pass 1; leave 1", "charged", 30 + 170);
        row(two + "pass 1; leave 0; setCharges 0 99 0 99", "charged", 30);
        row(two + "pass 1; setCharges 0 99 0 99; leave 0", "charged", 3 * 99);
        row(two + "pass 1; leave 0; setTolerance 0", "charged", 30);
        row("setTolerance 0; " + two + "pass 1; leave 0", "charged", 30);
        String late = YARD + "book 0 d 1; pass 2; arrive 0 0; pass 50; dock 0 0; pass 1; ";
        row(late + "leave 0", "charged", 0);
        row(late + "leave 0; setTolerance 2", "charged", 0);
        row(late + "setTolerance 2; leave 0", "charged", 120 + 44 * 50);
        about("26: .. a trailer that is refused to leave has not left");
        DockyardSlots x = Script.yardAfter(two);
        check.due("26: refused", UOE, () -> Script.answer(x, "leave 0"));
        check.due("26: refused adds nothing", 0L, () -> x.charged());
    }

    private void usedShareWithoutDoors() {
        about("27: ArithmeticException if there are no doors.");
        row("", "usedShare", AE);
        row("addLane 1 true; book 0 d 1; arrive 0 0", "usedShare", AE);
        row("addDoor d", "usedShare", 0.0f);
    }

    private void usedShareOfDoors() {
        about("27: Returns the number of these doors divided by that of all doors, both converted to float.");
        for (int doors = 1; doors <= 4; doors++) {
            String before = "addLane 3 true; addLane 3 true; addDoor b *" + doors + "; book 0 d 2 *4; ";
            for (int used = 0; used <= doors; used++) {
                row(before, "usedShare", (float) used / (float) doors);
                before += used < doors ? "arrive " + used + " 0; dock " + used + " " + used + "; " : "";
            }
            row(before + "pass 2", "usedShare", 1.0f);
            row(before + "pass 2; leave 0", "usedShare", (float) (doors - 1) / (float) doors);
        }
    }

    private void meanOfNone() {
        about("28: ArithmeticException if none has arrived.");
        row("", "meanWaiting", AE);
        row(ONE, "meanWaiting", AE);
        row(ONE + "pass 25", "meanWaiting", AE);
        row(ONE + "arrive 0 0", "meanWaiting", 0.0);
    }

    private void meanOfThoseThatArrived() {
        about("28: Returns the mean waiting of all trailers that have arrived, gone or not.");
        String three = YARD + "book 0 d 1 *4; arrive 0 0; arrive 1 0; pass 1; arrive 2 1; ";
        row(three, "meanWaiting", 2.0 / 3.0);
        row(three + "pass 1", "meanWaiting", 5.0 / 3.0);
        row(three + "dock 2 0; pass 1", "meanWaiting", 4.0 / 3.0);
        row(three + "dock 2 0; pass 1; leave 2", "meanWaiting", 4.0 / 3.0);
        row(three + "pass 1; arrive 3 1", "meanWaiting", 5.0 / 4.0);
        row(three + "pass 24", "meanWaiting", 74.0 / 3.0);
        String forty = YARD;
        for (int t = 0; t < 40; t++) {
            forty += "book " + 2 * t + " d 1; arrive " + t + " 0; pass 1; dock " + t + " 0; pass 1; leave " + t + "; ";
        }
        row(forty, "meanWaiting", 1.0);
        row(YARD + "book 0 d 1; arrive 0 0; pass 99 *400", "meanWaiting", 39600.0);
    }
}
