/** The sentences of promises 6 to 10 that name a boundary, on both sides of it. */
public final class BoundaryAppointmentsTest extends Rows {
    private static final int[] OUTSIDE = {Integer.MIN_VALUE, -1, 1000, Integer.MAX_VALUE};
    private static final String YARD = "addLane 1 false; addLane 3 true; addLane 3 true; addDoor b; ";

    public static void main(String[] args) {
        BoundaryAppointmentsTest test = new BoundaryAppointmentsTest();
        test.hourOfABooking();
        test.lastHoursOfABooking();
        test.kindOfABooking();
        test.workOfABooking();
        test.workThatWasBooked();
        test.numberOfABooking();
        test.fortyBookings();
        test.arriveNoSuchAppointment();
        test.arriveNoSuchLane();
        test.arriveNotBooked();
        test.arriveSixInLanes();
        test.arriveCannotCome();
        test.arriveFirstException();
        test.arriveReturnsPunctuality();
        test.stateNoSuchAppointment();
        test.stateOfEachKind();
        test.punctualityNoSuchAppointment();
        test.punctualityNotArrived();
        test.punctualityByTheToleranceOfNow();
        test.punctualityStays();
        test.nextBookedEarliest();
        test.nextBookedLowestNumber();
        test.nextBookedNone();
        test.check.end();
    }

    private void hourOfABooking() {
        about("6: hour: this one or a later one, at most 999; IllegalArgumentException if the hour is out of range.");
        for (int now : new int[] {1, 5, 99}) {
            row("pass " + now, "book " + (now - 1) + " d 1", IAE);
            row("pass " + now, "book " + now + " d 1", 0);
            row("pass " + now, "book " + (now + 1) + " d 1", 0);
        }
        row("", "book -1 d 1", IAE);
        row("", "book 0 d 1", 0);
        row("", "book 998 d 1", 0);
        row("", "book 999 d 1", 0);
        row("", "book 1000 d 1", IAE);
        for (int hour : OUTSIDE) {
            row("", "book " + hour + " c 9", IAE);
            row("pass 7", "book " + hour + " c 9", IAE);
        }
    }

    private void lastHoursOfABooking() {
        about("6: .. this one or a later one, at most 999");
        row("pass 99 *10; pass 8", "book 997 d 1", IAE);
        row("pass 99 *10; pass 8", "book 998 d 1", 0);
        row("pass 99 *10; pass 8", "book 999 d 1", 0);
        row("pass 99 *10; pass 9", "book 998 d 1", IAE);
        row("pass 99 *10; pass 9", "book 999 d 1", 0);
        row("pass 99 *10; pass 9", "book 1000 d 1", IAE);
        row("pass 99 *10; pass 10", "book 999 d 1", IAE);
        row("pass 99 *10; pass 10", "book 1000 d 1", IAE);
        row("pass 99 *10; pass 11", "book 1001 d 1", IAE);
    }

    private void kindOfABooking() {
        about("6: kind: 'd' or 'c'; IllegalArgumentException if there is no such kind.");
        row("", "book 0 d 1", 0);
        row("", "book 0 c 1", 0);
        row("", "book 0 b 1", IAE);
        row("", "book 0 e 1", IAE);
        row("", "book 0 #0 1", IAE);
        row("", "book 0 #65535 1", IAE);
        for (int kind = 0; kind <= 65535; kind++) {
            char sign = (char) kind;
            check.due("6: kind #" + kind, sign == 'd' || sign == 'c' ? 0 : IAE,
                () -> new DockyardSlots().book(0, sign, 1));
        }
    }

    private void workOfABooking() {
        about("6: work: the hours of work, 1 to 9; IllegalArgumentException if the work is out of range.");
        row("", "book 0 d 0", IAE);
        for (int work = 1; work <= 9; work++) {
            row("", "book 0 d " + work, 0);
        }
        row("", "book 0 d 10", IAE);
        for (int work : OUTSIDE) {
            row("", "book 0 c " + work, IAE);
        }
    }

    private void workThatWasBooked() {
        about("6: work: the hours of work.");
        for (int work = 1; work <= 9; work++) {
            row(YARD + "pass 3; book 3 d " + work + "; arrive 0 0", "dock 0 0", 3 + work);
        }
    }

    private void numberOfABooking() {
        about("6: Returns the number of the appointment.");
        row("", "book 9 d 1", 0);
        row("book 9 d 1", "book 3 c 2", 1);
        row(YARD + "book 0 d 1; arrive 0 0", "book 0 d 1", 1);
        row("book 0 d 1; pass 25", "book 25 d 1", 1);
        row(YARD + "book 0 d 1; arrive 0 0; dock 0 0; pass 1; leave 0", "book 1 d 1", 1);
    }

    private void fortyBookings() {
        about("6: IllegalStateException if 40 appointments have been booked.");
        row("book 0 d 1 *39", "book 0 d 1", 39);
        row("book 0 d 1 *40", "book 0 d 1", ISE);
        row("book 0 d 1 *40", "book 999 c 9", ISE);
        row("book 0 d 1 *40; pass 99", "book 99 d 1", ISE);
        about("6: the exception that is documented first.");
        row("book 0 d 1 *40", "book 1000 d 1", IAE);
        row("book 0 d 1 *40; pass 1", "book 0 d 1", IAE);
        row("book 0 d 1 *40", "book 0 b 1", IAE);
        row("book 0 d 1 *40", "book 0 d 0", IAE);
        row("book 0 d 1 *40", "book 0 d 10", IAE);
    }

    private void arriveNoSuchAppointment() {
        about("7: NoSuchElementException if there is no such appointment.");
        row(YARD, "arrive 0 0", NSE);
        row(YARD + "book 0 d 1 *2", "arrive 1 0", 'o');
        row(YARD + "book 0 d 1 *2", "arrive 2 0", NSE);
        row(YARD + "book 0 d 1 *40", "arrive 39 0", 'o');
        for (int trailer : FAR) {
            row(YARD + "book 0 d 1 *40", "arrive " + trailer + " 0", NSE);
        }
    }

    private void arriveNoSuchLane() {
        about("7: IndexOutOfBoundsException if there is no such lane.");
        row(YARD + "book 0 d 1", "arrive 0 -1", IOB);
        row(YARD + "book 0 d 1", "arrive 0 0", 'o');
        row(YARD + "book 0 d 1", "arrive 0 2", 'o');
        row(YARD + "book 0 d 1", "arrive 0 3", IOB);
        row(YARD + "addLane 1 true; book 0 d 1", "arrive 0 3", 'o');
        row(YARD + "addLane 1 true; book 0 d 1", "arrive 0 4", IOB);
        for (int lane : FAR) {
            row(YARD + "book 0 d 1", "arrive 0 " + lane, IOB);
        }
    }

    private void arriveNotBooked() {
        about("7: IllegalStateException if the appointment is not booked ..");
        row(YARD + "book 0 d 1; arrive 0 1", "arrive 0 1", ISE);
        row(YARD + "book 0 d 1; arrive 0 1", "arrive 0 2", ISE);
        row(YARD + "book 0 d 1; arrive 0 1; dock 0 0", "arrive 0 1", ISE);
        row(YARD + "book 0 d 1; arrive 0 1; dock 0 0; pass 1; leave 0", "arrive 0 1", ISE);
        row(YARD + "book 0 d 1; pass 24", "arrive 0 1", 'l');
        row(YARD + "book 0 d 1; pass 25", "arrive 0 1", ISE);
    }

    private void arriveSixInLanes() {
        about("7: .. or there are 6 trailers in lanes.");
        String five = YARD + "book 0 d 1 *8; arrive 0 1; arrive 1 1; arrive 2 1; arrive 3 2; arrive 4 2; ";
        row(five, "arrive 5 2", 'o');
        row(five, "arrive 5 0", 'o');
        row(five + "arrive 5 2", "arrive 6 0", ISE);
        row(five + "arrive 5 0", "arrive 6 2", ISE);
        row(five + "arrive 5 2; dock 5 0", "arrive 6 0", 'o');
        row(five + "arrive 5 2; dock 5 0; arrive 6 0", "arrive 7 2", ISE);
    }

    private void arriveCannotCome() {
        about("7: UnsupportedOperationException if it cannot come into the lane.");
        row(YARD + "book 0 d 1", "arrive 0 0", 'o');
        row(YARD + "book 0 c 1", "arrive 0 0", UOE);
        row(YARD + "book 0 c 1", "arrive 0 1", 'o');
        row(YARD + "book 0 d 1 *2; arrive 1 0", "arrive 0 0", UOE);
        row(YARD + "book 0 d 1 *2; arrive 1 0; dock 1 0", "arrive 0 0", 'o');
        row(YARD + "book 0 d 1 *2; arrive 1 0; shift 1 1", "arrive 0 0", 'o');
        row(YARD + "book 0 c 1 *4; arrive 0 1; arrive 1 1", "arrive 2 1", 'o');
        row(YARD + "book 0 c 1 *4; arrive 0 1; arrive 1 1; arrive 2 1", "arrive 3 1", UOE);
    }

    private void arriveFirstException() {
        about("7: the exception that is documented first.");
        String six = YARD + "book 0 d 1 *8; book 0 c 1; arrive 0 1; arrive 1 1; arrive 2 1; arrive 3 2; arrive 4 2; ";
        row(YARD + "book 0 d 1", "arrive 1 3", NSE);
        row(six + "arrive 5 0", "arrive 9 0", NSE);
        row(YARD + "book 0 d 1; arrive 0 0", "arrive 1 0", NSE);
        row(YARD + "book 0 d 1; arrive 0 0", "arrive 0 3", IOB);
        row(six + "arrive 5 0", "arrive 6 3", IOB);
        row(YARD + "book 0 d 1; arrive 0 0", "arrive 0 0", ISE);
        row(YARD + "book 0 c 1; pass 25", "arrive 0 0", ISE);
        row(six + "arrive 5 0", "arrive 6 0", ISE);
        row(six + "arrive 5 2", "arrive 8 0", ISE);
    }

    private void arriveReturnsPunctuality() {
        about("7: Returns its punctuality, 'e', 'o' or 'l'.");
        String one = YARD + "book 50 c 1; pass ";
        row(one + 48, "arrive 0 1", 'e');
        row(one + 49, "arrive 0 1", 'o');
        row(one + 51, "arrive 0 1", 'o');
        row(one + 52, "arrive 0 1", 'l');
        row(one + "48; setTolerance 2", "arrive 0 1", 'o');
        row(one + "52; setTolerance 2", "arrive 0 1", 'o');
        row(one + "49; setTolerance 0", "arrive 0 1", 'e');
        row(one + "51; setTolerance 0", "arrive 0 1", 'l');
        row(one + 74, "arrive 0 1", 'l');
    }

    private void stateNoSuchAppointment() {
        about("8: NoSuchElementException if there is no such appointment.");
        row("", "state 0", NSE);
        row("book 0 d 1 *3", "state 2", 'b');
        row("book 0 d 1 *3", "state 3", NSE);
        row("book 0 d 1 *40", "state 39", 'b');
        for (int trailer : FAR) {
            row("book 0 d 1 *40", "state " + trailer, NSE);
        }
    }

    private void stateOfEachKind() {
        about("8: Returns 'b', 'y', 'w', 'g' or 'n'.");
        String two = YARD + "book 0 c 3; book 0 d 1; arrive 0 1; ";
        row(two, "state 0", 'y');
        row(two, "state 1", 'b');
        row(two + "shift 0 2", "state 0", 'y');
        row(two + "dock 0 0; pass 3", "state 0", 'w');
        row(two + "dock 0 0; pass 3; leave 0", "state 0", 'g');
        row(two + "pass 24", "state 1", 'b');
        row(two + "pass 25", "state 1", 'n');
        row(two + "pass 99; pass 99", "state 1", 'n');
        row(two + "pass 99; pass 99", "state 0", 'y');
    }

    private void punctualityNoSuchAppointment() {
        about("9: NoSuchElementException if there is no such appointment.");
        row("", "punctuality 0", NSE);
        row(YARD + "book 0 d 1; arrive 0 0", "punctuality 0", 'o');
        row(YARD + "book 0 d 1; arrive 0 0", "punctuality 1", NSE);
        row(YARD + "book 0 d 1 *40; arrive 39 0", "punctuality 39", 'o');
        for (int trailer : FAR) {
            row(YARD + "book 0 d 1 *40", "punctuality " + trailer, NSE);
        }
    }

    private void punctualityNotArrived() {
        about("9: IllegalStateException if it is booked, or a no-show.");
        row(YARD + "book 0 d 1", "punctuality 0", ISE);
        row(YARD + "book 0 d 1; pass 24", "punctuality 0", ISE);
        row(YARD + "book 0 d 1; pass 25", "punctuality 0", ISE);
        row(YARD + "book 0 d 1; arrive 0 0", "punctuality 0", 'o');
        row(YARD + "book 0 d 1; arrive 0 0; dock 0 0", "punctuality 0", 'o');
        row(YARD + "book 0 d 1; arrive 0 0; dock 0 0; pass 1; leave 0", "punctuality 0", 'o');
    }

    private void punctualityByTheToleranceOfNow() {
        about("9: .. by the tolerance of now.");
        for (int tolerance = 0; tolerance <= 9; tolerance++) {
            for (int behind = -10; behind <= 10; behind++) {
                char due = behind > tolerance ? 'l' : -behind > tolerance ? 'e' : 'o';
                row(YARD + "book 20 d 1; pass " + (20 + behind) + "; arrive 0 0; setTolerance " + tolerance,
                    "punctuality 0", due);
            }
        }
    }

    private void punctualityStays() {
        about("9: Returns the punctuality of a trailer that arrived: it arrived but once.");
        String early = YARD + "book 5 d 1; pass 3; arrive 0 0; pass 40; ";
        row(early, "punctuality 0", 'e');
        row(early + "shift 0 1", "punctuality 0", 'e');
        row(early + "dock 0 0", "punctuality 0", 'e');
        row(early + "dock 0 0; pass 1; leave 0; pass 9", "punctuality 0", 'e');
    }

    private void nextBookedEarliest() {
        about("10: Returns the booked appointment with the earliest hour ..");
        row("book 999 d 1", "nextBooked", 0);
        row("book 999 d 1; book 998 d 1", "nextBooked", 1);
        row("book 999 d 1; book 0 d 1; book 1 d 1", "nextBooked", 1);
        row(YARD + "book 999 d 1; book 0 d 1; book 1 d 1; arrive 1 0", "nextBooked", 2);
        row("book 9 d 1; book 0 d 1; book 1 d 1; pass 24", "nextBooked", 1);
        row("book 9 d 1; book 0 d 1; book 1 d 1; pass 25", "nextBooked", 2);
        row("book 9 d 1; book 0 d 1; book 1 d 1; pass 26", "nextBooked", 0);
        row("book 5 d 1 *39; book 4 d 1", "nextBooked", 39);
    }

    private void nextBookedLowestNumber() {
        about("10: .. of several, the one with the lowest number.");
        row("book 5 d 1; book 5 d 1", "nextBooked", 0);
        row("book 6 d 1; book 5 c 1; book 5 d 1; book 6 d 1", "nextBooked", 1);
        row("book 5 d 1 *40", "nextBooked", 0);
        row(YARD + "book 5 d 1 *40; arrive 0 0", "nextBooked", 1);
    }

    private void nextBookedNone() {
        about("10: NoSuchElementException if no appointment is booked.");
        row("", "nextBooked", NSE);
        row("book 0 d 1", "nextBooked", 0);
        row(YARD + "book 0 d 1; arrive 0 0", "nextBooked", NSE);
        row(YARD + "book 0 d 1; arrive 0 0; dock 0 0", "nextBooked", NSE);
        row(YARD + "book 0 d 1; arrive 0 0; dock 0 0; pass 1; leave 0", "nextBooked", NSE);
        row("book 0 d 1; pass 24", "nextBooked", 0);
        row("book 0 d 1; pass 25", "nextBooked", NSE);
    }
}
