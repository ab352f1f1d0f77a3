/** The sentences of "Terms" that name a boundary, on both sides of it. */
public final class BoundaryTermsTest extends Rows {
    private static final String CAPACITIES_OF_THREE = "addLane 3 true *4; addDoor b *4; ";
    private static final String SIX_IN_LANES = CAPACITIES_OF_THREE + "book 0 d 1 *8; arrive 0 0; arrive 1 0; "
        + "arrive 2 0; arrive 3 1; arrive 4 1; arrive 5 1; ";

    public static void main(String[] args) {
        BoundaryTermsTest test = new BoundaryTermsTest();
        test.hoursFromZero();
        test.atMostFourLanes();
        test.lanesAreNumberedFromZero();
        test.laneHoldsUpToThree();
        test.lastIsNearestToTheExit();
        test.onlyTheLastLeaves();
        test.roomAndPower();
        test.atMostFourDoors();
        test.doorsAreNumberedFromZero();
        test.doorHoldsOneTrailer();
        test.kindsOfDoors();
        test.atMostFortyAppointments();
        test.appointmentsAreNumberedFromZero();
        test.statesOfAnAppointment();
        test.atMostSixInLanes();
        test.toleranceFromZeroToNine();
        test.earlyOnTimeLate();
        test.becomesNoShow();
        test.onlyBookedOnesBecomeNoShows();
        test.waitsFromTheLaterHour();
        test.waitsUntilDocked();
        test.waitsNotBeforeThisBegins();
        test.lateTrailersPayNothing();
        test.someHoursAreFree();
        test.firstRateThenSecond();
        test.chargesInTheBeginning();
        test.tractorMoves();
        test.reachedWhenNoneIsBetween();
        test.fewestMovesAreToLanes();
        test.trailerItselfIsNotMoved();
        test.lastOfAllCalls();
        test.check.end();
    }

    private void hoursFromZero() {
        about("Terms: Time is counted in hours from 0.");
        row("", "time", 0);
        row("pass 1", "time", 1);
        row("", "book -1 d 1", IAE);
        row("", "book 0 d 1", 0);
    }

    private void atMostFourLanes() {
        about("Terms: At most 4 lanes ..");
        row("addLane 3 true *3", "addLane 3 true", 3);
        row("addLane 3 true *4", "addLane 3 true", ISE);
        row("addLane 1 false *4", "addLane 1 false", ISE);
    }

    private void lanesAreNumberedFromZero() {
        about("Terms: .. lanes are numbered from 0.");
        for (int count = 1; count <= 4; count++) {
            String before = "addLane 1 true *" + count + "; book 0 d 1; ";
            row(before, "arrive 0 -1", IOB);
            row(before, "arrive 0 0", 'o');
            row(before, "arrive 0 " + (count - 1), 'o');
            row(before, "arrive 0 " + count, IOB);
            row(before, "trailerAt -1 0", IOB);
            row(before, "trailerAt " + (count - 1) + " 0", NSE);
            row(before, "trailerAt " + count + " 0", IOB);
            row(before + "arrive 0 0", "shift 0 " + count, IOB);
        }
        row("book 0 d 1", "arrive 0 0", IOB);
    }

    private void laneHoldsUpToThree() {
        about("Terms: A lane holds up to 3 trailers, one behind the other ..");
        String three = "addLane 3 true; addLane 1 true; book 0 d 1 *4; arrive 0 0; arrive 1 0; ";
        row(three, "arrive 2 0", 'o');
        row(three + "arrive 2 0", "arrive 3 0", UOE);
        row(three + "arrive 3 1", "shift 3 0", 1);
        row(three + "arrive 2 0; arrive 3 1", "shift 3 0", UOE);
    }

    private void lastIsNearestToTheExit() {
        about("Terms: .. the trailer that came last is nearest to the exit ..");
        String three = "addLane 3 true; addLane 3 true; book 0 d 1 *3; arrive 1 0; arrive 0 0; ";
        row(three, "trailerAt 0 0", 0);
        row(three, "trailerAt 0 1", 1);
        row(three + "arrive 2 0", "trailerAt 0 0", 2);
        row(three + "arrive 2 0", "trailerAt 0 1", 0);
        row(three + "arrive 2 0", "trailerAt 0 2", 1);
        row(three + "arrive 2 1; shift 2 0", "trailerAt 0 0", 2);
        row(three + "shift 0 1; shift 1 1", "trailerAt 1 0", 1);
        row(three + "shift 0 1; shift 1 1", "trailerAt 1 1", 0);
    }

    private void onlyTheLastLeaves() {
        about("Terms: .. and only this one can leave the lane.");
        String three = CAPACITIES_OF_THREE + "book 0 d 1 *3; arrive 0 0; arrive 1 0; arrive 2 0; ";
        for (int trailer = 0; trailer < 2; trailer++) {
            row(three, "shift " + trailer + " 1", ISE);
            row(three, "dock " + trailer + " 0", ISE);
        }
        row(three, "shift 2 1", 1);
        row(three, "dock 2 0", 1);
        row(three + "shift 2 1", "shift 1 1", 2);
        row(three + "shift 2 1", "shift 0 1", ISE);
        row(three + "dock 2 0; dock 1 1", "dock 0 2", 1);
    }

    private void roomAndPower() {
        about("Terms: A trailer can come into a lane if there is room in it, and, if cold, the lane has power.");
        for (int capacity = 1; capacity <= 3; capacity++) {
            for (String power : new String[] {"true", "false"}) {
                String before = "addLane " + capacity + " " + power + "; addLane 1 true; book 0 d 1 *3; "
                    + "book 0 d 1; book 0 c 1; ";
                String full = before;
                for (int i = 0; i < capacity; i++) {
                    full += "arrive " + i + " 0; ";
                }
                String almostFull = full.substring(0, full.length() - "arrive 0 0; ".length());
                boolean hasPower = power.equals("true");
                row(almostFull, "arrive 3 0", 'o');
                row(almostFull, "arrive 4 0", hasPower ? 'o' : UOE);
                row(full, "arrive 3 0", UOE);
                row(full, "arrive 4 0", UOE);
                row(almostFull + "arrive 3 1", "shift 3 0", 1);
                row(almostFull + "arrive 4 1", "shift 4 0", hasPower ? 1 : UOE);
                row(full + "arrive 3 1", "shift 3 0", UOE);
                row(full + "arrive 4 1", "shift 4 0", UOE);
            }
        }
    }

    private void atMostFourDoors() {
        about("Terms: At most 4 doors ..");
        row("addDoor d *3", "addDoor c", 3);
        row("addDoor d *4", "addDoor c", ISE);
        row("addDoor b *4", "addDoor b", ISE);
    }

    private void doorsAreNumberedFromZero() {
        about("Terms: .. doors are numbered from 0.");
        for (int count = 1; count <= 4; count++) {
            String before = "addLane 1 true; addDoor d *" + count + "; book 0 d 1; arrive 0 0";
            row(before, "dock 0 -1", IOB);
            row(before, "dock 0 0", 1);
            row(before, "dock 0 " + (count - 1), 1);
            row(before, "dock 0 " + count, IOB);
        }
        row("addLane 1 true; book 0 d 1; arrive 0 0", "dock 0 0", IOB);
    }

    private void doorHoldsOneTrailer() {
        about("Terms: A door holds one trailer ..");
        String two = "addLane 3 true; addDoor b; addDoor b; book 0 d 1 *2; arrive 0 0; arrive 1 0; dock 1 0; ";
        row(two, "dock 0 0", UOE);
        row(two, "dock 0 1", 1);
        row(two + "pass 1", "dock 0 0", UOE);
        row(two + "pass 1; leave 1", "dock 0 0", 2);
    }

    private void kindsOfDoors() {
        about("Terms: .. it is of the kind 'd' for dry ones, 'c' for cold ones, or 'b' for both.");
        for (String kinds : new String[] {"dd", "cc", "bd", "bc"}) {
            row("addLane 1 true; addDoor " + kinds.charAt(0) + "; book 0 " + kinds.charAt(1) + " 1; arrive 0 0",
                "dock 0 0", 1);
        }
        row("addLane 1 true; addDoor d; book 0 c 1; arrive 0 0", "dock 0 0", UOE);
        row("addLane 1 true; addDoor c; book 0 d 1; arrive 0 0", "dock 0 0", UOE);
    }

    private void atMostFortyAppointments() {
        about("Terms: At most 40 appointments are booked in all ..");
        row("book 0 d 1 *39", "book 0 c 1", 39);
        row("book 0 d 1 *40", "book 0 c 1", ISE);
        row("book 0 d 1 *40; pass 25", "book 25 d 1", ISE);
        row("addLane 1 true; addDoor d; book 0 d 1 *40; arrive 7 0; dock 7 0; pass 1; leave 7", "book 1 d 1", ISE);
    }

    private void appointmentsAreNumberedFromZero() {
        about("Terms: .. numbered from 0; the trailer of an appointment has its number.");
        row("", "state 0", NSE);
        row("book 0 d 1", "state -1", NSE);
        row("book 0 d 1", "state 0", 'b');
        row("book 0 d 1", "state 1", NSE);
        row("book 0 d 1 *39", "state 39", NSE);
        row("book 0 d 1 *40", "state 39", 'b');
        row("book 0 d 1 *40", "state 40", NSE);
        row("addLane 1 true; book 0 d 1 *40; arrive 39 0", "trailerAt 0 0", 39);
    }

    private void statesOfAnAppointment() {
        about("Terms: Its state is 'b', 'y', 'w', 'g' or 'n'.");
        String one = "addLane 1 true; addDoor d; book 0 d 2; ";
        row(one, "state 0", 'b');
        row(one + "pass 24", "state 0", 'b');
        row(one + "pass 25", "state 0", 'n');
        row(one + "arrive 0 0", "state 0", 'y');
        row(one + "arrive 0 0; dock 0 0", "state 0", 'w');
        row(one + "arrive 0 0; dock 0 0; pass 2", "state 0", 'w');
        row(one + "arrive 0 0; dock 0 0; pass 2; leave 0", "state 0", 'g');
    }

    private void atMostSixInLanes() {
        about("Terms: At most 6 trailers are in lanes at a time.");
        row(SIX_IN_LANES, "arrive 6 2", ISE);
        row(SIX_IN_LANES + "shift 5 3", "arrive 6 2", ISE);
        row(SIX_IN_LANES + "dock 5 0", "arrive 6 2", 'o');
        row(SIX_IN_LANES + "dock 5 0; arrive 6 2", "arrive 7 3", ISE);
        row(SIX_IN_LANES + "dock 5 0; dock 4 1; arrive 6 2", "arrive 7 3", 'o');
        row(SIX_IN_LANES + "dock 5 0; pass 1; leave 5; arrive 6 2", "arrive 7 3", ISE);
        row(SIX_IN_LANES, "shift 5 3", 1);
        String five = "addLane 3 true *4; book 0 d 1 *6; arrive 0 0; arrive 1 0; arrive 2 1; arrive 3 2; arrive 4 3; ";
        row(five, "arrive 5 3", 'o');
    }

    private void toleranceFromZeroToNine() {
        about("Terms: The tolerance is from 0 to 9 hours, initially 1.");
        row("", "setTolerance -1", IAE);
        row("", "setTolerance 0", 1);
        row("", "setTolerance 9", 1);
        row("", "setTolerance 10", IAE);
    }

    private void earlyOnTimeLate() {
        about("Terms: early, 'e', more hours than the tolerance before; late, 'l', behind it; on time, 'o', otherwise.");
        row("addLane 1 true; book 20 d 1; pass 18", "arrive 0 0", 'e');
        row("addLane 1 true; book 20 d 1; pass 19", "arrive 0 0", 'o');
        row("addLane 1 true; book 20 d 1; pass 20", "arrive 0 0", 'o');
        row("addLane 1 true; book 20 d 1; pass 21", "arrive 0 0", 'o');
        row("addLane 1 true; book 20 d 1; pass 22", "arrive 0 0", 'l');
        for (int tolerance = 0; tolerance <= 9; tolerance++) {
            String before = "setTolerance " + tolerance + "; addLane 1 true; book 20 d 1; pass ";
            row(before + (20 - tolerance - 1), "arrive 0 0", 'e');
            row(before + (20 - tolerance), "arrive 0 0", 'o');
            row(before + (20 + tolerance), "arrive 0 0", 'o');
            row(before + (20 + tolerance + 1), "arrive 0 0", 'l');
        }
        row("addLane 1 true; book 999 d 1", "arrive 0 0", 'e');
        row("addLane 1 true; book 0 d 1; pass 24", "arrive 0 0", 'l');
    }

    private void becomesNoShow() {
        about("Terms: .. each appointment that is booked, and whose hour is more than 24 hours ago, becomes a no-show.");
        row("book 10 d 1; pass 34", "state 0", 'b');
        row("book 10 d 1; pass 35", "state 0", 'n');
        row("book 10 d 1; pass 1 *34", "state 0", 'b');
        row("book 10 d 1; pass 1 *35", "state 0", 'n');
        row("addLane 1 true; book 10 d 1; pass 34", "arrive 0 0", 'l');
        row("addLane 1 true; book 10 d 1; pass 35", "arrive 0 0", ISE);
        row("book 10 d 1", "pass 34", 0);
        row("book 10 d 1", "pass 35", 1);
        row("book 10 d 1; pass 34", "pass 1", 1);
        row("book 10 d 1; pass 35", "pass 1", 0);
        row("pass 99 *10; book 999 d 1; pass 33", "state 0", 'b');
        row("pass 99 *10; book 999 d 1; pass 34", "state 0", 'n');
    }

    private void onlyBookedOnesBecomeNoShows() {
        about("Terms: .. each appointment that is booked .. becomes a no-show.");
        String one = "addLane 1 true; addDoor d; book 0 d 1; arrive 0 0; ";
        row(one, "pass 25", 0);
        row(one + "pass 25", "state 0", 'y');
        row(one + "dock 0 0", "pass 25", 0);
        row(one + "dock 0 0; pass 25", "state 0", 'w');
        row(one + "dock 0 0; pass 1; leave 0", "pass 24", 0);
        row(one + "dock 0 0; pass 1; leave 0; pass 24", "state 0", 'g');
        row("addLane 1 true; addDoor d; book 0 d 1; pass 24; arrive 0 0", "pass 1", 0);
    }

    private void waitsFromTheLaterHour() {
        about("Terms: A trailer waits from the later one of the hour in which it arrived and that of its appointment ..");
        String one = "addLane 1 true; book 5 d 1; ";
        row(one + "arrive 0 0; pass 6", "waited 0", 1);
        row(one + "pass 4; arrive 0 0; pass 2", "waited 0", 1);
        row(one + "pass 5; arrive 0 0; pass 1", "waited 0", 1);
        row(one + "pass 6; arrive 0 0; pass 1", "waited 0", 1);
        row(one + "pass 29; arrive 0 0; pass 1", "waited 0", 1);
    }

    private void waitsUntilDocked() {
        about("Terms: .. until the hour in which it is docked, or until now if it is not yet ..");
        String one = "addLane 1 true; addDoor d; book 0 d 1; arrive 0 0; pass 3; ";
        row(one, "waited 0", 3);
        row(one + "pass 1", "waited 0", 4);
        row(one + "dock 0 0", "waited 0", 3);
        row(one + "dock 0 0; pass 1", "waited 0", 3);
        row(one + "pass 1; dock 0 0; pass 5", "waited 0", 4);
        row(one + "dock 0 0; pass 1; leave 0; pass 1", "waited 0", 3);
    }

    private void waitsNotBeforeThisBegins() {
        about("Terms: .. it waits 0 hours if this has not begun.");
        String one = "addLane 1 true; addDoor d; book 5 d 1; arrive 0 0; ";
        row(one, "waited 0", 0);
        row(one + "pass 4", "waited 0", 0);
        row(one + "pass 5", "waited 0", 0);
        row(one + "pass 6", "waited 0", 1);
        row(one + "pass 4; dock 0 0; pass 9", "waited 0", 0);
        row(one + "pass 5; dock 0 0; pass 9", "waited 0", 0);
        row(one + "pass 6; dock 0 0; pass 9", "waited 0", 1);
        row("addLane 1 true; book 999 d 1; arrive 0 0", "waited 0", 0);
        row("addLane 1 true; book 999 d 1; arrive 0 0", "meanWaiting", 0.0);
        charge("setCharges 0 9 9 9; " + one, 0, 0);
        charge("setCharges 0 9 9 9; " + one + "dock 0 0; pass 50", 0, 0);
    }

    private void lateTrailersPayNothing() {
        about("Terms: The charge for waiting is 0 for a late trailer.");
        charge("addLane 1 true; book 0 d 1; pass 1; arrive 0 0; pass 3", 0, 30);
        charge("addLane 1 true; book 0 d 1; pass 2; arrive 0 0; pass 3", 0, 0);
        charge("setTolerance 0; addLane 1 true; book 0 d 1; arrive 0 0; pass 3", 0, 30);
        charge("setTolerance 0; addLane 1 true; book 0 d 1; pass 1; arrive 0 0; pass 3", 0, 0);
        charge("setTolerance 9; addLane 1 true; book 0 d 1; pass 9; arrive 0 0; pass 3", 0, 30);
        charge("setTolerance 9; addLane 1 true; book 0 d 1; pass 10; arrive 0 0; pass 3", 0, 0);
        about("Terms: .. Otherwise: an early one pays from its hour on");
        charge("addLane 1 true; book 9 d 1; arrive 0 0; pass 11", 0, 0);
        charge("addLane 1 true; book 9 d 1; arrive 0 0; pass 12", 0, 30);
    }

    private void someHoursAreFree() {
        about("Terms: Otherwise, some hours are free ..");
        for (int free : new int[] {0, 1, 2, 23, 24}) {
            String one = "setCharges " + free + " 7 1 50; addLane 1 true; book 1 d 1; arrive 0 0; pass ";
            charge(one + (1 + free), 0, 0);
            charge(one + (1 + free + 1), 0, 7);
        }
    }

    private void firstRateThenSecond() {
        about("Terms: .. each hour costs a first rate up to a number of hours, and each further one a second rate.");
        for (int hours : new int[] {0, 1, 4, 23, 24}) {
            String one = "setCharges 3 10 " + hours + " 99; addLane 1 true; book 0 d 1; arrive 0 0; pass ";
            charge(one + (3 + hours), 0, hours * 10);
            charge(one + (3 + hours + 1), 0, hours * 10 + 99);
            charge(one + (3 + hours + 2), 0, hours * 10 + 2 * 99);
        }
    }

    private void chargesInTheBeginning() {
        about("Terms: Initially, 2 hours are free, the first rate is 30 for 4 hours, and the second one is 50.");
        String one = "addLane 1 true; book 0 d 1; arrive 0 0; pass ";
        charge("addLane 1 true; book 0 d 1; arrive 0 0", 0, 0);
        charge(one + 1, 0, 0);
        charge(one + 2, 0, 0);
        charge(one + 3, 0, 30);
        charge(one + 5, 0, 90);
        charge(one + 6, 0, 120);
        charge(one + 7, 0, 170);
        charge(one + 8, 0, 220);
    }

    private void tractorMoves() {
        about("Terms: The tractor moves a trailer from a lane to another lane, or from a lane to a door.");
        String one = "addLane 1 true *2; addDoor d; book 0 d 1; arrive 0 0; ";
        row(one, "moves", 0);
        row(one, "shift 0 0", UOE);
        row(one, "shift 0 1", 1);
        row(one + "shift 0 1", "moves", 1);
        row(one + "dock 0 0", "moves", 1);
        row(one + "dock 0 0", "shift 0 1", ISE);
        row(one + "dock 0 0; pass 1", "dock 0 0", ISE);
        row(one + "dock 0 0; pass 1; leave 0", "moves", 1);
    }

    private void reachedWhenNoneIsBetween() {
        about("Terms: A trailer in a lane is reached when no other trailer is between it and the exit.");
        String two = "addLane 3 true *2; book 0 d 1 *3; arrive 0 0; arrive 1 0; ";
        row(two, "shift 1 1", 1);
        row(two, "shift 0 1", ISE);
        row(two, "blockers 1", 0);
        row(two, "blockers 0", 1);
        fewest(two, 1, 0);
        fewest(two, 0, 1);
        row(two + "shift 1 1", "blockers 0", 0);
        row(two + "shift 1 1", "shift 0 1", 2);
        row(two + "arrive 2 0", "shift 1 1", ISE);
        about("Terms: .. trailers in other lanes are not between");
        row(two + "arrive 2 1", "blockers 1", 0);
    }

    private void fewestMovesAreToLanes() {
        about("Terms: The fewest moves are the fewest moves of trailers from lanes to lanes ..");
        String noRoom = "addLane 2 true; addLane 1 true; addDoor b *4; book 0 d 1 *3; arrive 0 0; arrive 1 0; ";
        fewest(noRoom, 0, 1);
        fewest(noRoom + "arrive 2 1", 0, UOE);
        fewest("addLane 2 true; addDoor b *4; book 0 d 1 *2; arrive 0 0; arrive 1 0", 0, UOE);
    }

    private void trailerItselfIsNotMoved() {
        about("Terms: .. behind which it is reached, where the trailer itself is not moved.");
        String two = "addLane 2 true; addLane 1 true; book 0 d 1 *2; arrive 0 0; arrive 1 0; ";
        for (int ask = 0; ask < 2; ask++) {
            String asked = two + (ask == 0 ? "fewestMoves 0" : "fewestByOrders 0");
            row(asked, "laneOf 0", 0);
            row(asked, "laneOf 1", 0);
            row(asked, "trailerAt 0 0", 1);
            row(asked, "trailerAt 0 1", 0);
            row(asked, "trailerAt 1 0", NSE);
            row(asked, "moves", 0);
        }
    }

    private void lastOfAllCalls() {
        about("What it is: An object is used for at most 512 calls ..");
        row("pass 99 *511", "time", 511 * 99);
        row("addLane 1 true; addDoor d; book 0 d 1; arrive 0 0; pass 1 *507", "dock 0 0", 508);
    }
}
