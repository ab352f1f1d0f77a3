/** Long runs of calls, always the same ones, each answer compared with that of YardModel. */
public final class ModelTest {
    private static final int RUNS = 1500;
    private static final int CALLS = 512;
    private static final int CROWDED_YARDS = 4000;

    private final Check check;
    private DockyardSlots x;
    private YardModel model;
    private String run;
    private long seed;
    private int booked;

    private ModelTest(Check check) {
        this.check = check;
    }

    public static void main(String[] args) {
        Check check = new Check();
        ModelTest test = new ModelTest(check);
        for (int i = 0; i < RUNS; i++) {
            test.runOnce(i);
        }
        for (int i = 0; i < CROWDED_YARDS; i++) {
            test.crowdOnce(i);
        }
        check.end();
    }

    private int below(int bound) {
        seed = seed * 6364136223846793005L + 1442695040888963407L;
        return (int) ((seed >>> 33) % bound);
    }

    private int trailer() {
        if (below(30) == 0) {
            return new int[] {-1, Integer.MIN_VALUE, booked, 40, Integer.MAX_VALUE}[below(5)];
        }
        int recent = Math.min(booked, 12);
        return below(5) == 0 || recent == 0 ? below(booked + 1) : booked - 1 - below(recent);
    }

    private int place() {
        return below(30) == 0 ? new int[] {-1, Integer.MIN_VALUE, 5, Integer.MAX_VALUE}[below(4)] : below(4);
    }

    private void compare(String what, String want, Check.Call call) {
        check.due(run + what, want, call);
    }

    private void runOnce(int number) {
        seed = number * 7919L + 17;
        x = new DockyardSlots();
        model = new YardModel();
        booked = 0;
        int styles = number % 3;
        for (int i = 0; i < CALLS; i++) {
            run = "run " + number + ", call " + i + ": ";
            if (i < 9 + styles) {
                build();
            } else {
                int choice = below(100);
                if (choice < 45) {
                    change(choice, styles);
                } else {
                    ask(choice);
                }
            }
        }
    }

    /** Yards with so little room that the fewest moves are often more than the blockers. */
    private void crowdOnce(int number) {
        seed = number * 104729L + 5;
        x = new DockyardSlots();
        model = new YardModel();
        run = "crowded yard " + number + ": ";
        for (int i = 0; i < 4; i++) {
            int capacity = i == 0 ? 3 : 1 + below(3);
            boolean power = i < 2 || below(3) == 0;
            compare("addLane", model.addLane(capacity, power), () -> x.addLane(capacity, power));
        }
        for (int i = 0; i < 6; i++) {
            int t = i;
            char kind = "dc".charAt(below(2));
            compare("book", model.book(0, kind, 1), () -> x.book(0, kind, 1));
            int lane = i < 3 ? 0 : 1 + below(3);
            compare("arrive", model.arrive(t, lane), () -> x.arrive(t, lane));
        }
        for (int i = 0; i < 6; i++) {
            int t = i;
            compare("fewestMoves " + t, model.fewestMoves(t), () -> x.fewestMoves(t));
            compare("fewestByOrders " + t, model.fewestByOrders(t), () -> x.fewestByOrders(t));
            compare("laneOf " + t, model.laneOf(t), () -> x.laneOf(t));
            compare("blockers " + t, model.blockers(t), () -> x.blockers(t));
        }
    }

    private void build() {
        if (below(5) < 3) {
            int capacity = below(12) == 0 ? below(9) - 3 : 1 + below(3);
            boolean power = below(2) == 0;
            compare("addLane " + capacity + " " + power, model.addLane(capacity, power),
                () -> x.addLane(capacity, power));
        } else {
            char kind = "dcbdcbx".charAt(below(7));
            compare("addDoor " + kind, model.addDoor(kind), () -> x.addDoor(kind));
        }
    }

    private void change(int choice, int styles) {
        int t = trailer();
        int p = place();
        if (choice < 4) {
            book();
        } else if (choice < 15) {
            compare("arrive " + t + " " + p, model.arrive(t, p), () -> x.arrive(t, p));
        } else if (choice < 27) {
            compare("shift " + t + " " + p, model.shift(t, p), () -> x.shift(t, p));
        } else if (choice < 32 + styles) {
            compare("dock " + t + " " + p, model.dock(t, p), () -> x.dock(t, p));
        } else if (choice < 39) {
            compare("leave " + t, model.leave(t), () -> x.leave(t));
        } else if (choice < 41) {
            int hours = below(8) == 0 ? below(110) - 5 : 1 + below(3);
            compare("pass " + hours, model.pass(hours), () -> x.pass(hours));
        } else if (choice < 42) {
            int hours = below(12) - 1;
            compare("setTolerance " + hours, model.setTolerance(hours), () -> x.setTolerance(hours));
        } else if (choice < 43) {
            setCharges();
        } else {
            build();
        }
    }

    private void book() {
        int now = Integer.parseInt(model.time());
        int hour = below(20) == 0 ? new int[] {now - 1, 999, 1000}[below(3)] : now + below(12);
        char kind = below(30) == 0 ? 'b' : "dc".charAt(below(2));
        int work = below(20) == 0 ? below(2) * 10 : 1 + below(9);
        String due = model.book(hour, kind, work);
        if (!due.startsWith("throws")) {
            booked++;
        }
        compare("book " + hour + " " + kind + " " + work, due, () -> x.book(hour, kind, work));
    }

    private void setCharges() {
        int free = below(27) - 1;
        int first = below(102) - 1;
        int hours = below(27) - 1;
        int second = below(102) - 1;
        compare("setCharges " + free + " " + first + " " + hours + " " + second,
            model.setCharges(free, first, hours, second), () -> x.setCharges(free, first, hours, second));
    }

    private void ask(int choice) {
        int t = trailer();
        int p = place();
        if (choice < 48) {
            compare("state " + t, model.state(t), () -> x.state(t));
        } else if (choice < 51) {
            compare("punctuality " + t, model.punctuality(t), () -> x.punctuality(t));
        } else if (choice < 54) {
            compare("nextBooked", model.nextBooked(), () -> x.nextBooked());
        } else if (choice < 57) {
            compare("laneOf " + t, model.laneOf(t), () -> x.laneOf(t));
        } else if (choice < 60) {
            compare("blockers " + t, model.blockers(t), () -> x.blockers(t));
        } else if (choice < 63) {
            int index = below(6) - 1;
            compare("trailerAt " + p + " " + index, model.trailerAt(p, index), () -> x.trailerAt(p, index));
        } else if (choice < 66) {
            compare("freeDoor " + t, model.freeDoor(t), () -> x.freeDoor(t));
        } else if (choice < 78) {
            compare("fewestMoves " + t, model.fewestMoves(t), () -> x.fewestMoves(t));
            compare("fewestByOrders " + t, model.fewestByOrders(t), () -> x.fewestByOrders(t));
        } else if (choice < 82) {
            compare("waited " + t, model.waited(t), () -> x.waited(t));
        } else if (choice < 88) {
            compare("charge " + t, model.charge(t), () -> x.charge(t));
            compare("chargeByHours " + t, model.chargeByHours(t), () -> x.chargeByHours(t));
        } else {
            askOfAll(choice);
        }
    }

    private void askOfAll(int choice) {
        if (choice < 90) {
            compare("time", model.time(), () -> x.time());
        } else if (choice < 92) {
            compare("moves", model.moves(), () -> x.moves());
        } else if (choice < 94) {
            compare("charged", model.charged(), () -> x.charged());
        } else if (choice < 97) {
            compare("usedShare", model.usedShare(), () -> x.usedShare());
        } else {
            compare("meanWaiting", model.meanWaiting(), () -> x.meanWaiting());
        }
    }
}
