/**
 * What is told counts whatever a car does just then: illegal state is named for `rates` and `open` of a car that goes,
 * for `open` between floors and for `door` with a door that is not CLOSED, and for nothing else.
 */
public final class EveryStateTest {
    private static final int CLOSED = 0;
    private static final int OPENING = 1;
    private static final int OPEN = 2;
    private static final int CLOSING = 3;
    private static final int NONE = CarSteps.NONE;
    private static final int OFF = CarSteps.OFF;
    private static final Check CHECK = new Check();

    /** What a car may do while it is told something. */
    private enum State {
        STANDS, DOOR_OPENING, DOOR_OPEN, DOOR_CLOSING, TOO_HEAVY, BAR_BROKEN, GOES_UP, GOES_DOWN, BETWEEN
    }

    public static void main(String[] args) {
        for (State state : State.values()) {
            for (int car = 0; car < 2; car++) {
                numbers(state, car);
                barAndContacts(state, car);
                fireAndRide(state, car);
                calls(state, car);
                slowAlone(state, car);
                ratesAlone(state, car);
                doorAlone(state, car);
            }
        }
        closeOfEachCar();
        openingsOfEachCar();
        fireAndRideStayTold();
        CHECK.end();
    }

    /** Car 0 alone, or car 1 of two, at floor 3 of seven, in a state, with no calls and no mode but NORMAL. */
    private static CarSteps lift(State state, int car) {
        CarSteps x = new CarSteps(7);
        if (car == 1) {
            x.car(0);
        }
        x.car(3);
        x.door(car, 2, 4);
        x.slow(car, 9, 100);
        switch (state) {
            case DOOR_OPENING -> door(x, car, OPENING);
            case DOOR_OPEN -> door(x, car, OPEN);
            case DOOR_CLOSING -> door(x, car, CLOSING);
            case TOO_HEAVY -> x.load(car, 1001);
            case BAR_BROKEN -> x.beam(car, true);
            case GOES_UP -> ride(x, car, 1);
            case GOES_DOWN -> ride(x, car, -1);
            case BETWEEN -> {
                ride(x, car, 1);
                x.inspect(car, 0);
                x.steps(5);
            }
            default -> CHECK.is("it stands", x.told(car, 1), 0);
        }
        x.inspect(car, OFF);
        CHECK.is(state + " goes", x.told(car, 1) != 0, goes(state));
        CHECK.is(state + " at a floor", x.told(car, 6) != NONE, !goes(state) && state != State.BETWEEN);
        return x;
    }

    private static void door(CarSteps x, int car, int state) {
        x.open(car);
        x.steps(state == OPENING ? 1 : 3);
        if (state == CLOSING) {
            x.close(car);
            x.steps(1);
        }
        CHECK.is("door", x.told(car, 3), state);
    }

    private static void ride(CarSteps x, int car, int way) {
        x.inspect(car, way);
        x.steps(2);
        CHECK.is("ride", x.told(car, 1), 40 * way);
    }

    private static boolean goes(State state) {
        return state == State.GOES_UP || state == State.GOES_DOWN;
    }

    private static boolean doorIsClosed(State state) {
        return state != State.DOOR_OPENING && state != State.DOOR_OPEN && state != State.DOOR_CLOSING;
    }

    /** Brings it to floor 3 with its door CLOSED and nothing told that hinders it. */
    private static void settle(CarSteps x, int car) {
        x.load(car, 0);
        x.beam(car, false);
        x.fire(car, 3);
        x.steps(1000);
        CHECK.is("at the fire floor", x.told(car, 6), 3);
        x.fire(car, NONE);
        x.steps(100);
        CHECK.door("settled", x, car, CLOSED, 0);
    }

    private static void doorHas(String what, CarSteps x, int car, int places, int hold) {
        x.open(car);
        x.steps(places);
        CHECK.door(what + ", D", x, car, OPEN, places);
        if (hold > 1) {
            x.steps(hold - 1);
        }
        CHECK.door(what + ", before HOLD", x, car, OPEN, places);
        x.steps(1);
        CHECK.door(what + ", HOLD", x, car, CLOSING, places);
        x.steps(places);
    }

    /** V 20, g 6 and b 9, or what a new car has. */
    private static void goesBy(String what, CarSteps x, int car, boolean told) {
        x.go(car, 6);
        if (told) {
            CHECK.speeds(what + ", V and g", x, car, 6, 12, 18, 20, 20);
        } else {
            CHECK.speeds(what + ", V and g", x, car, 20, 40, 60, 80, 100, 100);
        }
        x.contact(car, 0, true);
        if (told) {
            CHECK.speeds(what + ", b", x, car, 11, 2, 0);
        } else {
            CHECK.speeds(what + ", b", x, car, 60, 20, 0);
        }
        x.contact(car, 0, false);
    }

    /** It stands between floors, floor 3 being the nearest, below it. */
    private static void goesSlowlyBy(String what, CarSteps x, int car, int r, int i) {
        x.power(false);
        x.steps(2);
        CHECK.is(what + ", R", x.told(car, 1), -r);
        x.power(true);
        x.inspect(car, -1);
        x.steps(20);
        CHECK.is(what + ", I", x.told(car, 1), -i);
    }

    // "Its load: what it was.", "MOST: what it was."
    private static void numbers(State state, int car) {
        CarSteps x = lift(state, car);
        String what = state + " of car " + car;
        CHECK.is(what + ", load", x.load(car, 77), state == State.TOO_HEAVY ? 1001 : 0);
        CHECK.is(what + ", load told", x.load(car, 78), 77);
        CHECK.is(what + ", most", x.most(car, 99), 1000);
        CHECK.is(what + ", most told", x.most(car, 98), 99);
        CHECK.is(what + ", load stays", x.load(car, 10000), 78);
        CHECK.is(what + ", most of one too heavy", x.most(car, 97), 98);
        CHECK.is(what + ", most told to one too heavy", x.most(car, 10000), 97);
        CHECK.is(what + ", load of one too heavy", x.load(car, 0), 10000);
    }

    // "The light bar is broken, or not: whether it was.", "A contact is open, or not: whether it was."
    private static void barAndContacts(State state, int car) {
        CarSteps x = lift(state, car);
        String what = state + " of car " + car;
        CHECK.is(what + ", bar", x.beam(car, true), state == State.BAR_BROKEN);
        CHECK.is(what + ", bar broken", x.beam(car, false), true);
        CHECK.is(what + ", bar not broken", x.beam(car, false), false);
        for (int k = 0; k < 8; k++) {
            CHECK.is(what + ", contact", x.contact(car, k, true), false);
            CHECK.is(what + ", contact open", x.contact(car, k, true), true);
        }
        CHECK.is(what + ", CHAIN", x.told(car, 2), 1);
        for (int k = 0; k < 8; k++) {
            CHECK.is(what + ", contact open", x.contact(car, k, false), true);
            CHECK.is(what + ", contact not open", x.contact(car, k, false), false);
        }
        CHECK.is(what + ", NORMAL", x.told(car, 2), 0);
    }

    // "The fire floor, or (NONE) none: which it was.", "A ride for inspection: -1, 0, 1, OFF: what it was."
    private static void fireAndRide(State state, int car) {
        CarSteps x = lift(state, car);
        String what = state + " of car " + car;
        CHECK.is(what + ", no fire floor", x.fire(car, 6), NONE);
        CHECK.is(what + ", fire floor", x.told(car, 7), 6000);
        CHECK.is(what + ", fire floor told", x.fire(car, 0), 6);
        CHECK.is(what + ", fire floor told again", x.fire(car, NONE), 0);
        CHECK.is(what + ", no ride", x.inspect(car, 1), OFF);
        CHECK.is(what + ", ride up", x.told(car, 7), 6000);
        CHECK.is(what + ", ride up told", x.inspect(car, -1), 1);
        CHECK.is(what + ", ride down", x.told(car, 7), 0);
        CHECK.is(what + ", ride down told", x.inspect(car, 0), -1);
        CHECK.is(what + ", ride of 0", x.told(car, 7), NONE);
        CHECK.is(what + ", ride of 0 told", x.inspect(car, OFF), 0);
    }

    // "A call of a floor comes behind its others: how many there are."
    private static void calls(State state, int car) {
        CarSteps x = lift(state, car);
        String what = state + " of car " + car;
        CHECK.is(what + ", call", x.go(car, 5), 1);
        CHECK.is(what + ", wants", x.told(car, 7), 5000);
        for (int k = 2; k <= 8; k++) {
            CHECK.is(what + ", call", x.go(car, 3), k);
        }
        CHECK.state(what + ", call 9", () -> x.go(car, 3));
        CHECK.is(what + ", calls", x.told(car, 5), 8);
        CHECK.is(what + ", wants the first one", x.told(car, 7), 5000);
        CHECK.is(what + ", bar with calls", x.beam(car, true), state == State.BAR_BROKEN);
        CHECK.is(what + ", bar told with calls", x.beam(car, false), true);
        CHECK.is(what + ", load with calls", x.load(car, 5), state == State.TOO_HEAVY ? 1001 : 0);
        CHECK.is(what + ", load told with calls", x.load(car, 0), 5);
    }

    // "R and I", and nothing but these
    private static void slowAlone(State state, int car) {
        CarSteps x = lift(state, car);
        String what = "slow told, " + state + " of car " + car;
        x.slow(car, 3, 4);
        settle(x, car);
        doorHas(what, x, car, 2, 4);
        goesBy(what, x, car, false);
        goesSlowlyBy(what, x, car, 3, 4);
    }

    // "RATES", and nothing but these; "illegal state: it does not stand"
    private static void ratesAlone(State state, int car) {
        CarSteps x = lift(state, car);
        String what = "rates told, " + state + " of car " + car;
        if (goes(state)) {
            CHECK.state(what, () -> x.rates(car, 20, 6, 9));
        } else {
            x.rates(car, 20, 6, 9);
        }
        settle(x, car);
        doorHas(what, x, car, 2, 4);
        goesBy(what, x, car, !goes(state));
        goesSlowlyBy(what, x, car, 9, 100);
    }

    // "D and HOLD", and nothing but these; "illegal state: its door is not CLOSED"
    private static void doorAlone(State state, int car) {
        CarSteps x = lift(state, car);
        String what = "door told, " + state + " of car " + car;
        if (doorIsClosed(state)) {
            x.door(car, 1, 3);
        } else {
            CHECK.state(what, () -> x.door(car, 1, 3));
        }
        settle(x, car);
        doorHas(what, x, car, doorIsClosed(state) ? 1 : 2, doorIsClosed(state) ? 3 : 4);
        goesBy(what, x, car, false);
        goesSlowlyBy(what, x, car, 9, 100);
        CHECK.is(what + ", load", x.load(car, 0), 0);
        CHECK.is(what + ", most", x.most(car, 0), 1000);
    }

    // "Its door is CLOSING: true"
    private static void closeOfEachCar() {
        for (int car = 0; car < 2; car++) {
            for (int calls = 0; calls < 2; calls++) {
                CarSteps x = new CarSteps(7);
                x.car(0);
                x.car(3);
                x.open(0);
                x.open(1);
                x.steps(5);
                if (calls == 1) {
                    x.go(car, 5);
                }
                CHECK.is("close of car " + car, x.close(car), true);
                CHECK.door("close of car " + car, x, car, CLOSING, 5);
                CHECK.door("not of the other", x, 1 - car, OPEN, 5);
            }
        }
    }

    // "3 how often its door was OPENING behind CLOSED, 4 how often behind CLOSING"
    private static void openingsOfEachCar() {
        for (int car = 0; car < 2; car++) {
            CarSteps x = new CarSteps(7);
            x.car(0);
            x.car(3);
            x.open(car);
            x.steps(5);
            x.close(car);
            x.open(car);
            CHECK.is("behind CLOSED, car " + car, x.wear(car, 3), 1);
            CHECK.is("behind CLOSING, car " + car, x.wear(car, 4), 1);
            CHECK.is("not of the other behind CLOSED", x.wear(1 - car, 3), 0);
            CHECK.is("not of the other behind CLOSING", x.wear(1 - car, 4), 0);
        }
    }

    // "which it was", "what it was": a drive and a ride are told until something else is told.
    private static void fireAndRideStayTold() {
        for (int way : new int[] {-1, 1}) {
            CarSteps ride = new CarSteps(3);
            ride.car(1);
            ride.inspect(0, way);
            ride.steps(300);
            CHECK.is("at its end", ride.told(0, 6), 1 + way);
            CHECK.is("INSPECTION yet", ride.told(0, 2), 4);
            CHECK.is("wants to be there", ride.told(0, 7), 1000 + 1000 * way);
            CHECK.is("ride told", ride.inspect(0, OFF), way);
            CarSteps fire = new CarSteps(3);
            fire.car(1);
            fire.fire(0, 1 + way);
            fire.steps(300);
            CHECK.is("at the fire floor", fire.told(0, 6), 1 + way);
            CHECK.is("FIRE yet", fire.told(0, 2), 3);
            CHECK.is("fire floor told", fire.fire(0, NONE), 1 + way);
        }
    }

    private EveryStateTest() {
    }
}
