/** Two lift cars in one shaft, moved step by step in whole numbers. */
public final class CarSteps {
    public static final int NONE = -1;
    public static final int OFF = 2;

    private static final int NORMAL = 0;
    private static final int CHAIN = 1;
    private static final int DARK = 2;
    private static final int FIRE = 3;
    private static final int INSPECTION = 4;

    private static final int CLOSED = 0;
    private static final int OPENING = 1;
    private static final int OPEN = 2;
    private static final int CLOSING = 3;

    private static final int UP = 1;
    private static final int DOWN = -1;

    private static final int MOST_FLOORS = 20;
    private static final int MOST_CALLS = 8;
    private static final int MOST_PLACE = 100000;
    private static final int MOST_GAP = 10000;
    private static final int MOST_SPEED = 2000;
    private static final int MOST_CHANGE = 1000;
    private static final int MOST_DOOR_PLACES = 50;
    private static final int MOST_HOLD = 1000;
    private static final int MOST_KILOS = 10000;
    private static final int MOST_STEPS = 1000;
    private static final int LAST_CONTACT = 7;

    // Farther than any car can ever go: nothing is in the way.
    private static final int UNBOUNDED = 1000000000;

    private final Shaft shaft;
    private Car lower;
    private Car upper;
    private boolean powered;
    private int stepsDone;

    public CarSteps(int floors) {
        shaft = new Shaft(Math.min(Math.max(floors, 1), MOST_FLOORS));
        powered = true;
    }

    public int height(int floor, int place) throws IllegalArgumentException, IllegalStateException {
        refuseOutside(floor, 0, shaft.topFloor());
        refuseOutside(place, 0, MOST_PLACE);
        refuseWithCars();
        if (!shaft.liesBetweenNeighbours(floor, place)) {
            throw new IllegalStateException("the place does not lie between those of the neighbours");
        }
        int before = shaft.placeOf(floor);
        shaft.setPlace(floor, place);
        return before;
    }

    public int gap(int g) throws IllegalArgumentException, IllegalStateException {
        refuseOutside(g, 0, MOST_GAP);
        refuseWithCars();
        int before = shaft.gap;
        shaft.gap = g;
        return before;
    }

    public int car(int floor) throws IllegalArgumentException, IllegalStateException {
        refuseOutside(floor, 0, shaft.topFloor());
        int place = shaft.placeOf(floor);
        if (lower == null) {
            lower = new Car(place, UP);
            return 0;
        }
        if (upper != null) {
            throw new IllegalStateException("there are two cars");
        }
        if (place - lower.standPlace() < shaft.gap) {
            throw new IllegalStateException("the floor is too near to car 0");
        }
        upper = new Car(place, DOWN);
        return 1;
    }

    public void rates(int car, int v, int g, int b) throws IllegalArgumentException, IllegalStateException {
        Car c = carOf(car);
        refuseOutside(v, 1, MOST_SPEED);
        refuseOutside(g, 1, MOST_CHANGE);
        refuseOutside(b, 1, MOST_CHANGE);
        if (g > b) {
            throw new IllegalArgumentException("the gain is above the brake");
        }
        if (c.speed != 0) {
            throw new IllegalStateException("the car does not stand");
        }
        c.topSpeed = v;
        c.gain = g;
        c.brake = b;
    }

    public void slow(int car, int r, int i) throws IllegalArgumentException {
        Car c = carOf(car);
        refuseOutside(r, 1, MOST_SPEED);
        refuseOutside(i, 1, MOST_SPEED);
        c.darkSpeed = r;
        c.rideSpeed = i;
    }

    public void door(int car, int places, int hold) throws IllegalArgumentException, IllegalStateException {
        Door door = carOf(car).door;
        refuseOutside(places, 1, MOST_DOOR_PLACES);
        refuseOutside(hold, 0, MOST_HOLD);
        if (door.state != CLOSED) {
            throw new IllegalStateException("the door is not closed");
        }
        door.places = places;
        door.hold = hold;
    }

    public int go(int car, int floor) throws IllegalArgumentException, IllegalStateException {
        Calls calls = carOf(car).calls;
        refuseOutside(floor, 0, shaft.topFloor());
        if (calls.count >= MOST_CALLS) {
            throw new IllegalStateException("there are too many calls");
        }
        calls.append(floor);
        return calls.count;
    }

    public boolean open(int car) throws IllegalArgumentException, IllegalStateException {
        Car c = carOf(car);
        if (c.speed != 0) {
            throw new IllegalStateException("the car does not stand");
        }
        if (shaft.floorAt(c.place) == NONE) {
            throw new IllegalStateException("the car is not at a floor");
        }
        return c.door.turnToOpening();
    }

    public boolean close(int car) throws IllegalArgumentException {
        Car c = carOf(car);
        if (c.door.state != OPEN || c.door.beamBroken || c.isOverloaded()) {
            return false;
        }
        c.door.state = CLOSING;
        return true;
    }

    public boolean beam(int car, boolean on) throws IllegalArgumentException {
        Door door = carOf(car).door;
        boolean before = door.beamBroken;
        door.beamBroken = on;
        return before;
    }

    public boolean contact(int car, int k, boolean on) throws IllegalArgumentException {
        Car c = carOf(car);
        refuseOutside(k, 0, LAST_CONTACT);
        int bit = 1 << k;
        boolean before = (c.openContacts & bit) != 0;
        c.openContacts = on ? c.openContacts | bit : c.openContacts & ~bit;
        return before;
    }

    public int load(int car, int kilos) throws IllegalArgumentException {
        Car c = carOf(car);
        refuseOutside(kilos, 0, MOST_KILOS);
        int before = c.kilos;
        c.kilos = kilos;
        return before;
    }

    public int most(int car, int kilos) throws IllegalArgumentException {
        Car c = carOf(car);
        refuseOutside(kilos, 0, MOST_KILOS);
        int before = c.mostKilos;
        c.mostKilos = kilos;
        return before;
    }

    public int fire(int car, int floor) throws IllegalArgumentException {
        Car c = carOf(car);
        refuseOutside(floor, NONE, shaft.topFloor());
        int before = c.fireFloor;
        c.fireFloor = floor;
        return before;
    }

    public int inspect(int car, int way) throws IllegalArgumentException {
        Car c = carOf(car);
        refuseOutside(way, DOWN, OFF);
        int before = c.ride;
        c.ride = way;
        return before;
    }

    public boolean power(boolean on) {
        boolean before = powered;
        powered = on;
        return before;
    }

    public int steps(int n) throws IllegalArgumentException {
        refuseOutside(n, 1, MOST_STEPS);
        for (int i = 0; i < n; i++) {
            if (lower != null) {
                lower.takeStep(shaft, upper, powered);
            }
            if (upper != null) {
                upper.takeStep(shaft, lower, powered);
            }
        }
        stepsDone += n;
        return stepsDone;
    }

    public int told(int car, int what) throws IllegalArgumentException {
        Car c = carOf(car);
        switch (what) {
            case 0:
                return c.place;
            case 1:
                return c.speed * c.way;
            case 2:
                return c.modeNow(powered);
            case 3:
                return c.door.state;
            case 4:
                return c.door.place;
            case 5:
                return c.calls.count;
            case 6:
                return shaft.floorAt(c.place);
            case 7:
                return c.wantedPlace(c.modeNow(powered), shaft);
            default:
                throw new IllegalArgumentException("there is no such thing to be told");
        }
    }

    public int wear(int car, int what) throws IllegalArgumentException {
        Car c = carOf(car);
        switch (what) {
            case 0:
                return c.starts;
            case 1:
                return c.distance;
            case 2:
                return c.hardFalls;
            case 3:
                return c.door.openingsBehindClosed;
            case 4:
                return c.door.openingsBehindClosing;
            case 5:
                return c.calls.over;
            default:
                throw new IllegalArgumentException("there is no such wear");
        }
    }

    private Car carOf(int car) {
        Car found = car == 0 ? lower : car == 1 ? upper : null;
        if (found == null) {
            throw new IllegalArgumentException("there is no such car");
        }
        return found;
    }

    private void refuseWithCars() {
        // Car 1 never comes without car 0.
        if (lower != null) {
            throw new IllegalStateException("there is a car");
        }
    }

    private static void refuseOutside(int number, int least, int greatest) {
        if (number < least || number > greatest) {
            throw new IllegalArgumentException("a number is out of its bounds");
        }
    }

    /** LENGTH of the document: how far a car goes yet with this speed when it falls by this much in each step. */
    private static int length(int speed, int fall) {
        if (fall < 1 || speed <= fall) {
            return 0;
        }
        int terms = (speed - 1) / fall;
        return terms * speed - fall * (terms * (terms + 1) / 2);
    }

    /** The floors with their places, and the gap between two cars. */
    private static final class Shaft {
        private final int[] places;
        private int gap;

        Shaft(int floors) {
            places = new int[Math.max(floors, 1)];
            for (int k = 0; k < places.length; k++) {
                places[k] = 1000 * k;
            }
            gap = 500;
        }

        int topFloor() {
            return places.length - 1;
        }

        boolean isFloor(int floor) {
            return floor >= 0 && floor < places.length;
        }

        /** NONE has no place either: then the answer is NONE too. */
        int placeOf(int floor) {
            return isFloor(floor) ? places[floor] : NONE;
        }

        void setPlace(int floor, int place) {
            if (isFloor(floor)) {
                places[floor] = place;
            }
        }

        boolean liesBetweenNeighbours(int floor, int place) {
            boolean aboveLower = !isFloor(floor - 1) || place > placeOf(floor - 1);
            boolean belowUpper = !isFloor(floor + 1) || place < placeOf(floor + 1);
            return aboveLower && belowUpper;
        }

        int floorAt(int place) {
            for (int k = 0; k < places.length; k++) {
                if (places[k] == place) {
                    return k;
                }
            }
            return NONE;
        }

        int nearestPlace(int place) {
            int nearest = placeOf(0);
            for (int k = 1; k < places.length; k++) {
                // Not "<=": of two as near the lower one counts.
                if (Math.abs(places[k] - place) < Math.abs(nearest - place)) {
                    nearest = places[k];
                }
            }
            return nearest;
        }
    }

    /** The floors to which a car is called, the first call first. */
    private static final class Calls {
        private final int[] floors = new int[MOST_CALLS];
        private int count;
        private int over;

        void append(int floor) {
            if (count >= 0 && count < floors.length) {
                floors[count] = floor;
                count++;
            }
        }

        int firstFloor() {
            return count > 0 ? floors[0] : NONE;
        }

        void endFirst() {
            if (count < 1) {
                return;
            }
            for (int k = 1; k < count && k < floors.length; k++) {
                floors[k - 1] = floors[k];
            }
            count--;
            over++;
        }
    }

    /** A car's door with its light bar. */
    private static final class Door {
        private int state = CLOSED;
        private int place;
        private int places = 5;
        private int hold = 20;
        private int stepsOpen;
        private boolean beamBroken;
        private int openingsBehindClosed;
        private int openingsBehindClosing;

        /** Whether it was CLOSED or CLOSING and is OPENING now. */
        boolean turnToOpening() {
            if (state == OPENING || state == OPEN) {
                return false;
            }
            if (state == CLOSED) {
                openingsBehindClosed++;
            } else {
                openingsBehindClosing++;
            }
            state = OPENING;
            return true;
        }

        void openForLanding() {
            if (state == OPEN) {
                stepsOpen = 0;
            } else {
                turnToOpening();
            }
        }

        void takeStep(int mode, boolean overloaded, boolean carIsAway) {
            switch (state) {
                case OPENING:
                    openFurther();
                    break;
                case OPEN:
                    stepsOpen++;
                    if (!overloaded && isTimeToClose(mode, carIsAway)) {
                        state = CLOSING;
                    }
                    break;
                case CLOSING:
                    if (overloaded || beamBroken && mode != FIRE) {
                        turnToOpening();
                    } else {
                        closeFurther();
                    }
                    break;
                default:
                    break;
            }
        }

        private void openFurther() {
            place = Math.min(place + 1, places);
            if (place == places) {
                state = OPEN;
                stepsOpen = 0;
            }
        }

        private void closeFurther() {
            place = Math.max(place - 1, 0);
            if (place == 0) {
                state = CLOSED;
            }
        }

        private boolean isTimeToClose(int mode, boolean carIsAway) {
            if (mode == NORMAL) {
                return stepsOpen >= hold && !beamBroken;
            }
            return mode == FIRE && carIsAway;
        }
    }

    /** A car: where it is, how it goes and what it was told. */
    private static final class Car {
        // The way to the other car, which never changes: the two cannot pass.
        private final int wayToOther;
        private final Door door = new Door();
        private final Calls calls = new Calls();
        private int place;
        private int speed;
        private int way;
        private int topSpeed = 100;
        private int gain = 20;
        private int brake = 40;
        private int darkSpeed = 5;
        private int rideSpeed = 10;
        private int kilos;
        private int mostKilos = 1000;
        private int openContacts;
        private int fireFloor = NONE;
        private int ride = OFF;
        private int starts;
        private int distance;
        private int hardFalls;

        Car(int place, int wayToOther) {
            this.place = place;
            this.wayToOther = wayToOther;
        }

        boolean isOverloaded() {
            return kilos > mostKilos;
        }

        int modeNow(boolean powered) {
            if (openContacts != 0) {
                return CHAIN;
            }
            if (!powered) {
                return DARK;
            }
            if (fireFloor != NONE) {
                return FIRE;
            }
            return ride != OFF ? INSPECTION : NORMAL;
        }

        int wantedPlace(int mode, Shaft shaft) {
            switch (mode) {
                case NORMAL:
                    return shaft.placeOf(calls.firstFloor());
                case FIRE:
                    return shaft.placeOf(fireFloor);
                case DARK:
                    return shaft.nearestPlace(place);
                case INSPECTION:
                    return ride == UP ? shaft.placeOf(shaft.topFloor()) : ride == DOWN ? shaft.placeOf(0) : NONE;
                default:
                    return NONE;
            }
        }

        /** Where it can stand, as the other car sees it. */
        int standPlace() {
            return way == wayToOther ? place + way * length(speed, brake) : place;
        }

        void takeStep(Shaft shaft, Car other, boolean powered) {
            int mode = modeNow(powered);
            int wanted = wantedPlace(mode, shaft);
            int heading = speed > 0 ? way : wayTo(wanted);
            int next = nextSpeed(mode, wanted, roomToOther(heading, other, shaft.gap));
            goOn(next, heading);
            if (next == 0 && wanted == place) {
                land(mode);
            }
            if (mode != CHAIN) {
                door.takeStep(mode, isOverloaded(), wanted != place);
            }
        }

        /** 0 if it wants nothing or is there. */
        private int wayTo(int wanted) {
            return wanted == NONE ? 0 : Integer.compare(wanted, place);
        }

        /** How far it may go on its way until it stands. */
        private int roomToOther(int heading, Car other, int gap) {
            if (other == null || heading != wayToOther) {
                return UNBOUNDED;
            }
            return heading * (other.standPlace() - place) - gap;
        }

        private int nextSpeed(int mode, int wanted, int room) {
            int wayWanted = wayTo(wanted);
            if (speed == 0 && !mayStart(wayWanted)) {
                return 0;
            }
            if (speed == 0 || way == wayWanted) {
                int next = greatestSpeed(speedWithin(limitIn(mode)), Math.abs(wanted - place), room);
                if (next != NONE) {
                    return next;
                }
            }
            return brakingSpeed(mode, room);
        }

        private boolean mayStart(int wayWanted) {
            return wayWanted != 0 && door.state == CLOSED && !isOverloaded();
        }

        private int limitIn(int mode) {
            return mode == DARK ? darkSpeed : mode == INSPECTION ? rideSpeed : topSpeed;
        }

        private int speedWithin(int limit) {
            return speed > limit ? Math.max(limit, speed - gain) : Math.min(limit, speed + gain);
        }

        private int leastSpeed() {
            return Math.max(speed - brake, 0);
        }

        private int brakingSpeed(int mode, int room) {
            int fall = mode == CHAIN ? brake : gain;
            int next = greatestSpeed(Math.max(speed - fall, 0), UNBOUNDED, room);
            // Every step keeps room for the full brake, so that NONE does not come up.
            return next == NONE ? leastSpeed() : next;
        }

        /** The greatest speed of leastSpeed() .. greatest that fits, or NONE. */
        private int greatestSpeed(int greatest, int toPlace, int room) {
            if (fits(greatest, toPlace, room)) {
                return greatest;
            }
            int fitting = leastSpeed();
            if (!fits(fitting, toPlace, room)) {
                return NONE;
            }
            // What fits is below what does not: so the range can be halved, 2000 speeds in 11 rounds.
            int tooFast = greatest;
            for (int round = 0; round < 32 && tooFast - fitting > 1; round++) {
                int middle = (fitting + tooFast) / 2;
                if (fits(middle, toPlace, room)) {
                    fitting = middle;
                } else {
                    tooFast = middle;
                }
            }
            return fitting;
        }

        /** Whether it can land at toPlace by its gain, and stand within room by its brake. */
        private boolean fits(int next, int toPlace, int room) {
            return next + length(next, gain) <= toPlace && next + length(next, brake) <= room;
        }

        private void goOn(int next, int heading) {
            if (speed == 0 && next > 0) {
                starts++;
            }
            if (speed - next > gain) {
                hardFalls++;
            }
            distance += next;
            place += heading * next;
            speed = next;
            way = next == 0 ? 0 : heading;
        }

        private void land(int mode) {
            if (mode == NORMAL) {
                calls.endFirst();
            }
            if (mode != INSPECTION) {
                door.openForLanding();
            }
        }
    }
}
