/** Promises 2 to 20 at those of their edges that are no bounds of a number: full, empty, around, refused by a state. */
public final class PromiseEdgesTest {
    private static final int NONE = CarSteps.NONE;
    private static final int OFF = CarSteps.OFF;
    private static final Check CHECK = new Check();

    public static void main(String[] args) {
        heightBetweenNeighbours();
        heightAtBothEnds();
        carAboveTheGap();
        carAboveOneThatGoesUp();
        carAboveOneThatGoesDown();
        carsAreTwo();
        carIsNew();
        ratesWhileItStands();
        slowAtAnyTime();
        doorWhileItIsClosed();
        goUpToEight();
        goAroundAndAround();
        openByItsDoor();
        openInEveryMode();
        openWhereItStands();
        closeByItsDoor();
        closeByItsLoad();
        closeInEveryMode();
        closeOnTheWay();
        contactsAreEight();
        eachCarIsToldForItself();
        powerIsForBoth();
        stepsInAll();
        toldAsItIsNow();
        toldOfEachFloor();
        wearSinceItWasThere();
        wearOfStarts();
        wearOfFallsByMoreThanItsGain();
        CHECK.end();
    }

    private static CarSteps oneCar(int floors, int floor) {
        CarSteps x = new CarSteps(floors);
        x.car(floor);
        return x;
    }

    /** Brings car 0, which stands at floor 1, into a mode in which it wants nothing or to be there. */
    private static void into(int mode, CarSteps x) {
        x.contact(0, 0, mode == 1);
        x.power(mode != 2);
        x.fire(0, mode == 3 ? 1 : NONE);
        x.inspect(0, mode == 4 ? 0 : OFF);
        CHECK.is("mode", x.told(0, 2), mode);
    }

    // "illegal state: .. it would not lie between those of its neighbours"
    private static void heightBetweenNeighbours() {
        int[][] floorPlaceAllowed = {{0, 0, 1}, {0, 999, 1}, {0, 1000, 0}, {0, 1001, 0}, {0, 100000, 0},
            {1, 0, 0}, {1, 1, 1}, {1, 1999, 1}, {1, 2000, 0}, {1, 2001, 0}, {2, 0, 0}, {2, 999, 0}, {2, 1000, 0},
            {2, 1001, 1}, {2, 100000, 1}};
        for (int[] row : floorPlaceAllowed) {
            CarSteps x = new CarSteps(3);
            String what = "floor " + row[0] + " to " + row[1];
            if (row[2] == 1) {
                CHECK.is(what, x.height(row[0], row[1]), 1000 * row[0]);
                CHECK.is(what + ", then back", x.height(row[0], 1000 * row[0]), row[1]);
            } else {
                CHECK.state(what, () -> x.height(row[0], row[1]));
                for (int k = 0; k < 3; k++) {
                    CHECK.is(what + ", then floor " + k, x.height(k, 1000 * k), 1000 * k);
                }
            }
        }
        CarSteps moved = new CarSteps(3);
        moved.height(1, 5);
        CHECK.state("its neighbour as it is now", () -> moved.height(0, 5));
        CHECK.is("its neighbour as it is now", moved.height(2, 6), 2000);
        CHECK.state("no place is left between", () -> moved.height(1, 6));
        CHECK.is("where it is", moved.height(1, 5), 5);
    }

    private static void heightAtBothEnds() {
        CarSteps low = new CarSteps(20);
        for (int k = 0; k < 20; k++) {
            CHECK.is("down", low.height(k, k), 1000 * k);
        }
        CHECK.is("a car at the highest", low.car(19), 0);
        CHECK.is("its place", low.told(0, 0), 19);
        CarSteps high = new CarSteps(20);
        for (int k = 19; k >= 0; k--) {
            CHECK.is("up", high.height(k, 99981 + k), 1000 * k);
        }
        CHECK.is("a car at the lowest", high.car(0), 0);
        CHECK.is("its place", high.told(0, 0), 99981);
        CarSteps two = new CarSteps(2);
        CHECK.is("two floors", two.height(1, 100000), 1000);
        CHECK.is("two floors", two.height(0, 99999), 0);
        CHECK.state("two floors", () -> two.height(0, 100000));
        CHECK.state("two floors", () -> two.height(1, 99999));
    }

    // "the floor does not lie GAP or more above where car 0 can stand (its place, ..)"
    private static void carAboveTheGap() {
        for (int gap : new int[] {0, 1, 500, 9999, 10000}) {
            for (int more = -1; more <= 1; more++) {
                int far = gap + more;
                if (far < 1) {
                    continue;
                }
                CarSteps x = new CarSteps(2);
                x.gap(gap);
                x.height(1, far);
                x.car(0);
                if (more < 0) {
                    CHECK.state(far + " above with gap " + gap, () -> x.car(1));
                    CHECK.argument("no car was made", () -> x.told(1, 0));
                } else {
                    CHECK.is(far + " above with gap " + gap, x.car(1), 1);
                    CHECK.is("its place", x.told(1, 0), far);
                }
            }
        }
        CarSteps same = oneCar(3, 1);
        CHECK.state("at its floor with a gap", () -> same.car(1));
        CHECK.state("below it", () -> same.car(0));
        CarSteps none = new CarSteps(3);
        none.gap(0);
        none.car(1);
        CHECK.state("below it without a gap", () -> none.car(0));
        CHECK.is("at its floor without a gap", none.car(1), 1);
    }

    // "or, if it goes up, LENGTH(its speed, b) more"
    private static void carAboveOneThatGoesUp() {
        // V and where car 0 can stand behind four steps: LENGTH(v, 40) is 0 up to 40, 1 with 41, 40 with 80.
        int[][] speedAndStand = {{39, 137}, {40, 140}, {41, 143}, {60, 200}, {80, 240}};
        for (int[] row : speedAndStand) {
            for (int more = -1; more <= 0; more++) {
                CarSteps x = new CarSteps(3);
                x.height(1, row[1] + 500 + more);
                x.car(0);
                x.rates(0, row[0], 20, 40);
                x.go(0, 2);
                x.steps(4);
                CHECK.is("car 0 goes", x.told(0, 1), row[0]);
                if (more < 0) {
                    CHECK.state("too near to one with " + row[0], () -> x.car(1));
                } else {
                    CHECK.is("just above one with " + row[0], x.car(1), 1);
                    x.fire(0, 2);
                    x.steps(50);
                    CHECK.is("the gap is kept", x.told(1, 0) - x.told(0, 0), 500);
                }
            }
        }
    }

    private static void carAboveOneThatGoesDown() {
        for (int more = -1; more <= 0; more++) {
            // From 1000 down by 20 + 40 + 60 + 80 to 800: that is where it can stand.
            CarSteps x = new CarSteps(3);
            x.height(2, 1300 + more);
            x.car(1);
            x.go(0, 0);
            x.steps(4);
            CHECK.is("car 0 goes down", x.told(0, 1), -80);
            if (more < 0) {
                CHECK.state("too near", () -> x.car(2));
            } else {
                CHECK.is("just above", x.car(2), 1);
            }
        }
    }

    // "illegal state: there are two"
    private static void carsAreTwo() {
        CarSteps x = new CarSteps(20);
        CHECK.is("the first", x.car(0), 0);
        CHECK.is("the second", x.car(10), 1);
        for (int floor = 0; floor < 20; floor++) {
            int k = floor;
            CHECK.state("a third", () -> x.car(k));
        }
        CHECK.is("car 0 is where it was", x.told(0, 0), 0);
        CHECK.is("car 1 is where it was", x.told(1, 0), 10000);
    }

    // "V is 100, g 20, b 40, R 5, I 10; its door is CLOSED, D is 5, HOLD 20; MOST is 1000, its load 0."
    private static void carIsNew() {
        for (int car = 0; car < 2; car++) {
            CarSteps x = new CarSteps(20);
            if (car == 1) {
                x.car(0);
                x.rates(0, 7, 7, 7);
                x.slow(0, 7, 7);
                x.door(0, 7, 7);
                x.load(0, 7);
                x.most(0, 7);
                x.fire(0, 0);
                x.inspect(0, 1);
                x.beam(0, true);
                x.contact(0, 7, true);
                x.steps(7);
            }
            x.car(4);
            CHECK.is("its load", x.load(car, 0), 0);
            CHECK.is("MOST", x.most(car, 1000), 1000);
            CHECK.is("no fire", x.fire(car, NONE), NONE);
            CHECK.is("no ride", x.inspect(car, OFF), OFF);
            CHECK.is("no broken bar", x.beam(car, false), false);
            CHECK.is("NORMAL", x.told(car, 2), 0);
            CHECK.is("no calls", x.told(car, 5), 0);
            CHECK.door("CLOSED", x, car, 0, 0);
            newDoor(x, car);
            newSpeeds(x, car);
        }
    }

    private static void newDoor(CarSteps x, int car) {
        x.open(car);
        x.steps(4);
        CHECK.door("D 5", x, car, 1, 4);
        x.steps(1);
        CHECK.door("D 5", x, car, 2, 5);
        x.steps(19);
        CHECK.door("HOLD 20", x, car, 2, 5);
        x.steps(1);
        CHECK.door("HOLD 20", x, car, 3, 5);
        x.steps(5);
        CHECK.door("CLOSED", x, car, 0, 0);
    }

    private static void newSpeeds(CarSteps x, int car) {
        x.go(car, 19);
        CHECK.speeds("g 20, V 100", x, car, 20, 40, 60, 80, 100, 100);
        x.contact(car, 0, true);
        CHECK.speeds("b 40", x, car, 60, 20, 0);
        x.contact(car, 0, false);
        x.inspect(car, 1);
        CHECK.speeds("I 10", x, car, 10, 10);
        x.inspect(car, OFF);
        x.power(false);
        // 500 above floor 4 both are as near, and the lower one is behind it.
        CHECK.is("the place", x.told(car, 0), 4500);
        CHECK.speeds("R 5", x, car, 0, -5, -5);
    }

    // "illegal state: it does not stand"
    private static void ratesWhileItStands() {
        CarSteps x = oneCar(3, 0);
        x.rates(0, 50, 1, 40);
        x.go(0, 1);
        x.steps(1);
        CHECK.is("the least speed", x.told(0, 1), 1);
        CHECK.state("it goes", () -> x.rates(0, 50, 10, 40));
        x.contact(0, 0, true);
        CHECK.state("it goes until the step is done", () -> x.rates(0, 50, 10, 40));
        x.steps(1);
        CHECK.is("between floors", x.told(0, 6), NONE);
        x.rates(0, 50, 10, 40);
        x.contact(0, 0, false);
        CHECK.speeds("it stood: rates are told", x, 0, 10, 20);
        CarSteps open = oneCar(3, 0);
        open.open(0);
        open.steps(3);
        open.rates(0, 50, 11, 40);
        open.go(0, 1);
        open.steps(27);
        CHECK.speeds("with its door OPENING it stands, too", open, 0, 11);
    }

    private static void slowAtAnyTime() {
        CarSteps x = oneCar(6, 0);
        x.go(0, 5);
        x.steps(8);
        x.slow(0, 77, 66);
        x.inspect(0, 1);
        CHECK.speeds("I while it goes", x, 0, 80, 66);
        x.power(false);
        CHECK.speeds("R while it goes", x, 0, 77);
        CarSteps open = oneCar(6, 0);
        open.open(0);
        open.slow(0, 3, 4);
        CHECK.is("with its door OPENING", open.told(0, 3), 1);
    }

    // "illegal state: its door is not CLOSED"
    private static void doorWhileItIsClosed() {
        CarSteps x = oneCar(3, 0);
        x.door(0, 2, 0);
        x.open(0);
        for (int state : new int[] {1, 1, 2, 3, 3}) {
            CHECK.is("its door", x.told(0, 3), state);
            CHECK.state("door in state " + state, () -> x.door(0, 9, 9));
            x.steps(1);
        }
        CHECK.is("its door", x.told(0, 3), 0);
        x.door(0, 1, 3);
        x.go(0, 2);
        x.steps(5);
        x.door(0, 3, 1);
        x.steps(20);
        CHECK.door("told while it goes, CLOSED", x, 0, 1, 1);
        x.steps(2);
        CHECK.door("D 3", x, 0, 2, 3);
        x.steps(1);
        CHECK.door("HOLD 1", x, 0, 3, 3);
    }

    // "A call of a floor comes behind its others: how many there are. .. illegal state: there are 8."
    private static void goUpToEight() {
        CarSteps x = oneCar(3, 0);
        x.load(0, 1001);
        CHECK.is("no calls", x.told(0, 5), 0);
        for (int k = 1; k <= 8; k++) {
            CHECK.is("calls", x.go(0, 2), k);
            CHECK.is("calls", x.told(0, 5), k);
        }
        CHECK.state("a ninth", () -> x.go(0, 2));
        CHECK.state("a ninth of another floor", () -> x.go(0, 0));
        CHECK.is("still 8", x.told(0, 5), 8);
        x.load(0, 0);
        x.steps(25);
        CHECK.is("one is over", x.told(0, 5), 7);
        CHECK.is("again 8", x.go(0, 0), 8);
        CHECK.state("a ninth again", () -> x.go(0, 0));
        x.steps(7);
        CHECK.is("the last one is behind the others", x.told(0, 5), 1);
        CHECK.is("the last one is behind the others", x.told(0, 7), 0);
    }

    private static void goAroundAndAround() {
        CarSteps x = new CarSteps(20);
        for (int k = 0; k < 20; k++) {
            x.height(k, k);
        }
        x.car(0);
        x.door(0, 1, 0);
        int told = 0;
        int over = 0;
        for (int k = 0; k < 8; k++) {
            x.go(0, floorOfCall(told++));
        }
        while (told < 40) {
            CHECK.is("the first of those that are left", x.told(0, 7), floorOfCall(over));
            for (int s = 0; s < 8 && x.wear(0, 5) == over; s++) {
                x.steps(1);
            }
            CHECK.is("it is over where it was called", x.told(0, 6), floorOfCall(over));
            over++;
            CHECK.is("as many as it takes", x.go(0, floorOfCall(told++)), 8);
        }
        x.steps(100);
        CHECK.is("none is left", x.told(0, 5), 0);
        CHECK.is("all are over", x.wear(0, 5), 40);
        CHECK.is("it is at the last one", x.told(0, 6), floorOfCall(39));
        CHECK.is("no place is wanted", x.told(0, 7), NONE);
    }

    private static int floorOfCall(int k) {
        return (7 * k + 3) % 20;
    }

    // "Its door is OPENING: true; false if it is so, or OPEN."
    private static void openByItsDoor() {
        CarSteps x = oneCar(3, 1);
        x.door(0, 2, 3);
        CHECK.is("CLOSED", x.open(0), true);
        CHECK.is("OPENING at 0", x.open(0), false);
        x.steps(1);
        CHECK.is("OPENING at 1", x.open(0), false);
        CHECK.door("unchanged", x, 0, 1, 1);
        x.steps(1);
        CHECK.is("OPEN", x.open(0), false);
        x.steps(2);
        CHECK.is("OPEN for 2 steps", x.open(0), false);
        CHECK.door("unchanged", x, 0, 2, 2);
        x.steps(1);
        CHECK.door("it was OPEN for 3 steps all the same", x, 0, 3, 2);
        CHECK.is("CLOSING at 2", x.open(0), true);
        CHECK.door("OPENING at 2", x, 0, 1, 2);
        x.steps(1);
        x.close(0);
        x.steps(1);
        CHECK.is("CLOSING at 1", x.open(0), true);
        CHECK.door("OPENING at 1", x, 0, 1, 1);
        CHECK.is("once behind CLOSED", x.wear(0, 3), 1);
        CHECK.is("twice behind CLOSING", x.wear(0, 4), 2);
    }

    private static void openInEveryMode() {
        for (int mode = 0; mode < 5; mode++) {
            CarSteps x = oneCar(3, 1);
            into(mode, x);
            x.beam(0, true);
            x.load(0, 1001);
            CHECK.is("CLOSED in mode " + mode, x.open(0), true);
            CHECK.door("OPENING in mode " + mode, x, 0, 1, 0);
            CHECK.is("OPENING in mode " + mode, x.open(0), false);
        }
    }

    // "illegal state: it does not stand, or not at a floor's place"
    private static void openWhereItStands() {
        CarSteps x = oneCar(3, 0);
        x.slow(0, 5, 1);
        x.inspect(0, 1);
        x.steps(1);
        CHECK.state("it goes with 1", () -> x.open(0));
        x.inspect(0, 0);
        x.steps(1);
        CHECK.is("it stands", x.told(0, 1), 0);
        CHECK.state("one above a floor", () -> x.open(0));
        CHECK.state("one above a floor, again", () -> x.open(0));
        x.inspect(0, 1);
        x.steps(999);
        CHECK.is("it is at a floor", x.told(0, 6), 1);
        CHECK.state("at a floor's place, but it goes", () -> x.open(0));
        x.inspect(0, 0);
        x.steps(1);
        CHECK.is("it stands at a floor", x.open(0), true);
        for (int floor = 0; floor < 3; floor++) {
            CHECK.is("at floor " + floor, oneCar(3, floor).open(0), true);
        }
    }

    // "Its door is CLOSING: true; false, changing nothing: it is not OPEN, the light bar is broken, .."
    private static void closeByItsDoor() {
        CarSteps x = oneCar(3, 1);
        x.door(0, 2, 9);
        CHECK.is("CLOSED", x.close(0), false);
        CHECK.door("unchanged", x, 0, 0, 0);
        x.open(0);
        CHECK.is("OPENING at 0", x.close(0), false);
        x.steps(1);
        CHECK.is("OPENING at 1", x.close(0), false);
        CHECK.door("unchanged", x, 0, 1, 1);
        x.steps(1);
        x.beam(0, true);
        CHECK.is("OPEN, broken", x.close(0), false);
        CHECK.door("unchanged", x, 0, 2, 2);
        x.beam(0, false);
        CHECK.is("OPEN for 0 steps", x.close(0), true);
        CHECK.door("CLOSING at 2", x, 0, 3, 2);
        CHECK.is("CLOSING at 2", x.close(0), false);
        x.steps(1);
        CHECK.is("CLOSING at 1", x.close(0), false);
        CHECK.door("unchanged", x, 0, 3, 1);
        x.steps(1);
        CHECK.door("CLOSED", x, 0, 0, 0);
        CarSteps hold = oneCar(3, 1);
        hold.door(0, 2, 9);
        hold.open(0);
        hold.steps(10);
        hold.beam(0, true);
        hold.close(0);
        hold.beam(0, false);
        hold.steps(1);
        CHECK.door("a close that is false does not touch its HOLD", hold, 0, 3, 2);
    }

    // "or its load is above MOST"
    private static void closeByItsLoad() {
        int[][] loadMostCloses = {{1000, 1000, 1}, {1001, 1000, 0}, {0, 0, 1}, {1, 0, 0}, {10000, 10000, 1},
            {10000, 9999, 0}};
        for (int[] row : loadMostCloses) {
            CarSteps x = oneCar(3, 1);
            x.open(0);
            x.steps(5);
            x.load(0, row[0]);
            x.most(0, row[1]);
            CHECK.is("load " + row[0] + " of " + row[1], x.close(0), row[2] == 1);
            CHECK.door("load " + row[0] + " of " + row[1], x, 0, row[2] == 1 ? 3 : 2, 5);
        }
    }

    private static void closeInEveryMode() {
        for (int mode = 0; mode < 5; mode++) {
            CarSteps x = oneCar(3, 1);
            x.open(0);
            x.steps(5);
            into(mode, x);
            x.beam(0, true);
            CHECK.is("broken in mode " + mode, x.close(0), false);
            CHECK.door("unchanged in mode " + mode, x, 0, 2, 5);
            x.beam(0, false);
            CHECK.is("OPEN in mode " + mode, x.close(0), true);
            CHECK.door("CLOSING in mode " + mode, x, 0, 3, 5);
        }
    }

    private static void closeOnTheWay() {
        CarSteps x = oneCar(3, 0);
        x.go(0, 2);
        x.steps(3);
        CHECK.is("no exception while it goes", x.close(0), false);
        CHECK.is("it goes on", x.told(0, 1), 60);
    }

    // "A contact (0 .. 7) is open, or not: whether it was."
    private static void contactsAreEight() {
        CarSteps x = oneCar(3, 0);
        for (int k = 0; k < 8; k++) {
            x.contact(0, k, k % 2 == 0);
        }
        for (int k = 0; k < 8; k++) {
            CHECK.is("contact " + k + " for itself", x.contact(0, k, true), k % 2 == 0);
        }
        for (int k = 0; k < 8; k++) {
            CHECK.is("CHAIN with one that is open", x.told(0, 2), 1);
            CHECK.is("contact " + k, x.contact(0, k, false), true);
        }
        CHECK.is("NORMAL with none", x.told(0, 2), 0);
    }

    private static void eachCarIsToldForItself() {
        for (int car = 0; car < 2; car++) {
            CarSteps x = new CarSteps(3);
            x.car(0);
            x.car(2);
            int other = 1 - car;
            x.load(car, 11);
            x.most(car, 12);
            x.fire(car, 1);
            x.inspect(car, 1);
            x.beam(car, true);
            x.contact(car, 3, true);
            x.go(car, 1);
            CHECK.is("load", x.load(other, 0), 0);
            CHECK.is("most", x.most(other, 1000), 1000);
            CHECK.is("fire", x.fire(other, NONE), NONE);
            CHECK.is("inspect", x.inspect(other, OFF), OFF);
            CHECK.is("beam", x.beam(other, false), false);
            CHECK.is("contact", x.contact(other, 3, false), false);
            CHECK.is("calls", x.told(other, 5), 0);
            CHECK.is("load", x.load(car, 0), 11);
            CHECK.is("most", x.most(car, 0), 12);
            CHECK.is("fire", x.fire(car, NONE), 1);
            CHECK.is("inspect", x.inspect(car, OFF), 1);
            CHECK.is("beam", x.beam(car, false), true);
            CHECK.is("contact", x.contact(car, 3, false), true);
            CHECK.is("calls", x.told(car, 5), 1);
        }
    }

    // "There is power, or not: whether there was."
    private static void powerIsForBoth() {
        CarSteps x = new CarSteps(3);
        CHECK.is("at first", x.power(true), true);
        CHECK.is("still", x.power(false), true);
        CHECK.is("none", x.power(false), false);
        x.car(0);
        CHECK.is("none for a car that comes later", x.told(0, 2), 2);
        x.car(2);
        CHECK.is("none for the other one", x.told(1, 2), 2);
        CHECK.is("none", x.power(true), false);
        CHECK.is("again", x.power(true), true);
        CHECK.is("car 0", x.told(0, 2), 0);
        CHECK.is("car 1", x.told(1, 2), 0);
    }

    // "So many STEPS: how many there were in all."
    private static void stepsInAll() {
        CarSteps x = new CarSteps(3);
        CHECK.is("without a car", x.steps(3), 3);
        x.car(0);
        CHECK.is("with one", x.steps(1), 4);
        x.car(2);
        CHECK.is("with two", x.steps(1000), 1004);
        x.power(false);
        x.contact(0, 0, true);
        CHECK.is("in any mode", x.steps(1), 1005);
        for (int n : new int[] {1, 2, 17, 250}) {
            CarSteps once = oneCar(6, 0);
            CarSteps often = oneCar(6, 0);
            for (int k = 0; k < 8; k++) {
                once.go(0, floorOfCall(k) % 6);
                often.go(0, floorOfCall(k) % 6);
            }
            once.steps(n);
            for (int k = 0; k < n; k++) {
                often.steps(1);
            }
            for (int what = 0; what < 8; what++) {
                CHECK.is(n + " steps, told " + what, once.told(0, what), often.told(0, what));
            }
        }
    }

    // "2 its MODE as it is now", "7 where it wants to be now (NONE)"
    private static void toldAsItIsNow() {
        CarSteps x = oneCar(6, 2);
        x.go(0, 3);
        CHECK.is("NORMAL", x.told(0, 2), 0);
        CHECK.is("its call", x.told(0, 7), 3000);
        x.inspect(0, -1);
        CHECK.is("INSPECTION before any step", x.told(0, 2), 4);
        CHECK.is("the lowest floor", x.told(0, 7), 0);
        x.fire(0, 4);
        CHECK.is("FIRE before any step", x.told(0, 2), 3);
        CHECK.is("the fire floor", x.told(0, 7), 4000);
        x.power(false);
        CHECK.is("DARK before any step", x.told(0, 2), 2);
        CHECK.is("the nearest floor", x.told(0, 7), 2000);
        x.contact(0, 7, true);
        CHECK.is("CHAIN before any step", x.told(0, 2), 1);
        CHECK.is("nothing", x.told(0, 7), NONE);
        CHECK.is("it is where it was", x.told(0, 0), 2000);
        CHECK.is("no step was done", x.steps(1), 1);
    }

    // "6 the floor at whose place it is (NONE)"
    private static void toldOfEachFloor() {
        CarSteps x = new CarSteps(3);
        x.height(1, 1);
        x.height(2, 3);
        x.car(0);
        x.slow(0, 1, 1);
        x.inspect(0, 1);
        for (int due : new int[] {0, 1, NONE, 2}) {
            CHECK.is("floor at place " + x.told(0, 0), x.told(0, 6), due);
            x.steps(1);
        }
        CHECK.is("it stands", x.told(0, 1), 0);
        x.inspect(0, -1);
        CHECK.speeds("down", x, 0, -1);
        CHECK.is("floor at place 2", x.told(0, 6), NONE);
    }

    // "Of a car, since it was there"
    private static void wearSinceItWasThere() {
        CarSteps x = new CarSteps(6);
        x.car(0);
        x.go(0, 1);
        x.steps(100);
        x.car(3);
        for (int what = 0; what < 6; what++) {
            CHECK.is("car 1, wear " + what, x.wear(1, what), 0);
        }
        int[] due = {1, 1000, 0, 1, 0, 1};
        for (int what = 0; what < 6; what++) {
            CHECK.is("car 0, wear " + what, x.wear(0, what), due[what]);
        }
        x.go(1, 5);
        x.steps(100);
        int[] dueOfOne = {1, 2000, 0, 1, 0, 1};
        for (int what = 0; what < 6; what++) {
            CHECK.is("car 1 behind its ride, wear " + what, x.wear(1, what), dueOfOne[what]);
            CHECK.is("car 0 stood, wear " + what, x.wear(0, what), due[what]);
        }
    }

    // "0 how often it started (from standing), 1 how far it went"
    private static void wearOfStarts() {
        CarSteps x = oneCar(6, 2);
        x.go(0, 5);
        x.steps(3);
        x.fire(0, 0);
        x.steps(2);
        CHECK.is("it goes yet", x.wear(0, 0), 1);
        x.steps(1);
        CHECK.is("it stands", x.told(0, 1), 0);
        CHECK.is("standing is no start", x.wear(0, 0), 1);
        CHECK.is("up", x.wear(0, 1), 180);
        x.steps(1);
        CHECK.is("it turned: a start", x.wear(0, 0), 2);
        CHECK.is("down is added", x.wear(0, 1), 200);
        x.power(false);
        x.steps(300);
        CHECK.is("it lands in DARK", x.told(0, 6), 2);
        CHECK.is("there and back", x.wear(0, 1), 360);
    }

    // "2 in how many steps its speed fell by more than g"
    private static void wearOfFallsByMoreThanItsGain() {
        for (int b : new int[] {20, 21, 22}) {
            CarSteps x = oneCar(6, 0);
            x.rates(0, 100, 20, b);
            x.go(0, 5);
            x.steps(5);
            x.contact(0, 0, true);
            x.steps(4);
            CHECK.is("four falls by " + b, x.wear(0, 2), b > 20 ? 4 : 0);
            CHECK.is("its speed", x.told(0, 1), 100 - 4 * b);
            x.steps(1);
            CHECK.is("the last fall is no more than 20", x.wear(0, 2), b > 20 ? 4 : 0);
            CHECK.is("it stands", x.told(0, 1), 0);
        }
        CarSteps slower = oneCar(6, 0);
        slower.go(0, 5);
        slower.steps(5);
        slower.inspect(0, 1);
        slower.steps(9);
        CHECK.is("falls to a limit are by g", slower.wear(0, 2), 0);
    }

    private PromiseEdgesTest() {
    }
}
