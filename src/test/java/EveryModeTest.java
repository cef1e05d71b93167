/** A sentence that names no mode holds in each of them: the calls of the promises 4 to 16 and what a STEP says. */
public final class EveryModeTest {
    private static final int CLOSED = 0;
    private static final int OPENING = 1;
    private static final int OPEN = 2;
    private static final int CLOSING = 3;
    private static final int NORMAL = 0;
    private static final int CHAIN = 1;
    private static final int DARK = 2;
    private static final int FIRE = 3;
    private static final int INSPECTION = 4;
    private static final int NONE = CarSteps.NONE;
    private static final int OFF = CarSteps.OFF;
    private static final Check CHECK = new Check();

    public static void main(String[] args) {
        for (int mode = NORMAL; mode <= INSPECTION; mode++) {
            ratesAndSlow(mode);
            doorPlacesAndHold(mode);
            calls(mode);
            barAndContacts(mode);
            kilos(mode);
            fireAndRide(mode);
            openByItsDoor(mode);
            openOnlyWhereItStands(mode);
            closeByItsDoor(mode);
            closeByBarAndLoad(mode);
            newCarAboveOneThatGoesUp(mode);
        }
        for (int mode : new int[] {NORMAL, DARK, FIRE, INSPECTION}) {
            startsByLoadAndDoorAlone(mode);
            landsFromNearby(mode);
            keepsTheGap(mode);
            keepsTheGapFromAbove(mode);
            brakesByItsGain(mode);
            fallsToItsLimit(mode);
        }
        brakesInChain();
        CHECK.end();
    }

    /** Brings a car into a mode; in FIRE it wants to be at that floor, with INSPECTION at that end. */
    private static void into(int mode, CarSteps x, int car, int fireFloor, int ride) {
        x.contact(car, 0, mode == CHAIN);
        x.power(mode != DARK);
        x.fire(car, mode == FIRE ? fireFloor : NONE);
        x.inspect(car, mode == INSPECTION ? ride : OFF);
        CHECK.is("mode", x.told(car, 2), mode);
    }

    /** Car 0 at floor 1 of three, in a mode in which it wants nothing or to be there. */
    private static void rest(int mode, CarSteps x) {
        into(mode, x, 0, 1, 0);
    }

    private static CarSteps atFloorOne() {
        CarSteps x = new CarSteps(3);
        x.car(1);
        return x;
    }

    /** Car 0 at floor 1 with its door in a state: 2 places, OPEN for 1 step of 4, CLOSING at place 1. */
    private static CarSteps withDoor(int state) {
        CarSteps x = atFloorOne();
        x.door(0, 2, 4);
        if (state != CLOSED) {
            x.open(0);
            x.steps(state == OPENING ? 1 : 3);
        }
        if (state == CLOSING) {
            x.close(0);
            x.steps(1);
        }
        CHECK.door("made", x, 0, state, placeIn(state));
        return x;
    }

    private static int placeIn(int state) {
        return state == CLOSED ? 0 : state == OPEN ? 2 : 1;
    }

    // "RATES: V .., g and b", "R and I"
    private static void ratesAndSlow(int mode) {
        CarSteps x = atFloorOne();
        rest(mode, x);
        x.rates(0, 8, 7, 7);
        x.slow(0, 3, 4);
        rest(NORMAL, x);
        x.go(0, 2);
        CHECK.speeds("V and g told in mode " + mode, x, 0, 7, 8, 8);
        x.inspect(0, 0);
        CHECK.speeds("g told in mode " + mode, x, 0, 1, 0);
        x.inspect(0, 1);
        CHECK.speeds("I told in mode " + mode, x, 0, 4, 4);
        x.contact(0, 0, true);
        CHECK.speeds("b told in mode " + mode, x, 0, 0);
        x.contact(0, 0, false);
        x.power(false);
        CHECK.speeds("R told in mode " + mode, x, 0, -3, -3);
        x.slow(0, 2, 4);
        CHECK.speeds("R told in DARK", x, 0, -2, -2);
    }

    // "D .. and HOLD"
    private static void doorPlacesAndHold(int mode) {
        CarSteps x = atFloorOne();
        rest(mode, x);
        x.door(0, 1, 3);
        rest(NORMAL, x);
        x.open(0);
        x.steps(1);
        CHECK.door("D told in mode " + mode, x, 0, OPEN, 1);
        x.steps(2);
        CHECK.door("HOLD told in mode " + mode, x, 0, OPEN, 1);
        x.steps(1);
        CHECK.door("HOLD told in mode " + mode, x, 0, CLOSING, 1);
        for (int state : new int[] {OPENING, OPEN, CLOSING}) {
            CarSteps refused = withDoor(state);
            rest(mode, refused);
            CHECK.state("door " + state + " in mode " + mode, () -> refused.door(0, 2, 4));
        }
    }

    // "A call of a floor comes behind its others: how many there are. .. illegal state: there are 8."
    private static void calls(int mode) {
        CarSteps x = atFloorOne();
        rest(mode, x);
        for (int k = 1; k <= 8; k++) {
            CHECK.is("call in mode " + mode, x.go(0, k == 1 ? 2 : 0), k);
            CHECK.is("calls told in mode " + mode, x.told(0, 5), k);
        }
        CHECK.state("call 9 in mode " + mode, () -> x.go(0, 2));
        rest(NORMAL, x);
        CHECK.is("the first of them", x.told(0, 7), 2000);
    }

    // "The light bar is broken, or not: whether it was.", "A contact is open, or not: whether it was."
    private static void barAndContacts(int mode) {
        CarSteps x = atFloorOne();
        rest(mode, x);
        CHECK.is("bar, mode " + mode, x.beam(0, true), false);
        CHECK.is("bar broken, mode " + mode, x.beam(0, false), true);
        CHECK.is("bar not broken, mode " + mode, x.beam(0, false), false);
        for (int k = 1; k < 8; k++) {
            CHECK.is("contact, mode " + mode, x.contact(0, k, true), false);
            CHECK.is("CHAIN behind mode " + mode, x.told(0, 2), CHAIN);
            CHECK.is("contact open, mode " + mode, x.contact(0, k, false), true);
            CHECK.is("mode as before", x.told(0, 2), mode);
        }
    }

    // "Its load: what it was.", "MOST: what it was."
    private static void kilos(int mode) {
        CarSteps x = atFloorOne();
        rest(mode, x);
        CHECK.is("load, mode " + mode, x.load(0, 77), 0);
        CHECK.is("load told, mode " + mode, x.load(0, 78), 77);
        CHECK.is("most, mode " + mode, x.most(0, 99), 1000);
        CHECK.is("most told, mode " + mode, x.most(0, 98), 99);
        CHECK.is("load told again", x.load(0, 0), 78);
        CHECK.is("most told again", x.most(0, 0), 98);
    }

    // "The fire floor, or (NONE) none: which it was.", "A ride for inspection: -1, 0, 1, OFF: what it was."
    private static void fireAndRide(int mode) {
        CarSteps x = atFloorOne();
        rest(mode, x);
        CHECK.is("fire floor, mode " + mode, x.fire(0, 2), mode == FIRE ? 1 : NONE);
        CHECK.is("fire floor told, mode " + mode, x.fire(0, 0), 2);
        CHECK.is("no fire floor, mode " + mode, x.fire(0, NONE), 0);
        CHECK.is("no fire floor told, mode " + mode, x.fire(0, mode == FIRE ? 1 : NONE), NONE);
        CHECK.is("ride, mode " + mode, x.inspect(0, -1), mode == INSPECTION ? 0 : OFF);
        CHECK.is("ride down told, mode " + mode, x.inspect(0, 1), -1);
        CHECK.is("ride up told, mode " + mode, x.inspect(0, 0), 1);
        CHECK.is("ride of 0 told, mode " + mode, x.inspect(0, OFF), 0);
        CHECK.is("no ride told, mode " + mode, x.inspect(0, OFF), OFF);
    }

    // "Its door is OPENING: true; false if it is so, or OPEN."
    private static void openByItsDoor(int mode) {
        for (int state = CLOSED; state <= CLOSING; state++) {
            for (int load : new int[] {0, 1001}) {
                CarSteps x = withDoor(state);
                rest(mode, x);
                x.load(0, load);
                x.beam(0, load > 0);
                String what = "open with door " + state + " in mode " + mode + " and load " + load;
                boolean due = state == CLOSED || state == CLOSING;
                CHECK.is(what, x.open(0), due);
                CHECK.door(what, x, 0, due ? OPENING : state, placeIn(state));
                CHECK.is(what + ", behind CLOSED", x.wear(0, 3), 1);
                CHECK.is(what + ", behind CLOSING", x.wear(0, 4), state == CLOSING ? 1 : 0);
                CHECK.is(what + ", again", x.open(0), false);
                CHECK.is(what + ", again", x.wear(0, 3) + x.wear(0, 4), state == CLOSING ? 2 : 1);
            }
        }
        CarSteps held = withDoor(OPEN);
        held.steps(2);
        rest(mode, held);
        held.open(0);
        rest(NORMAL, held);
        held.steps(1);
        CHECK.door("open leaves HOLD alone in mode " + mode, held, 0, CLOSING, 2);
    }

    // "illegal state: it does not stand, or not at a floor's place"
    private static void openOnlyWhereItStands(int mode) {
        CarSteps past = new CarSteps(6);
        past.car(0);
        past.go(0, 5);
        past.steps(12);
        CHECK.is("at a floor's place", past.told(0, 6), 1);
        into(mode, past, 0, 5, 1);
        CHECK.state("it goes, in mode " + mode, () -> past.open(0));
        CarSteps between = between();
        into(mode, between, 0, 1, 1);
        CHECK.state("between floors in mode " + mode, () -> between.open(0));
    }

    // "Its door is CLOSING: true; false, changing nothing: it is not OPEN, .."
    private static void closeByItsDoor(int mode) {
        for (int state = CLOSED; state <= CLOSING; state++) {
            CarSteps x = withDoor(state);
            rest(mode, x);
            String what = "close with door " + state + " in mode " + mode;
            CHECK.is(what, x.close(0), state == OPEN);
            CHECK.door(what, x, 0, state == OPEN ? CLOSING : state, placeIn(state));
            CHECK.is(what + ", again", x.close(0), false);
        }
    }

    // ".. the light bar is broken, or its load is above MOST."
    private static void closeByBarAndLoad(int mode) {
        CarSteps x = withDoor(OPEN);
        rest(mode, x);
        x.beam(0, true);
        CHECK.is("a broken bar in mode " + mode, x.close(0), false);
        x.beam(0, false);
        x.load(0, 1001);
        CHECK.is("too much load in mode " + mode, x.close(0), false);
        x.most(0, 1000);
        CHECK.is("too much load, told again in mode " + mode, x.close(0), false);
        CHECK.door("nothing changed in mode " + mode, x, 0, OPEN, 2);
        x.load(0, 1000);
        CHECK.is("just MOST in mode " + mode, x.close(0), true);
        CarSteps held = withDoor(OPEN);
        held.steps(2);
        rest(mode, held);
        held.load(0, 1001);
        held.close(0);
        held.load(0, 0);
        rest(NORMAL, held);
        held.steps(1);
        CHECK.door("a close that is false leaves HOLD alone in mode " + mode, held, 0, CLOSING, 2);
    }

    // "GAP or more above where car 0 can stand (its place, or, if it goes up, LENGTH(its speed, b) more)"
    private static void newCarAboveOneThatGoesUp(int mode) {
        // At place 300 with speed 100 it can stand at 300 + 60 + 20.
        for (int floorPlace : new int[] {879, 880}) {
            CarSteps x = new CarSteps(3);
            x.height(1, floorPlace);
            x.car(0);
            x.go(0, 2);
            x.steps(5);
            CHECK.is("place of car 0", x.told(0, 0), 300);
            CHECK.is("speed of car 0", x.told(0, 1), 100);
            into(mode, x, 0, 2, 1);
            if (floorPlace == 880) {
                CHECK.is("GAP above it in mode " + mode, x.car(1), 1);
            } else {
                CHECK.state("less than GAP above it in mode " + mode, () -> x.car(1));
            }
        }
    }

    /** Car 0 stands at place 580, nearer to floor 1 of two than to floor 0, and has a call of floor 1. */
    private static CarSteps between() {
        CarSteps x = new CarSteps(2);
        x.car(0);
        x.go(0, 1);
        x.steps(7);
        x.contact(0, 0, true);
        x.steps(3);
        CHECK.is("it stands", x.told(0, 1), 0);
        CHECK.is("between floors", x.told(0, 0), 580);
        return x;
    }

    // "If it stands, it stays so if .. its door is not CLOSED, or its load is above MOST."
    private static void startsByLoadAndDoorAlone(int mode) {
        CarSteps x = between();
        x.slow(0, 100, 100);
        into(mode, x, 0, 1, 1);
        x.beam(0, true);
        x.load(0, 1001);
        CHECK.speeds("too much load in mode " + mode, x, 0, 0, 0);
        CHECK.is("not started in mode " + mode, x.wear(0, 0), 1);
        x.load(0, 1000);
        CHECK.speeds("just MOST and a broken bar in mode " + mode, x, 0, 20, 40);
        CHECK.is("started once more in mode " + mode, x.wear(0, 0), 2);
        CHECK.is("how far it went in mode " + mode, x.wear(0, 1), 640);
        if (mode == DARK) {
            // A door that is not CLOSED is at a floor, and there DARK wants to be.
            return;
        }
        for (int state : new int[] {OPENING, OPEN, CLOSING}) {
            CarSteps waits = withDoor(state);
            waits.go(0, 2);
            into(mode, waits, 0, 2, 1);
            CHECK.speeds("door " + state + " in mode " + mode, waits, 0, 0);
            CHECK.is("not started with door " + state + " in mode " + mode, waits.wear(0, 0), 0);
        }
    }

    // "so that u + LENGTH(u, g) is not more than how far that place is": nearer than one gain.
    private static void landsFromNearby(int mode) {
        for (int floor = 0; floor < 2; floor++) {
            int toward = floor == 1 ? 1 : -1;
            CarSteps x = new CarSteps(2);
            x.car(floor);
            x.slow(0, 10, 1);
            x.inspect(0, -toward);
            x.steps(3);
            x.inspect(0, 0);
            x.steps(1);
            CHECK.is("3 from floor " + floor, x.told(0, 0), 1000 * floor - 3 * toward);
            x.slow(0, 10, 10);
            x.go(0, floor);
            into(mode, x, 0, floor, toward);
            CHECK.speeds("to floor " + floor + " in mode " + mode, x, 0, 3 * toward);
            CHECK.door("it goes yet", x, 0, CLOSED, 0);
            CHECK.speeds("at floor " + floor + " in mode " + mode, x, 0, 0);
            CHECK.is("just there in mode " + mode, x.told(0, 6), floor);
            CHECK.door("landed in mode " + mode, x, 0, mode == INSPECTION ? CLOSED : OPENING, mode == INSPECTION ? 0 : 1);
        }
    }

    /** Floors at 0 and 1780, a car at each; one goes with 100 toward the other one, 280 from where it must stand. */
    private static CarSteps towardEachOther(int goes) {
        CarSteps x = new CarSteps(2);
        x.height(1, 1780);
        x.car(0);
        x.car(1);
        x.slow(goes, 100, 100);
        x.go(goes, 1 - goes);
        x.steps(12);
        CHECK.is("place", x.told(goes, 0), goes == 0 ? 1000 : 780);
        CHECK.is("speed", x.told(goes, 1), goes == 0 ? 100 : -100);
        return x;
    }

    // "and that it is FREE"; "2 in how many steps its speed fell by more than g"
    private static void keepsTheGap(int mode) {
        CarSteps x = towardEachOther(0);
        into(mode, x, 0, 1, 1);
        CHECK.is("wants to be where the other is, mode " + mode, x.told(0, 7), 1780);
        CHECK.speeds("up, mode " + mode, x, 0, 100, 100, 60, 20, 0, 0);
        CHECK.is("GAP below the other in mode " + mode, x.told(0, 0), 1280);
        CHECK.is("falls in mode " + mode, x.wear(0, 2), 2);
        CHECK.is("starts in mode " + mode, x.wear(0, 0), 1);
        CHECK.is("way in mode " + mode, x.wear(0, 1), 1280);
    }

    private static void keepsTheGapFromAbove(int mode) {
        CarSteps x = towardEachOther(1);
        into(mode, x, 1, 0, -1);
        CHECK.is("wants to be where the other is, mode " + mode, x.told(1, 7), 0);
        CHECK.speeds("down, mode " + mode, x, 1, -100, -100, -60, -20, 0, 0);
        CHECK.is("GAP above the other in mode " + mode, x.told(1, 0), 500);
        CHECK.is("falls in mode " + mode, x.wear(1, 2), 2);
        CHECK.is("starts in mode " + mode, x.wear(1, 0), 1);
        CHECK.is("way in mode " + mode, x.wear(1, 1), 1280);
    }

    // "in CHAIN with b for g"
    private static void brakesInChain() {
        for (int car = 0; car < 2; car++) {
            int way = car == 0 ? 1 : -1;
            CarSteps x = towardEachOther(car);
            x.contact(car, 7, true);
            CHECK.speeds("CHAIN of car " + car, x, car, 60 * way, 20 * way, 0, 0);
            CHECK.is("falls in CHAIN", x.wear(car, 2), 2);
            CHECK.is("starts in CHAIN", x.wear(car, 0), 1);
            CHECK.is("way in CHAIN", x.wear(car, 1), 1080);
        }
    }

    // "or if it goes and wants .. something behind it, .. it BRAKES: u is the greatest number of at most v - g"
    private static void brakesByItsGain(int mode) {
        CarSteps x = new CarSteps(2);
        x.height(1, 10000);
        x.car(0);
        x.slow(0, 100, 100);
        x.inspect(0, 1);
        x.go(0, 0);
        x.steps(5);
        CHECK.is("speed", x.told(0, 1), 100);
        into(mode, x, 0, 0, -1);
        CHECK.speeds("floor 0 is behind it in mode " + mode, x, 0, 80, 60, 40, 20, 0, -20, -40);
        CHECK.is("place in mode " + mode, x.told(0, 0), 440);
        CHECK.is("no fall by more than g in mode " + mode, x.wear(0, 2), 0);
        CHECK.is("started anew in mode " + mode, x.wear(0, 0), 2);
        CHECK.is("way in mode " + mode, x.wear(0, 1), 560);
    }

    // "(if v is above LIMIT: the greater of LIMIT and v - g)"
    private static void fallsToItsLimit(int mode) {
        boolean byV = mode == NORMAL || mode == FIRE;
        CarSteps x = new CarSteps(2);
        x.height(1, 10000);
        x.car(0);
        x.rates(0, byV ? 100 : 200, 20, 40);
        x.slow(0, 100, byV ? 200 : 100);
        x.go(0, 1);
        x.inspect(0, byV ? 1 : OFF);
        x.steps(30);
        CHECK.is("place", x.told(0, 0), 5100);
        CHECK.is("speed", x.told(0, 1), 200);
        into(mode, x, 0, 1, 1);
        CHECK.speeds("above its LIMIT in mode " + mode, x, 0, 180, 160, 140, 120, 100, 100);
        CHECK.is("no fall by more than g in mode " + mode, x.wear(0, 2), 0);
    }

    private EveryModeTest() {
    }
}
