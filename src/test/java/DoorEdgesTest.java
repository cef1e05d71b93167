/** "A STEP", LANDING and THE DOOR: each sentence at its edges; the sentence stands above its test or the first of them. */
public final class DoorEdgesTest {
    private static final int CLOSED = 0;
    private static final int OPENING = 1;
    private static final int OPEN = 2;
    private static final int CLOSING = 3;
    private static final int NORMAL = 0;
    private static final int CHAIN = 1;
    private static final int DARK = 2;
    private static final int FIRE = 3;
    private static final int INSPECTION = 4;
    private static final int OFF = CarSteps.OFF;
    private static final int NONE = CarSteps.NONE;
    private static final Check CHECK = new Check();

    public static void main(String[] args) {
        landsWhenItStands();
        landsOnlyWhereItWants();
        callIsOverInNormalAlone();
        oneCallInAStep();
        landingOpensWhatIsClosed();
        landingOpensWhatIsClosing();
        landingLeavesWhatIsOpening();
        landingHoldsWhatIsOpen();
        noLandingInInspection();
        doorRestsInChain();
        openingToItsLastPlace();
        openingFromItsLastPlace();
        openForItsHold();
        openForMoreThanItsHold();
        openWithItsLoad();
        openWithABrokenBar();
        openInFire();
        openStepsInEveryMode();
        openInDarkAndInspection();
        closingToPlaceZero();
        closingWithItsLoad();
        closingWithABrokenBar();
        closingInFire();
        closedStaysClosed();
        eachCarHasItsDoor();
        CHECK.end();
    }

    /** A car at floor 1 of three with such a door. */
    private static CarSteps lift(int places, int hold) {
        CarSteps x = new CarSteps(3);
        x.car(1);
        x.door(0, places, hold);
        return x;
    }

    /** The same with its door OPEN for so many steps. */
    private static CarSteps open(int places, int hold, int steps) {
        CarSteps x = lift(places, hold);
        x.open(0);
        x.steps(places + steps);
        CHECK.door("OPEN", x, 0, OPEN, places);
        return x;
    }

    /** The same with its door CLOSING, so many places below the last one. */
    private static CarSteps closing(int places, int hold, int steps) {
        CarSteps x = open(places, hold, 0);
        x.close(0);
        if (steps > 0) {
            x.steps(steps);
        }
        CHECK.door("CLOSING", x, 0, CLOSING, places - steps);
        return x;
    }

    /** Brings it into a mode in which it wants to be at floor 1, as far as the mode lets it. */
    private static void into(int mode, CarSteps x) {
        x.contact(0, 0, mode == CHAIN);
        x.power(mode != DARK);
        x.fire(0, mode == FIRE ? 1 : NONE);
        x.inspect(0, mode == INSPECTION ? 0 : OFF);
        CHECK.is("mode", x.told(0, 2), mode);
    }

    /** One step for each pair of a door's state and place. */
    private static void doors(String what, CarSteps x, int... due) {
        for (int k = 0; k + 1 < due.length; k += 2) {
            x.steps(1);
            CHECK.door(what + " in step " + (k / 2 + 1), x, 0, due[k], due[k + 1]);
        }
    }

    /** How many steps it is OPEN yet, then CLOSING. */
    private static void closesIn(String what, CarSteps x, int steps) {
        if (steps > 1) {
            x.steps(steps - 1);
        }
        CHECK.is(what + ": OPEN before step " + steps, x.told(0, 3), OPEN);
        x.steps(1);
        CHECK.is(what + ": CLOSING in step " + steps, x.told(0, 3), CLOSING);
    }

    // "LANDING: if u is 0"
    private static void landsWhenItStands() {
        CarSteps x = lift(2, 3);
        x.go(0, 2);
        x.steps(14);
        CHECK.is("it is there", x.told(0, 0), 2000);
        CHECK.is("but goes", x.told(0, 1), 20);
        CHECK.is("no call is over", x.told(0, 5), 1);
        CHECK.door("not yet", x, 0, CLOSED, 0);
        doors("it stands", x, OPENING, 1, OPEN, 2);
        CHECK.is("the call is over", x.told(0, 5), 0);
    }

    // "and it is where it wants to be"
    private static void landsOnlyWhereItWants() {
        CarSteps heavy = lift(2, 3);
        heavy.load(0, 1001);
        heavy.go(0, 2);
        doors("it stands elsewhere", heavy, CLOSED, 0, CLOSED, 0);
        CHECK.is("no call is over", heavy.told(0, 5), 1);
        CarSteps nothing = lift(2, 3);
        doors("it wants nothing", nothing, CLOSED, 0, CLOSED, 0);
        CHECK.is("no call is over", nothing.wear(0, 5), 0);
        CarSteps lowest = new CarSteps(3);
        lowest.car(0);
        lowest.steps(3);
        CHECK.door("it wants nothing at place 0", lowest, 0, CLOSED, 0);
        lowest.go(0, 0);
        lowest.steps(1);
        CHECK.door("a call at place 0", lowest, 0, OPENING, 1);
    }

    // "NORMAL: the call is over"
    private static void callIsOverInNormalAlone() {
        for (int mode = NORMAL; mode <= INSPECTION; mode++) {
            CarSteps x = lift(2, 3);
            into(mode, x);
            x.go(0, 1);
            x.steps(5);
            CHECK.is("calls that are over in mode " + mode, x.wear(0, 5), mode == NORMAL ? 1 : 0);
            CHECK.is("calls that are left in mode " + mode, x.told(0, 5), mode == NORMAL ? 0 : 1);
        }
        CarSteps ride = lift(2, 3);
        ride.go(0, 2);
        ride.inspect(0, 1);
        ride.steps(150);
        CHECK.is("a ride comes to the floor", ride.told(0, 6), 2);
        CHECK.is("its call is not over", ride.told(0, 5), 1);
    }

    private static void oneCallInAStep() {
        CarSteps x = lift(2, 3);
        for (int k = 0; k < 8; k++) {
            x.go(0, 1);
        }
        for (int k = 1; k <= 8; k++) {
            x.steps(1);
            CHECK.is("calls that are over", x.wear(0, 5), k);
            CHECK.is("calls that are left", x.told(0, 5), 8 - k);
        }
        x.steps(9);
        CHECK.is("no more than there were", x.wear(0, 5), 8);
        CHECK.is("none is left", x.told(0, 5), 0);
    }

    // "NORMAL, FIRE, DARK: its door, if it is CLOSED or CLOSING, is OPENING"
    private static void landingOpensWhatIsClosed() {
        for (int mode : new int[] {NORMAL, FIRE, DARK}) {
            CarSteps x = lift(3, 9);
            into(mode, x);
            x.go(0, 1);
            doors("CLOSED in mode " + mode, x, OPENING, 1, OPENING, 2, OPEN, 3);
            CHECK.is("behind CLOSED", x.wear(0, 3), 1);
            CHECK.is("not behind CLOSING", x.wear(0, 4), 0);
        }
    }

    private static void landingOpensWhatIsClosing() {
        for (int mode : new int[] {NORMAL, FIRE, DARK}) {
            CarSteps x = closing(4, 9, 2);
            into(mode, x);
            x.go(0, 1);
            doors("CLOSING in mode " + mode, x, OPENING, 3, OPEN, 4);
            CHECK.is("not behind CLOSED", x.wear(0, 3), 1);
            CHECK.is("behind CLOSING", x.wear(0, 4), 1);
        }
    }

    private static void landingLeavesWhatIsOpening() {
        for (int mode : new int[] {NORMAL, FIRE, DARK}) {
            CarSteps x = lift(4, 9);
            x.open(0);
            x.steps(1);
            into(mode, x);
            x.go(0, 1);
            doors("OPENING in mode " + mode, x, OPENING, 2, OPENING, 3, OPEN, 4);
            CHECK.is("OPENING once", x.wear(0, 3), 1);
            CHECK.is("not behind CLOSING", x.wear(0, 4), 0);
        }
    }

    // "if it is OPEN it was so for 0 steps"
    private static void landingHoldsWhatIsOpen() {
        CarSteps call = open(2, 5, 4);
        call.go(0, 1);
        closesIn("held by a call", call, 5);
        CHECK.is("it was not OPENING again", call.wear(0, 3) + call.wear(0, 4), 1);
        for (int mode : new int[] {FIRE, DARK}) {
            CarSteps x = open(2, 5, 4);
            into(mode, x);
            x.steps(30);
            into(NORMAL, x);
            closesIn("one step by mode " + mode, x, 4);
        }
        for (int hold : new int[] {0, 1}) {
            CarSteps last = open(2, hold, 0);
            last.go(0, 1);
            doors("HOLD " + hold + ": the step of its landing is one step", last, CLOSING, 2);
            CHECK.is("its call is over", last.wear(0, 5), 1);
            doors("HOLD " + hold + ": on its way", last, CLOSING, 1, CLOSED, 0);
            CarSteps twice = open(2, hold, 0);
            twice.go(0, 1);
            twice.go(0, 1);
            doors("HOLD " + hold + ": the second call opens it", twice, CLOSING, 2, OPEN, 2, CLOSING, 2);
            CHECK.is("behind CLOSING", twice.wear(0, 4), 1);
        }
        CarSteps two = open(2, 2, 1);
        two.go(0, 1);
        doors("HOLD 2: held for one step more", two, OPEN, 2, CLOSING, 2);
    }

    private static void noLandingInInspection() {
        for (int way : new int[] {-1, 0, 1}) {
            CarSteps x = new CarSteps(1);
            x.car(0);
            x.door(0, 3, 5);
            x.inspect(0, way);
            doors("CLOSED with ride " + way, x, CLOSED, 0, CLOSED, 0);
            x.open(0);
            doors("OPENING with ride " + way, x, OPENING, 1, OPENING, 2, OPEN, 3, OPEN, 3);
            x.close(0);
            doors("CLOSING with ride " + way, x, CLOSING, 2, CLOSING, 1, CLOSED, 0, CLOSED, 0);
        }
        CarSteps counted = open(2, 5, 2);
        counted.inspect(0, 0);
        counted.steps(2);
        counted.inspect(0, OFF);
        closesIn("steps of a ride count", counted, 1);
    }

    // "THE DOOR (not in CHAIN)"
    private static void doorRestsInChain() {
        CarSteps opening = lift(3, 4);
        opening.open(0);
        into(CHAIN, opening);
        doors("OPENING rests", opening, OPENING, 0, OPENING, 0);
        into(NORMAL, opening);
        doors("OPENING goes on", opening, OPENING, 1, OPENING, 2, OPEN, 3);
        CarSteps open = open(3, 4, 3);
        into(CHAIN, open);
        doors("OPEN rests", open, OPEN, 3, OPEN, 3);
        into(NORMAL, open);
        closesIn("steps in CHAIN do not count", open, 1);
        CarSteps before = open(3, 4, 2);
        into(CHAIN, before);
        before.steps(100);
        into(NORMAL, before);
        closesIn("steps in CHAIN do not count", before, 2);
        CarSteps closing = closing(3, 4, 1);
        into(CHAIN, closing);
        closing.load(0, 1001);
        closing.beam(0, true);
        doors("CLOSING rests", closing, CLOSING, 2, CLOSING, 2);
        closing.load(0, 0);
        closing.beam(0, false);
        into(NORMAL, closing);
        doors("CLOSING goes on", closing, CLOSING, 1, CLOSED, 0);
        CarSteps told = lift(3, 4);
        into(CHAIN, told);
        CHECK.is("open is a call, no step", told.open(0), true);
        CHECK.door("OPENING by the call", told, 0, OPENING, 0);
    }

    // "OPENING: one place more, D at most; with D it is OPEN, for 0 steps."
    private static void openingToItsLastPlace() {
        for (int places : new int[] {1, 2, 49, 50}) {
            CarSteps x = lift(places, 7);
            x.open(0);
            for (int k = 1; k < places; k++) {
                doors("D " + places, x, OPENING, k);
            }
            doors("D " + places, x, OPEN, places);
            closesIn("D " + places + ", for 0 steps", x, 7);
        }
        CarSteps light = lift(2, 7);
        light.beam(0, true);
        light.load(0, 1001);
        light.open(0);
        doors("neither bar nor load count", light, OPENING, 1, OPEN, 2);
    }

    private static void openingFromItsLastPlace() {
        for (int places : new int[] {1, 5, 50}) {
            CarSteps x = closing(places, 7, 0);
            CHECK.is("CLOSING at its last place", x.open(0), true);
            CHECK.door("OPENING at its last place", x, 0, OPENING, places);
            doors("D at most", x, OPEN, places);
            closesIn("OPEN for 0 steps", x, 7);
        }
        CarSteps again = open(4, 7, 6);
        again.close(0);
        again.steps(2);
        again.open(0);
        doors("OPENING again", again, OPENING, 3, OPEN, 4);
        closesIn("the steps before do not count", again, 7);
        CarSteps anew = open(4, 7, 6);
        anew.close(0);
        anew.steps(4);
        anew.open(0);
        doors("OPENING anew", anew, OPENING, 1, OPENING, 2, OPENING, 3, OPEN, 4);
        closesIn("the steps before do not count", anew, 7);
    }

    // "OPEN: one step more; then it is CLOSING if .. it was OPEN for HOLD steps or more"
    private static void openForItsHold() {
        for (int hold : new int[] {0, 1, 2, 3, 999, 1000}) {
            CarSteps x = open(2, hold, 0);
            closesIn("HOLD " + hold, x, Math.max(hold, 1));
            CHECK.door("its place stays in this step", x, 0, CLOSING, 2);
        }
    }

    private static void openForMoreThanItsHold() {
        CarSteps x = open(2, 3, 0);
        x.beam(0, true);
        x.steps(2);
        x.beam(0, false);
        closesIn("just HOLD", x, 1);
        CarSteps more = open(2, 3, 0);
        more.beam(0, true);
        more.steps(1000);
        more.beam(0, false);
        closesIn("far more than HOLD", more, 1);
        CarSteps less = open(2, 3, 0);
        less.beam(0, true);
        less.steps(1);
        less.beam(0, false);
        closesIn("less than HOLD", less, 2);
    }

    // "if its load is not above MOST"
    private static void openWithItsLoad() {
        int[][] loadMostCloses = {{1000, 1000, 1}, {1001, 1000, 0}, {0, 0, 1}, {1, 0, 0}, {10000, 10000, 1},
            {10000, 9999, 0}};
        for (int[] row : loadMostCloses) {
            CarSteps x = open(2, 3, 2);
            x.load(0, row[0]);
            x.most(0, row[1]);
            doors("load " + row[0] + " of " + row[1], x, row[2] == 1 ? CLOSING : OPEN, 2);
            CarSteps fire = open(2, 3, 0);
            fire.load(0, row[0]);
            fire.most(0, row[1]);
            fire.fire(0, 2);
            doors("FIRE, load " + row[0] + " of " + row[1], fire, row[2] == 1 ? CLOSING : OPEN, 2);
        }
        CarSteps later = open(2, 3, 0);
        later.load(0, 1001);
        later.steps(500);
        CHECK.door("too heavy", later, 0, OPEN, 2);
        later.load(0, 1000);
        closesIn("its steps were counted", later, 1);
    }

    // "and the light bar is not broken"
    private static void openWithABrokenBar() {
        CarSteps x = open(2, 0, 0);
        x.beam(0, true);
        x.steps(1000);
        CHECK.door("broken", x, 0, OPEN, 2);
        x.beam(0, false);
        doors("not broken", x, CLOSING, 2);
    }

    // "FIRE: it is not where it wants to be"
    private static void openInFire() {
        CarSteps here = open(2, 0, 0);
        here.fire(0, 1);
        doors("at the fire floor", here, OPEN, 2, OPEN, 2, OPEN, 2);
        here.steps(1000);
        CHECK.door("at the fire floor", here, 0, OPEN, 2);
        CHECK.is("it was not OPENING again", here.wear(0, 4), 0);
        here.fire(0, 0);
        doors("not at the fire floor", here, CLOSING, 2, CLOSING, 1, CLOSED, 0);
        CarSteps held = open(2, 1000, 0);
        held.beam(0, true);
        held.fire(0, 2);
        doors("neither HOLD nor bar count", held, CLOSING, 2, CLOSING, 1, CLOSED, 0);
        CHECK.speeds("it goes with a broken bar", held, 0, 20);
        CarSteps opening = lift(2, 1000);
        opening.open(0);
        opening.fire(0, 2);
        doors("OPENING to its end first", opening, OPENING, 1, OPEN, 2, CLOSING, 2);
    }

    // "OPEN: one step more" stands before any mode is named.
    private static void openStepsInEveryMode() {
        CarSteps fire = open(2, 5, 0);
        fire.load(0, 1001);
        fire.fire(0, 2);
        doors("too heavy to leave", fire, OPEN, 2, OPEN, 2, OPEN, 2, OPEN, 2);
        fire.load(0, 0);
        fire.fire(0, NONE);
        closesIn("steps in FIRE count", fire, 1);
        CarSteps ride = open(2, 5, 0);
        ride.inspect(0, 1);
        doors("a ride waits for its door", ride, OPEN, 2, OPEN, 2, OPEN, 2, OPEN, 2);
        ride.inspect(0, OFF);
        closesIn("steps with INSPECTION count", ride, 1);
        CarSteps dark = open(2, 5, 4);
        dark.power(false);
        doors("DARK is a landing", dark, OPEN, 2, OPEN, 2);
        dark.power(true);
        closesIn("0 steps and the one of the landing", dark, 4);
    }

    private static void openInDarkAndInspection() {
        for (int mode : new int[] {DARK, INSPECTION}) {
            CarSteps x = open(2, 0, 0);
            into(mode, x);
            x.steps(1000);
            CHECK.door("OPEN in mode " + mode, x, 0, OPEN, 2);
            CHECK.is("OPENING once", x.wear(0, 3) + x.wear(0, 4), 1);
            into(NORMAL, x);
            doors("NORMAL behind mode " + mode, x, CLOSING, 2);
        }
    }

    // "CLOSING: .. else one place less; with 0 it is CLOSED."
    private static void closingToPlaceZero() {
        for (int places : new int[] {1, 2, 49, 50}) {
            CarSteps x = closing(places, 7, 0);
            for (int k = places - 1; k > 0; k--) {
                doors("D " + places, x, CLOSING, k);
            }
            doors("D " + places, x, CLOSED, 0, CLOSED, 0);
        }
    }

    // "CLOSING: if its load is above MOST, .. it is OPENING again (its place stays in this step)"
    private static void closingWithItsLoad() {
        for (int mode : new int[] {NORMAL, INSPECTION}) {
            for (int steps = 0; steps < 4; steps++) {
                CarSteps x = closing(4, 7, steps);
                into(mode, x);
                x.load(0, 1001);
                doors("above MOST", x, OPENING, 4 - steps);
                CHECK.is("behind CLOSING", x.wear(0, 4), 1);
                CHECK.is("once behind CLOSED", x.wear(0, 3), 1);
                doors("one place more then", x, steps > 1 ? OPENING : OPEN, Math.min(5 - steps, 4));
                CarSteps just = closing(4, 7, steps);
                into(mode, just);
                just.load(0, 1000);
                doors("just MOST", just, steps == 3 ? CLOSED : CLOSING, 3 - steps);
            }
        }
    }

    // "or the light bar is broken and it is not FIRE"
    private static void closingWithABrokenBar() {
        for (int mode : new int[] {NORMAL, INSPECTION}) {
            for (int steps = 0; steps < 4; steps++) {
                CarSteps x = closing(4, 7, steps);
                into(mode, x);
                x.beam(0, true);
                doors("broken", x, OPENING, 4 - steps);
                CHECK.is("behind CLOSING", x.wear(0, 4), 1);
                doors("one place more then", x, steps > 1 ? OPENING : OPEN, Math.min(5 - steps, 4));
            }
        }
        CarSteps lateBar = closing(1, 7, 0);
        lateBar.steps(1);
        lateBar.beam(0, true);
        doors("broken when it is CLOSED", lateBar, CLOSED, 0, CLOSED, 0);
    }

    private static void closingInFire() {
        CarSteps x = closing(4, 7, 1);
        x.fire(0, 2);
        x.beam(0, true);
        doors("FIRE with a broken bar", x, CLOSING, 2, CLOSING, 1);
        x.load(0, 1001);
        doors("FIRE with too much load", x, OPENING, 1, OPENING, 2, OPENING, 3, OPEN, 4, OPEN, 4);
        x.load(0, 1000);
        doors("FIRE with just MOST", x, CLOSING, 4, CLOSING, 3, CLOSING, 2, CLOSING, 1, CLOSED, 0);
        CHECK.is("behind CLOSING once", x.wear(0, 4), 1);
    }

    private static void closedStaysClosed() {
        for (int mode : new int[] {NORMAL, CHAIN, INSPECTION}) {
            CarSteps x = lift(4, 0);
            into(mode, x);
            x.load(0, 1001);
            x.beam(0, true);
            x.steps(50);
            CHECK.door("CLOSED in mode " + mode, x, 0, CLOSED, 0);
            CHECK.is("never OPENING", x.wear(0, 3), 0);
        }
    }

    private static void eachCarHasItsDoor() {
        CarSteps x = new CarSteps(3);
        x.car(0);
        x.car(2);
        x.door(0, 1, 0);
        x.door(1, 3, 9);
        x.open(1);
        x.beam(0, true);
        x.load(0, 1001);
        x.steps(3);
        CHECK.door("car 0", x, 0, CLOSED, 0);
        CHECK.door("car 1", x, 1, OPEN, 3);
        x.steps(9);
        CHECK.door("car 1 has its own bar and load", x, 1, CLOSING, 3);
        x.contact(0, 0, true);
        x.steps(3);
        CHECK.door("car 1 has its own chain", x, 1, CLOSED, 0);
        CHECK.is("car 0 wore nothing", x.wear(0, 3), 0);
        CHECK.is("car 1 did", x.wear(1, 3), 1);
    }

    private DoorEdgesTest() {
    }
}
