/** "A STEP", from THE MODE to "It goes on by u": each sentence at its edges; the sentence stands above its test or the first of them. */
public final class SpeedEdgesTest {
    private static final int OFF = CarSteps.OFF;
    private static final int NONE = CarSteps.NONE;
    private static final Check CHECK = new Check();

    public static void main(String[] args) {
        modeOrder();
        modeByEachContact();
        wantsInNormal();
        wantsInFire();
        wantsInDark();
        wantsInInspection();
        wantsInChain();
        limits();
        staysIfItWantsNothing();
        staysIfItIsThere();
        staysIfItsDoorIsNotClosed();
        staysIfItsLoadIsAboveMost();
        goesOnWithAnyLoad();
        atMostLimitAndGain();
        aboveTheLimit();
        atLeastWithoutBrake();
        atLeastZero();
        lengthOfItsWay();
        farEnough();
        noneSoItBrakes();
        brakesIfItWantsNothing();
        brakesIfItIsBehind();
        brakesIfItIsHere();
        brakesByItsGain();
        brakesInChain();
        brakesWithinItsFreeWay();
        CHECK.end();
    }

    private static CarSteps oneCar(int floors, int floor) {
        CarSteps x = new CarSteps(floors);
        x.car(floor);
        return x;
    }

    /** A car at floor 0 of two, the other one so far above it. */
    private static CarSteps farUp(int far, int v, int g, int b) {
        CarSteps x = new CarSteps(2);
        x.height(1, far);
        x.car(0);
        x.rates(0, v, g, b);
        x.go(0, 1);
        return x;
    }

    /** The same way down. */
    private static CarSteps farDown(int far, int v, int g, int b) {
        CarSteps x = new CarSteps(2);
        x.height(1, far);
        x.car(1);
        x.rates(0, v, g, b);
        x.go(0, 0);
        return x;
    }

    private static int[] down(int... speeds) {
        int[] due = new int[speeds.length];
        for (int k = 0; k < speeds.length; k++) {
            due[k] = -speeds[k];
        }
        return due;
    }

    // "THE MODE is 1 CHAIN, if one of its contacts is open; else 2 DARK, if there is no power; else 3 FIRE, if a fire
    // floor was told; else 4 INSPECTION, if a ride was told; else 0 NORMAL."
    private static void modeOrder() {
        for (int told = 0; told < 16; told++) {
            CarSteps x = oneCar(3, 1);
            x.go(0, 2);
            x.contact(0, 5, (told & 1) != 0);
            x.power((told & 2) == 0);
            x.fire(0, (told & 4) != 0 ? 0 : NONE);
            x.inspect(0, (told & 8) != 0 ? 0 : OFF);
            int due = (told & 1) != 0 ? 1 : (told & 2) != 0 ? 2 : (told & 4) != 0 ? 3 : (told & 8) != 0 ? 4 : 0;
            CHECK.is("mode with " + told, x.told(0, 2), due);
        }
    }

    private static void modeByEachContact() {
        for (int k = 0; k < 8; k++) {
            CarSteps x = oneCar(3, 1);
            x.go(0, 2);
            x.contact(0, k, true);
            CHECK.is("contact " + k + " is the one that is open", x.told(0, 2), 1);
            CHECK.speeds("contact " + k, x, 0, 0);
            x.contact(0, k, false);
            CHECK.is("contact " + k + " is not open", x.told(0, 2), 0);
            CHECK.speeds("contact " + k, x, 0, 20);
        }
    }

    // "NORMAL: the floor that was called first, if there is one."
    private static void wantsInNormal() {
        CarSteps x = oneCar(6, 2);
        CHECK.is("no calls", x.told(0, 7), NONE);
        x.go(0, 0);
        CHECK.is("floor 0 is a floor", x.told(0, 7), 0);
        for (int k = 0; k < 7; k++) {
            x.go(0, 5);
        }
        CHECK.is("of 8 calls the first", x.told(0, 7), 0);
        CarSteps here = oneCar(6, 2);
        here.go(0, 2);
        CHECK.is("the floor where it is", here.told(0, 7), 2000);
        here.go(0, 3);
        here.steps(1);
        CHECK.is("the next one when the first is over", here.told(0, 7), 3000);
    }

    // "FIRE: the fire floor."
    private static void wantsInFire() {
        CarSteps x = oneCar(6, 2);
        x.go(0, 4);
        x.inspect(0, 1);
        for (int floor = 0; floor < 6; floor++) {
            x.fire(0, floor);
            CHECK.is("fire floor " + floor, x.told(0, 7), 1000 * floor);
        }
        x.fire(0, NONE);
        CHECK.is("no fire floor: the ride", x.told(0, 7), 5000);
        x.inspect(0, OFF);
        CHECK.is("no ride: the call", x.told(0, 7), 4000);
    }

    // "DARK: the nearest floor (the lower one of two as near)."
    private static void wantsInDark() {
        for (int near = 198; near <= 202; near++) {
            // Four steps bring it to 200: floor 1 is at twice `near`.
            CarSteps x = new CarSteps(3);
            x.height(1, 2 * near);
            x.car(0);
            x.go(0, 2);
            x.steps(4);
            x.power(false);
            CHECK.is("up, floor 1 at " + 2 * near, x.told(0, 7), near < 200 ? 2 * near : 0);
        }
        for (int far = 199; far <= 201; far++) {
            // From 1000 four steps down: 800, floor 1 so far below.
            CarSteps x = new CarSteps(3);
            x.height(1, 800 - far);
            x.height(2, 1000);
            x.car(2);
            x.go(0, 0);
            x.steps(4);
            x.power(false);
            CHECK.is("down, floor 1 " + far + " below", x.told(0, 7), far <= 200 ? 800 - far : 1000);
        }
        for (int floor = 0; floor < 3; floor++) {
            CarSteps x = oneCar(3, floor);
            x.go(0, 2 - floor);
            x.power(false);
            CHECK.is("the floor where it is", x.told(0, 7), 1000 * floor);
        }
        CarSteps single = oneCar(1, 0);
        single.power(false);
        CHECK.is("the only floor", single.told(0, 7), 0);
    }

    // "INSPECTION: the highest floor with 1, the lowest one with -1. Else it wants nothing."
    private static void wantsInInspection() {
        for (int floors : new int[] {1, 2, 6, 20}) {
            CarSteps x = new CarSteps(floors);
            x.height(0, 0);
            x.car(floors / 2);
            x.go(0, 0);
            x.inspect(0, 1);
            CHECK.is("1 of " + floors, x.told(0, 7), 1000 * (floors - 1));
            x.inspect(0, -1);
            CHECK.is("-1 of " + floors, x.told(0, 7), 0);
            x.inspect(0, 0);
            CHECK.is("0 of " + floors, x.told(0, 7), NONE);
        }
        CarSteps raised = new CarSteps(3);
        raised.height(0, 30);
        raised.height(2, 7000);
        raised.car(1);
        raised.inspect(0, -1);
        CHECK.is("the lowest floor's place", raised.told(0, 7), 30);
        raised.inspect(0, 1);
        CHECK.is("the highest floor's place", raised.told(0, 7), 7000);
    }

    private static void wantsInChain() {
        CarSteps x = oneCar(6, 2);
        x.contact(0, 0, true);
        x.go(0, 4);
        CHECK.is("not its call", x.told(0, 7), NONE);
        x.inspect(0, 1);
        CHECK.is("not its ride", x.told(0, 7), NONE);
        x.fire(0, 0);
        CHECK.is("not the fire floor", x.told(0, 7), NONE);
        x.power(false);
        CHECK.is("not the nearest floor", x.told(0, 7), NONE);
        CHECK.speeds("it stays", x, 0, 0, 0);
    }

    // "ITS LIMIT is V, in DARK R, with INSPECTION I."
    private static void limits() {
        for (int mode = 0; mode < 4; mode++) {
            CarSteps x = oneCar(6, 0);
            x.rates(0, 7, 5, 5);
            x.slow(0, 8, 9);
            x.go(0, 5);
            x.steps(80);
            x.fire(0, mode == 1 ? 5 : NONE);
            x.inspect(0, mode == 2 ? 1 : OFF);
            x.power(mode != 3);
            x.steps(3);
            CHECK.is("limit of mode " + mode, x.told(0, 1), new int[] {7, 7, 9, 8}[mode]);
        }
        CarSteps both = oneCar(6, 0);
        both.inspect(0, 1);
        both.steps(60);
        both.fire(0, 5);
        both.steps(1);
        CHECK.is("in FIRE the ride's limit does not count", both.told(0, 1), 30);
    }

    // "If it stands, it stays so if it wants nothing"
    private static void staysIfItWantsNothing() {
        CarSteps x = oneCar(6, 2);
        CHECK.speeds("no calls", x, 0, 0, 0);
        x.inspect(0, 0);
        CHECK.speeds("a ride of 0", x, 0, 0, 0);
        x.contact(0, 0, true);
        CHECK.speeds("CHAIN", x, 0, 0, 0);
        CHECK.is("it did not start", x.wear(0, 0), 0);
        CHECK.is("it did not go", x.wear(0, 1), 0);
        CHECK.door("nor did it land", x, 0, 0, 0);
    }

    // "is there already"
    private static void staysIfItIsThere() {
        CarSteps call = oneCar(6, 2);
        call.go(0, 2);
        CHECK.speeds("the call", call, 0, 0, 0);
        CarSteps fire = oneCar(6, 2);
        fire.fire(0, 2);
        CHECK.speeds("the fire floor", fire, 0, 0, 0);
        CarSteps dark = oneCar(6, 2);
        dark.power(false);
        CHECK.speeds("the nearest floor", dark, 0, 0, 0);
        CarSteps top = oneCar(6, 5);
        top.inspect(0, 1);
        CHECK.speeds("the highest floor", top, 0, 0, 0);
        CarSteps low = oneCar(6, 0);
        low.inspect(0, -1);
        CHECK.speeds("the lowest floor", low, 0, 0, 0);
        for (CarSteps x : new CarSteps[] {call, fire, dark, top, low}) {
            CHECK.is("it did not start", x.wear(0, 0), 0);
        }
    }

    // "its door is not CLOSED"
    private static void staysIfItsDoorIsNotClosed() {
        CarSteps x = oneCar(6, 2);
        x.door(0, 2, 3);
        x.open(0);
        x.go(0, 4);
        // OPENING 1, OPEN at 2, two steps, CLOSING, 1, CLOSED.
        int[][] due = {{1, 1}, {2, 2}, {2, 2}, {2, 2}, {3, 2}, {3, 1}, {0, 0}};
        for (int k = 0; k < due.length; k++) {
            CHECK.speeds("step " + k + " with its door", x, 0, 0);
            CHECK.door("step " + k, x, 0, due[k][0], due[k][1]);
        }
        CHECK.speeds("CLOSED when the step begins", x, 0, 20);
        CarSteps again = oneCar(6, 2);
        again.go(0, 4);
        again.open(0);
        CHECK.speeds("OPENING from place 0", again, 0, 0);
    }

    // "or its load is above MOST"
    private static void staysIfItsLoadIsAboveMost() {
        int[][] loadMostDue = {{1000, 1000, 20}, {1001, 1000, 0}, {999, 1000, 20}, {0, 0, 20}, {1, 0, 0},
            {10000, 10000, 20}, {10000, 9999, 0}};
        for (int[] row : loadMostDue) {
            CarSteps x = oneCar(6, 0);
            x.load(0, row[0]);
            x.most(0, row[1]);
            x.go(0, 5);
            CHECK.speeds("load " + row[0] + " of " + row[1], x, 0, row[2]);
            x.load(0, row[1]);
            x.steps(1);
            CHECK.is("it may start", x.wear(0, 0), 1);
        }
        int[] modes = {2, 3, 4};
        for (int mode : modes) {
            CarSteps x = betweenFloors();
            x.load(0, 1001);
            x.power(mode != 2);
            x.fire(0, mode == 3 ? 5 : NONE);
            x.inspect(0, mode == 4 ? 1 : OFF);
            CHECK.speeds("too heavy in mode " + mode, x, 0, 0, 0);
            x.load(0, 1000);
            x.steps(1);
            CHECK.is("not too heavy in mode " + mode, x.told(0, 1) != 0, true);
        }
    }

    /** A car that stands at place 60. */
    private static CarSteps betweenFloors() {
        CarSteps x = oneCar(6, 0);
        x.go(0, 5);
        x.steps(2);
        x.contact(0, 0, true);
        x.steps(1);
        x.contact(0, 0, false);
        CHECK.is("between floors", x.told(0, 0), 60);
        CHECK.is("it stands", x.told(0, 1), 0);
        return x;
    }

    private static void goesOnWithAnyLoad() {
        CarSteps x = oneCar(6, 0);
        x.go(0, 5);
        x.steps(1);
        x.load(0, 10000);
        x.most(0, 0);
        CHECK.speeds("too heavy on its way", x, 0, 40, 60, 80, 100);
        x.steps(52);
        CHECK.is("it lands", x.told(0, 6), 5);
        CHECK.is("it lands", x.told(0, 1), 0);
    }

    // "u is the greatest number that is at most the lesser of LIMIT and v + g"
    private static void atMostLimitAndGain() {
        CHECK.speeds("V above a gain", farUp(9000, 25, 10, 10), 0, 10, 20, 25, 25);
        CHECK.speeds("V a number of gains", farUp(9000, 20, 10, 10), 0, 10, 20, 20);
        CHECK.speeds("V one above that", farUp(9000, 21, 10, 10), 0, 10, 20, 21, 21);
        CHECK.speeds("V one below that", farUp(9000, 19, 10, 10), 0, 10, 19, 19);
        CHECK.speeds("V the gain", farUp(9000, 10, 10, 10), 0, 10, 10);
        CHECK.speeds("V below the gain", farUp(9000, 9, 10, 10), 0, 9, 9);
        CHECK.speeds("the least of all", farUp(9000, 1, 1, 1), 0, 1, 1, 1);
        CHECK.speeds("the greatest of all", farUp(90000, 2000, 1000, 1000), 0, 1000, 2000, 2000);
        CHECK.speeds("the greatest gain alone", farUp(90000, 1, 1000, 1000), 0, 1, 1);
        CHECK.speeds("down", farDown(9000, 25, 10, 10), 0, down(10, 20, 25, 25));
    }

    // "(if v is above LIMIT: the greater of LIMIT and v - g)"
    private static void aboveTheLimit() {
        int[][] limitAndDue = {{100, 100, 100}, {99, 99, 99}, {81, 81, 81}, {80, 80, 80},
            {79, 80, 79}, {61, 80, 61}, {60, 80, 60}, {59, 80, 60}, {1, 80, 60}};
        for (int[] row : limitAndDue) {
            CarSteps ride = oneCar(6, 0);
            ride.slow(0, 5, row[0]);
            ride.go(0, 5);
            ride.steps(6);
            ride.inspect(0, 1);
            CHECK.speeds("100 with I " + row[0], ride, 0, row[1], row[2]);
            CHECK.is("no fall by more than g", ride.wear(0, 2), 0);
            CarSteps dark = oneCar(6, 0);
            dark.slow(0, row[0], 10);
            dark.go(0, 5);
            dark.steps(8);
            dark.power(false);
            CHECK.speeds("100 with R " + row[0], dark, 0, row[1], row[2]);
        }
        CarSteps below = oneCar(6, 0);
        below.slow(0, 5, 101);
        below.go(0, 5);
        below.steps(6);
        below.inspect(0, 1);
        CHECK.speeds("100 with I 101", below, 0, 101, 101);
        CarSteps fast = oneCar(20, 0);
        fast.slow(0, 5, 2000);
        fast.inspect(0, 1);
        fast.steps(6);
        fast.inspect(0, OFF);
        fast.go(0, 19);
        CHECK.speeds("120 with V 100", fast, 0, 100, 100);
    }

    // "at least v - b": 200 ahead of it at speed 100 it lands by its gain, 120 ahead by its brake, 119 ahead not.
    private static void atLeastWithoutBrake() {
        int[][] farAndDue = {{301, 100}, {300, 100}, {299, 99}, {205, 81}, {200, 80}, {199, 79}, {125, 61}, {124, 61},
            {123, 60}, {121, 60}, {120, 60}};
        for (int[] row : farAndDue) {
            CarSteps x = withWishAhead(row[0], 100, 300, 5);
            CHECK.speeds(row[0] + " ahead", x, 0, row[1]);
            x.steps(20);
            CHECK.is(row[0] + " ahead, it lands without turning", x.wear(0, 1), 300 + row[0]);
        }
        CarSteps none = withWishAhead(119, 100, 300, 5);
        CHECK.speeds("119 ahead", none, 0, 80, 60, 40, 20, 0, -20);
    }

    /** A car on its way up with speed v at a place, and fire so far ahead of it. */
    private static CarSteps withWishAhead(int far, int v, int place, int steps) {
        CarSteps x = new CarSteps(3);
        x.height(2, 50000);
        x.height(1, place + far);
        x.car(0);
        x.rates(0, v, 20, 40);
        x.go(0, 2);
        x.steps(steps);
        CHECK.is("its place", x.told(0, 0), place);
        CHECK.is("its speed", x.told(0, 1), v);
        x.fire(0, 1);
        return x;
    }

    // "at least v - b and 0"
    private static void atLeastZero() {
        CHECK.speeds("39 and 1 ahead", withWishAhead(1, 39, 137, 4), 0, 1, 0);
        CHECK.speeds("40 and 1 ahead", withWishAhead(1, 40, 140, 4), 0, 1, 0);
        CHECK.speeds("41 and 1 ahead", withWishAhead(1, 41, 142, 4), 0, 1, 0);
        CHECK.speeds("42 and 1 ahead", withWishAhead(1, 42, 144, 4), 0, 22, 2, 0, -20, -3, 0);
        CHECK.speeds("42 and 2 ahead", withWishAhead(2, 42, 144, 4), 0, 2, 0);
    }

    // "LENGTH(v, g) is v - g, v - 2 g, .., as far as these are above 0, added"
    private static void lengthOfItsWay() {
        int[][] farAndDue = {
            {1, 1, 0}, {9, 9, 0}, {10, 10, 0}, {11, 10, 1, 0}, {19, 10, 9, 0}, {20, 10, 10, 0}, {21, 10, 10, 1, 0},
            {22, 10, 11, 1, 0}, {23, 10, 11, 2, 0}, {39, 10, 19, 10, 0}, {40, 10, 20, 10, 0}, {41, 10, 20, 10, 1, 0},
            {42, 10, 20, 11, 1, 0}, {60, 10, 20, 20, 10, 0}, {62, 10, 20, 20, 11, 1, 0}, {63, 10, 20, 21, 11, 1, 0},
            {90, 10, 20, 30, 20, 10, 0},
        };
        for (int[] row : farAndDue) {
            int[] due = new int[row.length - 1];
            System.arraycopy(row, 1, due, 0, due.length);
            CarSteps up = farUp(row[0], 2000, 10, 10);
            CHECK.speeds(row[0] + " up", up, 0, due);
            CHECK.is(row[0] + " up, it is there", up.told(0, 0), row[0]);
            CarSteps below = farDown(row[0], 2000, 10, 10);
            CHECK.speeds(row[0] + " down", below, 0, down(due));
            CHECK.is(row[0] + " down, it is there", below.told(0, 0), 0);
            CHECK.is(row[0] + " down, no fall by more than g", below.wear(0, 2), 0);
        }
        CHECK.speeds("gain 1", farUp(9, 2000, 1, 1), 0, 1, 2, 3, 2, 1, 0);
        CHECK.speeds("gain 1000", farUp(4000, 2000, 1000, 1000), 0, 1000, 2000, 1000, 0);
        CHECK.speeds("gain 1000, one less", farUp(3999, 2000, 1000, 1000), 0, 1000, 1999, 1000, 0);
    }

    // "so that u + LENGTH(u, g) is not more than how far that place is"
    private static void farEnough() {
        int[][] farAndDue = {{1, 1}, {2, 2}, {999, 999}, {1000, 1000}, {1001, 1000}};
        for (int[] row : farAndDue) {
            CHECK.speeds(row[0] + " far", farUp(row[0], 2000, 1000, 1000), 0, row[1]);
        }
        CarSteps whole = farUp(100000, 2000, 1000, 1000);
        whole.steps(53);
        CHECK.is("the whole shaft", whole.told(0, 0), 100000);
        CHECK.is("no step too far", whole.wear(0, 1), 100000);
        for (int g : new int[] {1, 2, 3, 7, 20, 333, 1000}) {
            for (int far : new int[] {1, 2, 3, 50, 51, 997, 1000}) {
                CarSteps x = farUp(far, 2000, g, 1000);
                x.steps(1000);
                CHECK.is("it lands at " + far + " with g " + g, x.told(0, 0), far);
                CHECK.is("it lands at " + far + " straight", x.wear(0, 1), far);
                CHECK.is("the call is over", x.wear(0, 5), 1);
            }
        }
    }

    // "If there is none, .. it BRAKES"
    private static void noneSoItBrakes() {
        CarSteps x = withWishAhead(59, 100, 300, 5);
        CHECK.speeds("59 ahead of 100: past it by g", x, 0, 80, 60, 40, 20, 0);
        CHECK.is("it passed", x.told(0, 0), 500);
        CHECK.is("no fall by more than g", x.wear(0, 2), 0);
        x.steps(30);
        CHECK.is("it comes back", x.told(0, 0), 359);
        CHECK.is("it started twice", x.wear(0, 0), 2);
    }

    // "or if it goes and wants nothing"
    private static void brakesIfItWantsNothing() {
        CarSteps ride = oneCar(6, 0);
        ride.slow(0, 5, 70);
        ride.inspect(0, 1);
        ride.steps(4);
        ride.inspect(0, 0);
        CHECK.speeds("a ride of 0", ride, 0, 50, 30, 10, 0, 0);
        CarSteps normal = oneCar(6, 0);
        normal.fire(0, 5);
        normal.steps(3);
        normal.fire(0, NONE);
        CHECK.speeds("no calls", normal, 0, 40, 20, 0, 0);
        CHECK.is("it stands between floors", normal.told(0, 6), NONE);
        CHECK.door("it lands nowhere", normal, 0, 0, 0);
    }

    // "or something behind it"
    private static void brakesIfItIsBehind() {
        CarSteps up = oneCar(6, 3);
        up.go(0, 5);
        up.steps(3);
        up.fire(0, 3);
        CHECK.speeds("behind it, up", up, 0, 40, 20, 0, -20);
        CarSteps below = oneCar(6, 3);
        below.go(0, 0);
        below.steps(3);
        below.fire(0, 3);
        CHECK.speeds("behind it, down", below, 0, -40, -20, 0, 20);
    }

    // "or to be here"
    private static void brakesIfItIsHere() {
        CarSteps x = oneCar(6, 0);
        x.fire(0, 5);
        x.go(0, 1);
        x.steps(12);
        x.fire(0, NONE);
        CHECK.is("it is where it wants to be", x.told(0, 7), x.told(0, 0));
        CHECK.speeds("and goes", x, 0, 80);
        CHECK.is("the call is not over", x.told(0, 5), 1);
        CHECK.door("it does not land", x, 0, 0, 0);
        CHECK.speeds("it turns", x, 0, 60, 40, 20, 0, -20);
        x.steps(20);
        CHECK.is("the call is over", x.told(0, 5), 0);
        CHECK.is("there", x.told(0, 6), 1);
    }

    // "u is the greatest number of at most v - g (0, if that is less; ..) and at least v - b and 0"
    private static void brakesByItsGain() {
        int[][] speedAndDue = {{1, 0, 0}, {19, 0, 0}, {20, 0, 0}, {21, 1, 0}, {40, 20, 0}, {41, 21, 1}};
        for (int[] row : speedAndDue) {
            CarSteps x = oneCar(6, 0);
            x.slow(0, 5, row[0]);
            x.inspect(0, 1);
            x.steps(3);
            CHECK.is("its speed", x.told(0, 1), row[0]);
            x.inspect(0, 0);
            CHECK.speeds("it brakes from " + row[0], x, 0, row[1], row[2]);
            CHECK.is("no fall by more than g", x.wear(0, 2), 0);
        }
    }

    // "in CHAIN with b for g"
    private static void brakesInChain() {
        int[][] speedAndDue = {{1, 0, 0, 0}, {20, 0, 0, 0}, {21, 0, 0, 1}, {39, 0, 0, 1}, {40, 0, 0, 1}, {41, 1, 0, 1},
            {80, 40, 0, 2}, {81, 41, 1, 2}};
        for (int[] row : speedAndDue) {
            CarSteps x = oneCar(6, 0);
            x.slow(0, 5, row[0]);
            x.inspect(0, 1);
            x.steps(5);
            CHECK.is("its speed", x.told(0, 1), row[0]);
            x.contact(0, 7, true);
            CHECK.speeds("it brakes in CHAIN from " + row[0], x, 0, row[1], row[2]);
            CHECK.is("falls by more than g from " + row[0], x.wear(0, 2), row[3]);
        }
        CarSteps far = oneCar(6, 0);
        far.rates(0, 100, 20, 20);
        far.go(0, 5);
        far.steps(5);
        far.contact(0, 0, true);
        CHECK.speeds("b may be g", far, 0, 80, 60);
    }

    // "and at least v - b and 0 with which it is FREE": at place 300 with speed 100, so much room to stand in.
    private static void brakesWithinItsFreeWay() {
        int[][] roomAndDue = {{121, 80, 40}, {120, 80, 40}, {119, 79, 40}, {100, 70, 30}, {82, 61, 21}, {81, 60, 21},
            {80, 60, 20}};
        for (int[] row : roomAndDue) {
            CarSteps x = belowAnother(300 + row[0]);
            x.fire(0, 0);
            CHECK.speeds("it brakes with room " + row[0], x, 0, row[1], row[2]);
            x.steps(2);
            CHECK.is("within its room " + row[0], x.wear(0, 1) <= 300 + row[0] + 20, true);
            CarSteps nothing = belowAnother(300 + row[0]);
            nothing.inspect(0, 0);
            CHECK.speeds("it wants nothing with room " + row[0], nothing, 0, row[1], row[2]);
            CarSteps chain = belowAnother(300 + row[0]);
            chain.contact(0, 0, true);
            CHECK.speeds("CHAIN with room " + row[0], chain, 0, 60, 20, 0);
        }
    }

    /** Car 0 at place 300 with speed 100; it may stand at a place and no higher. */
    private static CarSteps belowAnother(int free) {
        CarSteps x = new CarSteps(6);
        x.height(1, free + 500);
        x.car(0);
        x.car(1);
        x.go(0, 5);
        x.steps(5);
        CHECK.is("its place", x.told(0, 0), 300);
        CHECK.is("its speed", x.told(0, 1), 100);
        return x;
    }

    private SpeedEdgesTest() {
    }
}
