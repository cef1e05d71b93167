/** Promise 18 and the rules of a STEP: speeds, landings, modes, doors, two cars. */
public final class SteppingTest {
    private static final Check CHECK = new Check();

    public static void main(String[] args) {
        steps();
        landsExactly();
        landsWhereTheWayIsShort();
        goesBehindItsWish();
        brakesHarderForANearerWish();
        staysWhileItMayNotStart();
        aboveItsLimit();
        chain();
        chainHoldsTheDoor();
        dark();
        darkNearest();
        darkDoor();
        fire();
        fireDoor();
        inspection();
        modesInOrder();
        landingWithAnOpenDoor();
        closingDoor();
        carsKeepTheirGap();
        carsSeeEachOtherBraking();
        carZeroStepsFirst();
        CHECK.end();
    }

    private static CarSteps oneCar(int floors, int floor) {
        CarSteps x = new CarSteps(floors);
        x.car(floor);
        return x;
    }

    private static void steps() {
        CarSteps x = oneCar(3, 0);
        CHECK.argument("0 steps", () -> x.steps(0));
        CHECK.argument("-1 steps", () -> x.steps(-1));
        CHECK.argument("1001 steps", () -> x.steps(1001));
        CHECK.argument("far too many", () -> x.steps(Integer.MAX_VALUE));
        CHECK.is("in all", x.steps(1), 1);
        CHECK.is("in all", x.steps(1000), 1001);
        CHECK.is("in all", x.steps(7), 1008);
        x.go(0, 2);
        CarSteps y = oneCar(3, 0);
        y.go(0, 2);
        x.steps(17);
        for (int k = 0; k < 17; k++) {
            y.steps(1);
        }
        CHECK.is("17 steps are 17 times one", x.told(0, 0), y.told(0, 0));
    }

    private static void landsExactly() {
        CarSteps x = oneCar(3, 0);
        x.go(0, 1);
        // At 700 there are 300 left: 100 + 80 + 60 + 40 + 20.
        CHECK.speeds("1000 up", x, 0, 20, 40, 60, 80, 100, 100, 100, 100, 100, 100, 80, 60, 40, 20);
        CHECK.is("there", x.told(0, 0), 1000);
        CHECK.is("the call is not over while it goes", x.told(0, 5), 1);
        CHECK.is("CLOSED", x.told(0, 3), 0);
        CHECK.speeds("1000 up", x, 0, 0);
        CHECK.is("the call is over", x.told(0, 5), 0);
        CHECK.is("OPENING in the landing step", x.told(0, 3), 1);
        CHECK.is("one place in that step", x.told(0, 4), 1);
        x.steps(29);
        CHECK.is("CLOSED again", x.told(0, 3), 0);
        x.go(0, 0);
        CHECK.speeds("1000 down", x, 0, -20, -40, -60);
        CHECK.is("down", x.told(0, 0), 880);
    }

    private static void landsWhereTheWayIsShort() {
        CarSteps x = new CarSteps(3);
        x.height(1, 1);
        x.height(2, 75);
        x.car(0);
        x.go(0, 1);
        CHECK.speeds("1 up", x, 0, 1, 0);
        CHECK.is("there", x.told(0, 0), 1);
        x.steps(40);
        x.go(0, 2);
        // 74 left: 20; 54: 37 + 17 = 54, below 40; then 17, then there.
        CHECK.speeds("74 up", x, 0, 20, 37, 17, 0);
        CHECK.is("there", x.told(0, 0), 75);
    }

    private static void goesBehindItsWish() {
        CarSteps x = oneCar(6, 0);
        x.go(0, 5);
        x.steps(10);
        CHECK.is("place", x.told(0, 0), 800);
        x.fire(0, 0);
        CHECK.speeds("brakes by g, turns", x, 0, 80, 60, 40, 20, 0, -20, -40);
        CHECK.is("place", x.told(0, 0), 940);
        CHECK.is("no hard brake", x.wear(0, 2), 0);
        CarSteps y = oneCar(6, 0);
        y.go(0, 5);
        y.steps(12);
        CHECK.is("place", y.told(0, 0), 1000);
        y.fire(0, 1);
        CHECK.speeds("it is here and goes: brakes", y, 0, 80, 60, 40, 20, 0, -20);
        CHECK.is("place", y.told(0, 0), 1180);
    }

    private static void brakesHarderForANearerWish() {
        CarSteps x = oneCar(6, 0);
        x.go(0, 5);
        x.steps(9);
        CHECK.is("place", x.told(0, 0), 700);
        // 300 left with speed 100: 100 + 80 + 60 + 40 + 20 is just enough.
        x.fire(0, 1);
        CHECK.speeds("just enough", x, 0, 100);
        CarSteps y = new CarSteps(6);
        y.height(1, 900);
        y.car(0);
        y.go(0, 5);
        y.steps(9);
        y.fire(0, 1);
        // 200 left: 80 + 60 + 40 + 20 is 200.
        CHECK.speeds("by g", y, 0, 80);
        CarSteps z = new CarSteps(6);
        z.height(1, 820);
        z.car(0);
        z.go(0, 5);
        z.steps(9);
        z.fire(0, 1);
        // 120 left: 60 + 40 + 20; that falls by 40, which is b.
        CHECK.speeds("by b", z, 0, 60, 40, 20, 0);
        CHECK.is("there", z.told(0, 0), 820);
        CHECK.is("a hard fall", z.wear(0, 2), 1);
        CarSteps w = new CarSteps(6);
        w.height(1, 819);
        w.car(0);
        w.go(0, 5);
        w.steps(9);
        w.fire(0, 1);
        // 119 left: none within b, so it brakes by g and passes.
        CHECK.speeds("none: by g", w, 0, 80, 60);
        CHECK.is("it passes", w.told(0, 0), 840);
        CHECK.speeds("behind it", w, 0, 40, 20, 0, -20, -40, -20, -1, 0);
        CHECK.is("there", w.told(0, 0), 819);
        CHECK.is("brakes by g alone", w.wear(0, 2), 0);
    }

    private static void staysWhileItMayNotStart() {
        CarSteps x = oneCar(3, 0);
        x.steps(10);
        CHECK.is("wants nothing", x.told(0, 0), 0);
        x.open(0);
        x.go(0, 1);
        x.steps(29);
        CHECK.is("the door is not CLOSED", x.told(0, 4), 1);
        CHECK.is("the door is not CLOSED", x.told(0, 0), 0);
        x.steps(1);
        CHECK.is("CLOSED now, not yet gone", x.told(0, 0), 0);
        x.load(0, 2000);
        x.steps(10);
        CHECK.is("too heavy", x.told(0, 0), 0);
        CHECK.is("too heavy, but the door is CLOSED", x.told(0, 3), 0);
        x.load(0, 0);
        CHECK.speeds("starts", x, 0, 20);
    }

    private static void aboveItsLimit() {
        CarSteps x = oneCar(20, 0);
        x.go(0, 19);
        x.steps(10);
        x.inspect(0, 1);
        CHECK.speeds("falls to I by g", x, 0, 80, 60, 40, 20, 10, 10);
        CHECK.is("no hard fall", x.wear(0, 2), 0);
        x.slow(0, 5, 300);
        CHECK.speeds("I may be above V", x, 0, 30, 50, 70, 90, 110, 130);
        x.inspect(0, CarSteps.OFF);
        CHECK.speeds("back to V", x, 0, 110, 100, 100);
    }

    private static void chain() {
        CarSteps x = oneCar(6, 0);
        x.go(0, 5);
        x.steps(10);
        x.contact(0, 2, true);
        CHECK.is("CHAIN", x.told(0, 2), 1);
        CHECK.is("wants nothing", x.told(0, 7), CarSteps.NONE);
        CHECK.speeds("brakes by b", x, 0, 60, 20, 0, 0);
        CHECK.is("stands between floors", x.told(0, 0), 880);
        CHECK.is("falls above g", x.wear(0, 2), 2);
        CHECK.is("the call is kept", x.told(0, 5), 1);
        x.contact(0, 2, false);
        CHECK.speeds("goes on", x, 0, 20, 40);
    }

    private static void chainHoldsTheDoor() {
        CarSteps x = oneCar(3, 1);
        x.door(0, 4, 3);
        x.open(0);
        x.steps(2);
        x.contact(0, 0, true);
        x.steps(10);
        CHECK.is("OPENING stays", x.told(0, 4), 2);
        x.contact(0, 0, false);
        x.steps(4);
        CHECK.is("OPEN for 2 steps", x.told(0, 3), 2);
        x.contact(0, 0, true);
        x.steps(10);
        CHECK.is("OPEN stays", x.told(0, 3), 2);
        x.contact(0, 0, false);
        x.steps(1);
        CHECK.is("CLOSING behind 3 steps in all", x.told(0, 3), 3);
        x.contact(0, 0, true);
        x.beam(0, true);
        x.steps(10);
        CHECK.is("CLOSING stays", x.told(0, 3), 3);
        CHECK.is("CLOSING stays", x.told(0, 4), 4);
        x.go(0, 1);
        x.steps(10);
        CHECK.is("no landing in CHAIN", x.told(0, 5), 1);
    }

    private static void dark() {
        CarSteps x = oneCar(6, 0);
        x.go(0, 5);
        x.steps(8);
        CHECK.is("place", x.told(0, 0), 600);
        x.power(false);
        CHECK.is("the nearest", x.told(0, 7), 1000);
        CHECK.speeds("falls to R", x, 0, 80, 60, 40, 20, 5, 5);
        x.steps(38);
        CHECK.is("there", x.told(0, 0), 1000);
        CHECK.is("CLOSED until it stands", x.told(0, 3), 0);
        x.steps(1);
        CHECK.is("OPENING", x.told(0, 3), 1);
        CHECK.is("calls are kept", x.told(0, 5), 1);
        CHECK.is("no call is over", x.wear(0, 5), 0);
    }

    private static void darkNearest() {
        CarSteps x = new CarSteps(3);
        x.height(1, 400);
        x.car(0);
        x.go(0, 2);
        x.steps(4);
        CHECK.is("place", x.told(0, 0), 200);
        x.power(false);
        CHECK.is("the lower one of two as near", x.told(0, 7), 0);
        CHECK.speeds("behind it first, then ahead", x, 0, 60, 40);
        CHECK.is("the wish changes on the way", x.told(0, 7), 400);
        CarSteps y = oneCar(3, 2);
        y.go(0, 0);
        y.steps(5);
        CHECK.is("place", y.told(0, 0), 1700);
        y.power(false);
        CHECK.is("the nearest is behind it", y.told(0, 7), 2000);
        CHECK.speeds("brakes", y, 0, -80, -60, -40, -20);
        CHECK.is("as near as the upper one", y.told(0, 0), 1500);
        CHECK.is("the lower one", y.told(0, 7), 1000);
        CHECK.speeds("goes on down", y, 0, -5);
    }

    private static void darkDoor() {
        CarSteps x = oneCar(3, 1);
        x.door(0, 2, 1);
        x.power(false);
        x.steps(2);
        CHECK.is("opens where it stands", x.told(0, 3), 2);
        x.steps(100);
        CHECK.is("stays OPEN", x.told(0, 3), 2);
        CHECK.is("once", x.wear(0, 3), 1);
        x.close(0);
        x.steps(1);
        CHECK.is("opens again", x.told(0, 3), 2);
        CHECK.is("behind CLOSING", x.wear(0, 4), 1);
        x.power(true);
        x.steps(1);
        CHECK.is("closes with power", x.told(0, 3), 3);
    }

    private static void fire() {
        CarSteps x = oneCar(6, 2);
        x.go(0, 5);
        x.steps(3);
        x.fire(0, 0);
        x.steps(60);
        CHECK.is("the fire floor", x.told(0, 0), 0);
        CHECK.is("OPEN", x.told(0, 3), 2);
        x.steps(500);
        CHECK.is("stays OPEN", x.told(0, 3), 2);
        CHECK.is("its call is kept", x.told(0, 5), 1);
        x.fire(0, CarSteps.NONE);
        x.steps(200);
        CHECK.is("then its call", x.told(0, 0), 5000);
        CHECK.is("is over", x.wear(0, 5), 1);
    }

    private static void fireDoor() {
        CarSteps x = oneCar(6, 2);
        x.door(0, 3, 100);
        x.open(0);
        x.steps(3);
        x.beam(0, true);
        x.fire(0, 0);
        x.load(0, 1001);
        x.steps(3);
        CHECK.is("too heavy: OPEN", x.told(0, 3), 2);
        x.load(0, 1000);
        x.steps(1);
        CHECK.is("CLOSING at once, light bar or not", x.told(0, 3), 3);
        x.steps(1);
        CHECK.is("the light bar does not count", x.told(0, 4), 2);
        x.load(0, 1001);
        x.steps(1);
        CHECK.is("the load does", x.told(0, 3), 1);
        CHECK.is("its place stays", x.told(0, 4), 2);
        x.load(0, 0);
        x.steps(5);
        CHECK.is("CLOSED", x.told(0, 3), 0);
        CHECK.is("it did not go before", x.told(0, 0), 2000);
        CHECK.speeds("down", x, 0, -20);
    }

    private static void inspection() {
        CarSteps x = oneCar(3, 1);
        x.go(0, 1);
        x.inspect(0, 1);
        CHECK.speeds("by I", x, 0, 10, 10);
        x.steps(98);
        CHECK.is("the highest floor", x.told(0, 0), 2000);
        x.steps(10);
        CHECK.is("stands", x.told(0, 1), 0);
        CHECK.is("CLOSED", x.told(0, 3), 0);
        CHECK.is("no call is over", x.told(0, 5), 1);
        x.inspect(0, -1);
        CHECK.speeds("down", x, 0, -10);
        x.inspect(0, 0);
        CHECK.speeds("stops", x, 0, 0, 0);
        CHECK.is("place", x.told(0, 0), 1990);
        CarSteps y = oneCar(3, 1);
        y.open(0);
        y.inspect(0, 1);
        y.steps(100);
        CHECK.is("OPEN stays OPEN", y.told(0, 3), 2);
        CHECK.is("and it stands", y.told(0, 0), 1000);
        y.close(0);
        y.beam(0, true);
        y.steps(1);
        CHECK.is("the light bar counts", y.told(0, 3), 1);
        y.beam(0, false);
        y.steps(1);
        y.close(0);
        y.steps(6);
        CHECK.is("closed by hand it goes", y.told(0, 1), 10);
    }

    private static void modesInOrder() {
        CarSteps x = oneCar(3, 1);
        x.inspect(0, 0);
        CHECK.is("INSPECTION", x.told(0, 2), 4);
        x.fire(0, 2);
        CHECK.is("FIRE", x.told(0, 2), 3);
        x.power(false);
        CHECK.is("DARK", x.told(0, 2), 2);
        x.contact(0, 7, true);
        CHECK.is("CHAIN", x.told(0, 2), 1);
        x.power(true);
        CHECK.is("CHAIN", x.told(0, 2), 1);
        x.contact(0, 7, false);
        x.fire(0, CarSteps.NONE);
        CHECK.is("INSPECTION", x.told(0, 2), 4);
    }

    private static void landingWithAnOpenDoor() {
        CarSteps x = oneCar(3, 1);
        x.door(0, 2, 5);
        x.open(0);
        x.steps(6);
        CHECK.is("OPEN for 4 steps", x.told(0, 3), 2);
        x.go(0, 1);
        x.steps(1);
        CHECK.is("the call is over", x.told(0, 5), 0);
        x.steps(3);
        CHECK.is("OPEN for 4 steps anew", x.told(0, 3), 2);
        x.steps(1);
        CHECK.is("CLOSING", x.told(0, 3), 3);
        x.go(0, 1);
        x.steps(1);
        CHECK.is("OPENING and OPEN in that step", x.told(0, 3), 2);
        CHECK.is("behind CLOSING", x.wear(0, 4), 1);
        x.go(0, 1);
        x.go(0, 1);
        x.steps(1);
        CHECK.is("one call in a step", x.told(0, 5), 1);
        x.load(0, 5000);
        x.steps(1);
        CHECK.is("too heavy, it lands where it is", x.told(0, 5), 0);
        x.steps(20);
        CHECK.is("too heavy to close", x.told(0, 3), 2);
    }

    private static void closingDoor() {
        CarSteps x = oneCar(3, 1);
        x.door(0, 4, 0);
        x.open(0);
        x.steps(7);
        CHECK.is("CLOSING", x.told(0, 4), 2);
        x.load(0, 1001);
        x.steps(1);
        CHECK.is("too heavy: OPENING", x.told(0, 3), 1);
        CHECK.is("its place stays in this step", x.told(0, 4), 2);
        x.load(0, 0);
        x.steps(2);
        CHECK.is("OPEN", x.told(0, 3), 2);
        x.beam(0, true);
        x.steps(5);
        CHECK.is("OPEN", x.told(0, 3), 2);
        x.beam(0, false);
        x.steps(2);
        x.beam(0, true);
        x.steps(1);
        CHECK.is("OPENING", x.told(0, 3), 1);
        CHECK.is("its place stays in this step", x.told(0, 4), 3);
    }

    private static void carsKeepTheirGap() {
        CarSteps x = new CarSteps(6);
        x.car(0);
        x.car(2);
        x.go(0, 3);
        x.steps(300);
        CHECK.is("stops a gap below car 1", x.told(0, 0), 1500);
        CHECK.is("stands", x.told(0, 1), 0);
        CHECK.is("its call is kept", x.told(0, 5), 1);
        x.go(1, 0);
        x.steps(10);
        CHECK.is("neither gives way", x.told(1, 0), 2000);
        x.fire(1, 5);
        x.steps(200);
        CHECK.is("car 0 lands when it may", x.told(0, 0), 3000);
        CHECK.is("car 1 is away", x.told(1, 0), 5000);
        x.fire(0, 0);
        x.fire(1, 0);
        x.steps(300);
        CHECK.is("car 0 goes away from car 1 freely", x.told(0, 0), 0);
        CHECK.is("car 1 stops a gap above car 0", x.told(1, 0), 500);
    }

    private static void carsSeeEachOtherBraking() {
        CarSteps x = new CarSteps(6);
        x.gap(0);
        x.height(1, 200);
        x.car(0);
        x.car(1);
        x.go(0, 5);
        x.go(1, 0);
        // Car 0 to 20 (20), 60 (40). Car 1 from 200 to 180 (20), then 180 - 40 = 140 and 40 + 0 within car 0's 60.
        x.steps(2);
        CHECK.is("car 0", x.told(0, 0), 60);
        CHECK.is("car 1", x.told(1, 0), 140);
        // Car 0: LENGTH(40, 40) of car 1 is 0, so 80 are free: 60 + 20.
        x.steps(1);
        CHECK.is("car 0", x.told(0, 0), 120);
        CHECK.is("car 0 can stand at 140", x.told(0, 1), 60);
        // Car 1 is at 140 with 40: only 0 is free.
        CHECK.is("car 1", x.told(1, 0), 140);
        CHECK.is("car 1 brakes", x.told(1, 1), 0);
        CHECK.is("by more than g", x.wear(1, 2), 1);
        x.steps(1);
        CHECK.is("car 0", x.told(0, 0), 140);
        CHECK.is("car 0 falls by b", x.told(0, 1), 20);
        x.steps(1);
        CHECK.is("car 0 stands", x.told(0, 1), 0);
        CHECK.is("car 0", x.told(0, 0), 140);
    }

    private static void carZeroStepsFirst() {
        CarSteps x = new CarSteps(2);
        x.gap(0);
        x.height(1, 10);
        x.car(0);
        x.car(1);
        x.go(0, 1);
        x.go(1, 0);
        x.steps(50);
        CHECK.is("car 0 takes the room", x.told(0, 0), 10);
        CHECK.is("car 1 stays", x.told(1, 0), 10);
    }

    private SteppingTest() {
    }
}
