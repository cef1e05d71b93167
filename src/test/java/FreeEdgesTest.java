/**
 * "FREE it is with u, when it goes toward the other car, if its place behind this step, and LENGTH(u, b) more on its
 * way, and the GAP, do not lie beyond where the other one can stand: its place, or, if it goes toward this one, its
 * place and LENGTH(its speed, its b) on its way."
 */
public final class FreeEdgesTest {
    private static final Check CHECK = new Check();

    public static void main(String[] args) {
        startsWithinItsRoom();
        gapAtItsBounds();
        lengthByItsBrake();
        awayFromTheOther();
        otherStands();
        otherGoesAway();
        otherComes();
        otherComesByItsOwnBrake();
        carZeroFirst();
        carOneSeesTheStepOfCarZero();
        wishBehindTheOther();
        oneCarIsFree();
        neverTooNear();
        CHECK.end();
    }

    /** Two cars with so much room beyond the gap; both are called past each other only by `go`. */
    private static CarSteps twoCars(int gap, int room) {
        CarSteps x = new CarSteps(3);
        x.gap(gap);
        x.height(2, 90000);
        x.height(1, 40000 + gap + room);
        x.height(0, 40000);
        x.car(0);
        x.car(1);
        return x;
    }

    private static int placeOf(CarSteps x, int car) {
        return x.told(car, 0);
    }

    // "do not lie beyond": at it is not beyond it.
    private static void startsWithinItsRoom() {
        int[][] roomAndDue = {{1, 1}, {2, 2}, {19, 19}, {20, 20}, {21, 20}};
        for (int[] row : roomAndDue) {
            CarSteps up = twoCars(500, row[0]);
            up.go(0, 2);
            CHECK.speeds("car 0 with room " + row[0], up, 0, row[1]);
            CHECK.is("it started", up.wear(0, 0), 1);
            CarSteps down = twoCars(500, row[0]);
            down.go(1, 0);
            CHECK.speeds("car 1 with room " + row[0], down, 1, -row[1]);
            CHECK.is("it started", down.wear(1, 0), 1);
        }
        CarSteps none = twoCars(500, 0);
        none.go(0, 2);
        none.go(1, 0);
        none.steps(9);
        for (int car = 0; car < 2; car++) {
            CHECK.is("without room it stays", none.told(car, 1), 0);
            CHECK.is("without room it does not start", none.wear(car, 0), 0);
            CHECK.is("without room it does not go", none.wear(car, 1), 0);
            CHECK.is("its call is kept", none.told(car, 5), 1);
            CHECK.door("it does not land", none, car, 0, 0);
        }
    }

    private static void gapAtItsBounds() {
        for (int gap : new int[] {0, 1, 9999, 10000}) {
            CarSteps x = twoCars(gap, 777);
            x.go(0, 2);
            x.steps(100);
            CHECK.is("car 0 comes up to gap " + gap, placeOf(x, 1) - placeOf(x, 0), gap);
            CarSteps y = twoCars(gap, 777);
            y.go(1, 0);
            y.fire(0, 0);
            y.steps(100);
            CHECK.is("car 1 comes down to gap " + gap, placeOf(y, 1) - placeOf(y, 0), gap);
        }
    }

    // "LENGTH(u, b) more on its way"
    private static void lengthByItsBrake() {
        int[][] roomAndDue = {{59, 20, 39, 0}, {60, 20, 40, 0}, {61, 20, 40, 1}, {99, 20, 40, 39}, {100, 20, 40, 40},
            {101, 20, 40, 40}, {102, 20, 40, 41}, {103, 20, 40, 41}, {104, 20, 40, 42}, {120, 20, 40, 50},
            {139, 20, 40, 59}, {140, 20, 40, 60}};
        for (int[] row : roomAndDue) {
            CarSteps up = twoCars(500, row[0]);
            up.go(0, 2);
            CHECK.speeds("car 0 with room " + row[0], up, 0, row[1], row[2], row[3]);
            CarSteps down = twoCars(500, row[0]);
            down.go(1, 0);
            CHECK.speeds("car 1 with room " + row[0], down, 1, -row[1], -row[2], -row[3]);
        }
    }

    // "when it goes toward the other car"
    private static void awayFromTheOther() {
        CarSteps x = new CarSteps(4);
        x.car(1);
        x.car(2);
        x.go(0, 0);
        x.go(1, 3);
        CHECK.speeds("car 0 goes away", x, 0, -20, -40, -60);
        CHECK.is("car 1 goes away", x.told(1, 1), 60);
        CarSteps touching = new CarSteps(4);
        touching.gap(1000);
        touching.car(1);
        touching.car(2);
        touching.go(0, 0);
        touching.go(1, 3);
        CHECK.speeds("car 0 goes away from its gap", touching, 0, -20, -40, -60);
        CHECK.is("car 1 goes away from its gap", touching.told(1, 1), 60);
    }

    // "where the other one can stand: its place"
    private static void otherStands() {
        CarSteps x = twoCars(500, 300);
        x.go(0, 2);
        x.steps(50);
        CHECK.is("up to the gap below it", placeOf(x, 0), placeOf(x, 1) - 500);
        CHECK.is("it stands", x.told(0, 1), 0);
        x.fire(0, 0);
        x.steps(100);
        x.go(1, 0);
        x.steps(100);
        CHECK.is("down to the gap above it", placeOf(x, 1), placeOf(x, 0) + 500);
    }

    // "its place, or, if it goes toward this one": one that goes away is where it is.
    private static void otherGoesAway() {
        CarSteps x = twoCars(0, 10);
        x.go(0, 2);
        x.go(1, 2);
        // Car 0 is held by the place of car 1, which is 10, 30, 70, 130 above where car 0 began.
        CHECK.speeds("behind car 1", x, 0, 10, 20, 40, 50);
        CHECK.is("car 1 is not held", x.told(1, 1), 80);
        CarSteps y = new CarSteps(3);
        y.gap(0);
        y.height(2, 40010);
        y.height(1, 40000);
        y.car(1);
        y.car(2);
        y.go(0, 0);
        y.go(1, 0);
        // Car 0 steps first, to 20, 60, 120, 200 below its floor: so car 1 has 30, 50, 70, 95 of room.
        CHECK.speeds("behind car 0", y, 1, -20, -40, -55, -67);
        CHECK.is("car 0 is not held", y.told(0, 1), -80);
    }

    // "or, if it goes toward this one, its place and LENGTH(its speed, its b) on its way"
    private static void otherComes() {
        // Car 1 comes down with 60 and b 40: it can stand 20 below its place.
        for (int room : new int[] {20, 21, 39, 40, 41}) {
            CarSteps x = twoCars(500, 120 + room);
            x.go(1, 0);
            x.steps(3);
            CHECK.is("car 1 comes with 60", x.told(1, 1), -60);
            x.go(0, 2);
            CHECK.speeds("toward car 1 with room " + room, x, 0, Math.min(room - 20, 20));
        }
        // Car 0 goes on with 60, its V: behind the step it is 60 farther and can stand 20 above its place.
        for (int room : new int[] {80, 81, 99, 100, 101}) {
            CarSteps x = twoCars(500, 120 + room);
            x.rates(0, 60, 20, 40);
            x.go(0, 2);
            x.steps(3);
            CHECK.is("car 0 comes with 60", x.told(0, 1), 60);
            x.go(1, 0);
            CHECK.speeds("toward car 0 with room " + room, x, 1, -Math.min(room - 80, 20));
            CHECK.is("car 0 comes with 60", x.told(0, 1), 60);
        }
    }

    private static void otherComesByItsOwnBrake() {
        CarSteps x = new CarSteps(3);
        x.gap(0);
        x.height(0, 830);
        x.car(0);
        x.car(1);
        x.rates(0, 100, 30, 40);
        x.rates(1, 50, 25, 25);
        x.go(1, 0);
        x.steps(3);
        CHECK.is("car 1", placeOf(x, 1), 875);
        CHECK.is("car 1", x.told(1, 1), -50);
        // By its own b, 25, it can stand at 850; by car 0's it would be 865.
        x.go(0, 1);
        CHECK.speeds("up to 850", x, 0, 20);
        CHECK.is("car 1 brakes to 850", placeOf(x, 1), 850);
        CHECK.is("car 1 brakes", x.told(1, 1), -25);
        x.steps(1);
        CHECK.is("car 0 stands", x.told(0, 1), 0);
        CHECK.is("car 1 stands", x.told(1, 1), 0);
        CHECK.is("no gap is left", placeOf(x, 1) - placeOf(x, 0), 0);
    }

    // "A STEP, of car 0, then of car 1"
    private static void carZeroFirst() {
        for (int room : new int[] {1, 20, 39, 40}) {
            CarSteps x = twoCars(500, room);
            x.go(0, 2);
            x.go(1, 0);
            x.steps(1);
            CHECK.is("car 0 takes the room " + room, x.told(0, 1), Math.min(room, 20));
            CHECK.is("car 1 has what is left of " + room, x.told(1, 1), -Math.max(room - 20, 0));
        }
    }

    private static void carOneSeesTheStepOfCarZero() {
        CarSteps x = twoCars(500, 0);
        x.go(0, 2);
        x.go(1, 2);
        x.steps(1);
        CHECK.is("car 0 does not see the step of car 1 yet", x.told(0, 1), 0);
        CHECK.is("car 1 goes", x.told(1, 1), 20);
        x.steps(1);
        CHECK.is("but in the next one", x.told(0, 1), 20);
        CarSteps y = new CarSteps(4);
        y.gap(1000);
        y.car(1);
        y.car(2);
        y.go(0, 0);
        y.go(1, 0);
        y.steps(1);
        CHECK.is("car 0 goes", y.told(0, 1), -20);
        CHECK.is("car 1 sees the step of car 0 at once", y.told(1, 1), -20);
    }

    private static void wishBehindTheOther() {
        for (int place : new int[] {2500, 2501}) {
            CarSteps x = new CarSteps(4);
            x.height(2, place);
            x.car(0);
            x.car(3);
            x.go(0, 2);
            x.steps(100);
            CHECK.is("as far as the gap", placeOf(x, 0), 2500);
            CHECK.is("it lands at " + place, x.wear(0, 5), place == 2500 ? 1 : 0);
        }
        for (int place : new int[] {500, 499}) {
            CarSteps x = new CarSteps(4);
            x.height(1, place);
            x.car(0);
            x.car(3);
            x.go(1, 1);
            x.steps(100);
            CHECK.is("as far as the gap", placeOf(x, 1), 500);
            CHECK.is("it lands at " + place, x.wear(1, 5), place == 500 ? 1 : 0);
        }
    }

    private static void oneCarIsFree() {
        CarSteps x = new CarSteps(20);
        x.gap(10000);
        x.car(0);
        x.go(0, 19);
        x.steps(300);
        CHECK.is("no other car, no gap", placeOf(x, 0), 19000);
    }

    // "two cars in one shaft that never come too near"
    private static void neverTooNear() {
        int[][] rates = {{1, 1, 1}, {100, 20, 40}, {97, 13, 13}, {2000, 1000, 1000}, {2000, 1, 1000}, {333, 50, 51}};
        for (int[] a : rates) {
            for (int[] b : rates) {
                CarSteps x = twoCars(123, 457);
                x.rates(0, a[0], a[1], a[2]);
                x.rates(1, b[0], b[1], b[2]);
                x.go(0, 2);
                x.go(1, 0);
                for (int k = 0; k < 150; k++) {
                    x.steps(4);
                    int between = placeOf(x, 1) - placeOf(x, 0);
                    CHECK.is("never nearer than the gap: " + between, between >= 123, true);
                }
                CHECK.is("as near as they may be", placeOf(x, 1) - placeOf(x, 0), 123);
            }
        }
    }

    private FreeEdgesTest() {
    }
}
