/** Promises 19 and 20: told, wear. */
public final class AskingTest {
    private static final Check CHECK = new Check();

    public static void main(String[] args) {
        wrongQuestions();
        toldOnTheWay();
        toldDoor();
        toldChangesNothing();
        wearOfAWay();
        wearOfStarts();
        wearOfFalls();
        wearOfDoors();
        wearOfCalls();
        CHECK.end();
    }

    private static CarSteps oneCar(int floors, int floor) {
        CarSteps x = new CarSteps(floors);
        x.car(floor);
        return x;
    }

    private static void wrongQuestions() {
        CarSteps none = new CarSteps(3);
        CHECK.argument("no car to be told", () -> none.told(0, 0));
        CHECK.argument("no car to wear", () -> none.wear(0, 0));
        CarSteps x = oneCar(3, 0);
        for (int what : new int[] {-1, 8, Integer.MAX_VALUE, Integer.MIN_VALUE}) {
            CHECK.argument("told " + what, () -> x.told(0, what));
        }
        for (int what : new int[] {-1, 6, Integer.MAX_VALUE, Integer.MIN_VALUE}) {
            CHECK.argument("wear " + what, () -> x.wear(0, what));
        }
        for (int car : new int[] {-1, 1, 2}) {
            CHECK.argument("told of car " + car, () -> x.told(car, 0));
            CHECK.argument("wear of car " + car, () -> x.wear(car, 0));
        }
    }

    private static void toldOnTheWay() {
        CarSteps x = oneCar(4, 1);
        x.go(0, 0);
        x.go(0, 3);
        x.steps(2);
        int[] down = {940, -40, 0, 0, 0, 2, CarSteps.NONE, 0};
        for (int what = 0; what < 8; what++) {
            CHECK.is("down, told " + what, x.told(0, what), down[what]);
        }
        x.fire(0, 2);
        CHECK.is("the mode as it is now", x.told(0, 2), 3);
        CHECK.is("the wish as it is now", x.told(0, 7), 2000);
        x.fire(0, CarSteps.NONE);
        x.steps(13);
        int[] landed = {0, 0, 0, 1, 1, 1, 0, 3000};
        for (int what = 0; what < 8; what++) {
            CHECK.is("landed, told " + what, x.told(0, what), landed[what]);
        }
        // 29 steps of the door, then 12 on the way.
        x.steps(41);
        CHECK.is("at floor 1", x.told(0, 0), 1000);
        CHECK.is("with full speed", x.told(0, 1), 100);
        CHECK.is("the floor that it passes", x.told(0, 6), 1);
        x.contact(0, 0, true);
        CHECK.is("CHAIN wants nothing", x.told(0, 7), CarSteps.NONE);
    }

    private static void toldDoor() {
        CarSteps x = oneCar(2, 0);
        x.door(0, 2, 2);
        x.open(0);
        int[][] due = {{1, 1}, {2, 2}, {2, 2}, {3, 2}, {3, 1}, {0, 0}, {0, 0}};
        for (int k = 0; k < due.length; k++) {
            x.steps(1);
            CHECK.is("door in step " + (k + 1), x.told(0, 3), due[k][0]);
            CHECK.is("its place in step " + (k + 1), x.told(0, 4), due[k][1]);
        }
    }

    private static void toldChangesNothing() {
        CarSteps x = oneCar(3, 0);
        CarSteps y = oneCar(3, 0);
        x.go(0, 2);
        y.go(0, 2);
        for (int k = 0; k < 20; k++) {
            for (int what = 0; what < 6; what++) {
                x.told(0, what + 2);
                x.wear(0, what);
            }
            x.steps(1);
            y.steps(1);
        }
        CHECK.is("place", x.told(0, 0), y.told(0, 0));
        CHECK.is("speed", x.told(0, 1), y.told(0, 1));
    }

    private static void wearOfAWay() {
        CarSteps x = oneCar(4, 1);
        x.go(0, 3);
        x.go(0, 0);
        x.steps(5);
        CHECK.is("how far, on the way", x.wear(0, 1), 300);
        x.steps(200);
        CHECK.is("up and down are added", x.wear(0, 1), 5000);
        CHECK.is("it is back", x.told(0, 0), 0);
        x.car(3);
        CHECK.is("each car for itself", x.wear(1, 1), 0);
    }

    private static void wearOfStarts() {
        CarSteps x = oneCar(4, 0);
        x.go(0, 0);
        x.steps(60);
        CHECK.is("none where it was there", x.wear(0, 0), 0);
        x.go(0, 1);
        x.steps(1);
        CHECK.is("the first step starts", x.wear(0, 0), 1);
        x.steps(3);
        CHECK.is("only that one", x.wear(0, 0), 1);
        x.contact(0, 0, true);
        x.steps(5);
        x.contact(0, 0, false);
        x.steps(1);
        CHECK.is("again", x.wear(0, 0), 2);
    }

    private static void wearOfFalls() {
        CarSteps x = oneCar(6, 0);
        x.go(0, 1);
        x.steps(60);
        CHECK.is("falls by g do not count", x.wear(0, 2), 0);
        x.go(0, 5);
        x.steps(5);
        x.contact(0, 0, true);
        x.steps(1);
        CHECK.is("100 to 60", x.wear(0, 2), 1);
        x.steps(1);
        CHECK.is("60 to 20", x.wear(0, 2), 2);
        x.steps(5);
        CHECK.is("20 to 0 is just g", x.wear(0, 2), 2);
        CarSteps y = oneCar(6, 0);
        y.rates(0, 100, 20, 20);
        y.go(0, 5);
        y.steps(5);
        y.contact(0, 0, true);
        y.steps(9);
        CHECK.is("b is g: none", y.wear(0, 2), 0);
    }

    private static void wearOfDoors() {
        CarSteps x = oneCar(6, 0);
        x.door(0, 2, 1);
        x.open(0);
        CHECK.is("open counts at once", x.wear(0, 3), 1);
        x.open(0);
        x.steps(2);
        x.open(0);
        CHECK.is("OPENING and OPEN do not count", x.wear(0, 3), 1);
        x.close(0);
        x.open(0);
        CHECK.is("behind CLOSING by open", x.wear(0, 4), 1);
        x.steps(1);
        x.close(0);
        x.beam(0, true);
        x.steps(1);
        CHECK.is("behind CLOSING by the light bar", x.wear(0, 4), 2);
        x.steps(1);
        x.beam(0, false);
        x.close(0);
        x.load(0, 9999);
        x.steps(1);
        CHECK.is("behind CLOSING by the load", x.wear(0, 4), 3);
        x.load(0, 0);
        x.steps(1);
        x.close(0);
        x.go(0, 0);
        x.steps(1);
        CHECK.is("behind CLOSING by a landing", x.wear(0, 4), 4);
        x.steps(10);
        x.go(0, 0);
        x.steps(1);
        CHECK.is("behind CLOSED by a landing", x.wear(0, 3), 2);
        CHECK.is("no more behind CLOSING", x.wear(0, 4), 4);
    }

    private static void wearOfCalls() {
        CarSteps x = oneCar(6, 0);
        x.go(0, 0);
        x.go(0, 0);
        x.go(0, 1);
        CHECK.is("none yet", x.wear(0, 5), 0);
        x.steps(1);
        CHECK.is("one in a step", x.wear(0, 5), 1);
        x.steps(1);
        CHECK.is("two", x.wear(0, 5), 2);
        x.steps(100);
        CHECK.is("three", x.wear(0, 5), 3);
        x.fire(0, 3);
        x.steps(100);
        CHECK.is("a fire drive is no call", x.wear(0, 5), 3);
    }

    private AskingTest() {
    }
}
