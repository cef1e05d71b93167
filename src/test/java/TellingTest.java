/** Promises 8 to 17: go, open, close, beam, contact, load, most, fire, inspect, power. */
public final class TellingTest {
    private static final Check CHECK = new Check();

    public static void main(String[] args) {
        carsThatAreNotThere();
        go();
        goInOrder();
        open();
        openRefused();
        close();
        beam();
        contact();
        load();
        most();
        fire();
        inspect();
        power();
        CHECK.end();
    }

    private static CarSteps oneCar(int floors, int floor) {
        CarSteps x = new CarSteps(floors);
        x.car(floor);
        return x;
    }

    private static void carsThatAreNotThere() {
        CarSteps x = oneCar(3, 0);
        for (int car : new int[] {-1, 1, 2, Integer.MAX_VALUE, Integer.MIN_VALUE}) {
            CHECK.argument("go " + car, () -> x.go(car, 0));
            CHECK.argument("open " + car, () -> x.open(car));
            CHECK.argument("close " + car, () -> x.close(car));
            CHECK.argument("beam " + car, () -> x.beam(car, true));
            CHECK.argument("contact " + car, () -> x.contact(car, 0, true));
            CHECK.argument("load " + car, () -> x.load(car, 0));
            CHECK.argument("most " + car, () -> x.most(car, 0));
            CHECK.argument("fire " + car, () -> x.fire(car, 0));
            CHECK.argument("inspect " + car, () -> x.inspect(car, 0));
        }
    }

    private static void go() {
        CarSteps x = oneCar(3, 0);
        CHECK.argument("floor -1", () -> x.go(0, -1));
        CHECK.argument("floor 3", () -> x.go(0, 3));
        for (int k = 1; k <= 8; k++) {
            CHECK.is("calls", x.go(0, k % 3), k);
        }
        CHECK.state("there are 8", () -> x.go(0, 1));
        CHECK.argument("argument first", () -> x.go(0, 3));
        CHECK.is("still 8", x.told(0, 5), 8);
        CarSteps two = new CarSteps(3);
        two.car(0);
        two.car(2);
        two.go(0, 0);
        CHECK.is("each car has its own", two.go(1, 2), 1);
    }

    private static void goInOrder() {
        CarSteps x = oneCar(5, 0);
        x.door(0, 1, 0);
        x.rates(0, 1000, 1000, 1000);
        int[] floors = {3, 1, 1, 4, 0, 2, 4, 3};
        for (int floor : floors) {
            x.go(0, floor);
        }
        for (int k = 0; k < floors.length; k++) {
            CHECK.is("the call that was first", x.told(0, 7), 1000 * floors[k]);
            for (int s = 0; s < 30 && x.told(0, 5) == floors.length - k; s++) {
                x.steps(1);
            }
            CHECK.is("it is over there", x.told(0, 6), floors[k]);
        }
        CHECK.is("all are over", x.told(0, 5), 0);
        CHECK.is("no place is wanted", x.told(0, 7), CarSteps.NONE);
        CHECK.is("again from one", x.go(0, 1), 1);
    }

    private static void open() {
        CarSteps x = oneCar(3, 1);
        CHECK.is("CLOSED", x.open(0), true);
        CHECK.is("OPENING now", x.told(0, 3), 1);
        CHECK.is("its place stays", x.told(0, 4), 0);
        CHECK.is("OPENING already", x.open(0), false);
        x.steps(5);
        CHECK.is("OPEN", x.told(0, 3), 2);
        CHECK.is("OPEN already", x.open(0), false);
        x.steps(15);
        CHECK.is("open does not hold it", x.open(0), false);
        x.steps(5);
        CHECK.is("CLOSING", x.told(0, 3), 3);
        CHECK.is("CLOSING", x.open(0), true);
        CHECK.is("OPENING again", x.told(0, 3), 1);
        CHECK.is("from where it was", x.told(0, 4), 5);
        x.steps(1);
        CHECK.is("D at most", x.told(0, 4), 5);
        CHECK.is("OPEN", x.told(0, 3), 2);
        x.steps(19);
        CHECK.is("OPEN for 0 steps again", x.told(0, 3), 2);
        x.contact(0, 0, true);
        x.close(0);
        CHECK.is("in CHAIN, too", x.open(0), true);
    }

    private static void openRefused() {
        CarSteps x = oneCar(3, 0);
        x.rates(0, 500, 500, 500);
        x.go(0, 1);
        x.steps(1);
        CHECK.state("it goes", () -> x.open(0));
        x.steps(1);
        CHECK.is("at the floor", x.told(0, 6), 1);
        CHECK.is("but not standing", x.told(0, 1), 500);
        CHECK.state("it goes, at a floor", () -> x.open(0));
        CarSteps y = oneCar(3, 0);
        y.go(0, 1);
        y.steps(1);
        y.contact(0, 0, true);
        y.steps(1);
        CHECK.is("it stands", y.told(0, 1), 0);
        CHECK.state("not at a floor", () -> y.open(0));
        CHECK.is("CLOSED as before", y.told(0, 3), 0);
    }

    private static void close() {
        CarSteps x = oneCar(3, 1);
        CHECK.is("CLOSED", x.close(0), false);
        x.open(0);
        CHECK.is("OPENING", x.close(0), false);
        CHECK.is("changes nothing", x.told(0, 3), 1);
        x.steps(5);
        x.beam(0, true);
        CHECK.is("the light bar is broken", x.close(0), false);
        CHECK.is("changes nothing", x.told(0, 3), 2);
        x.beam(0, false);
        x.load(0, 1001);
        CHECK.is("too heavy", x.close(0), false);
        x.load(0, 1000);
        CHECK.is("OPEN", x.close(0), true);
        CHECK.is("CLOSING", x.told(0, 3), 3);
        CHECK.is("its place stays", x.told(0, 4), 5);
        CHECK.is("CLOSING already", x.close(0), false);
        x.steps(1);
        CHECK.is("goes on", x.told(0, 4), 4);
        CarSteps y = oneCar(3, 1);
        y.fire(0, 1);
        y.steps(10);
        y.beam(0, true);
        CHECK.is("in FIRE the light bar counts for close, too", y.close(0), false);
    }

    private static void beam() {
        CarSteps x = oneCar(3, 1);
        x.door(0, 3, 2);
        CHECK.is("was whole", x.beam(0, true), false);
        CHECK.is("was broken", x.beam(0, true), true);
        x.open(0);
        x.steps(50);
        CHECK.is("stays OPEN", x.told(0, 3), 2);
        CHECK.is("was broken", x.beam(0, false), true);
        CHECK.is("was whole", x.beam(0, false), false);
        x.steps(1);
        CHECK.is("the steps before count", x.told(0, 3), 3);
        CarSteps two = new CarSteps(3);
        two.car(0);
        two.car(2);
        two.beam(0, true);
        CHECK.is("each car has its own", two.beam(1, false), false);
    }

    private static void contact() {
        CarSteps x = oneCar(3, 0);
        CHECK.argument("contact -1", () -> x.contact(0, -1, true));
        CHECK.argument("contact 8", () -> x.contact(0, 8, true));
        for (int k = 0; k < 8; k++) {
            CHECK.is("was closed", x.contact(0, k, true), false);
            CHECK.is("was open", x.contact(0, k, true), true);
        }
        for (int k = 0; k < 8; k++) {
            CHECK.is("CHAIN", x.told(0, 2), 1);
            CHECK.is("was open", x.contact(0, k, false), true);
            CHECK.is("was closed", x.contact(0, k, false), false);
        }
        CHECK.is("NORMAL", x.told(0, 2), 0);
    }

    private static void load() {
        CarSteps x = oneCar(3, 0);
        CHECK.argument("load -1", () -> x.load(0, -1));
        CHECK.argument("load 10001", () -> x.load(0, 10001));
        CHECK.is("load was 0", x.load(0, 10000), 0);
        CHECK.is("load was 10000", x.load(0, 1001), 10000);
        x.go(0, 1);
        x.steps(5);
        CHECK.is("too heavy to start", x.told(0, 1), 0);
        CHECK.is("load was 1001", x.load(0, 1000), 1001);
        x.steps(1);
        CHECK.is("not above MOST", x.told(0, 1), 20);
        x.load(0, 1001);
        x.steps(1);
        CHECK.is("it goes on when it goes", x.told(0, 1), 40);
    }

    private static void most() {
        CarSteps x = oneCar(3, 0);
        CHECK.argument("most -1", () -> x.most(0, -1));
        CHECK.argument("most 10001", () -> x.most(0, 10001));
        CHECK.is("most was 1000", x.most(0, 10000), 1000);
        CHECK.is("most was 10000", x.most(0, 0), 10000);
        x.go(0, 1);
        x.load(0, 1);
        x.steps(5);
        CHECK.is("too heavy", x.told(0, 1), 0);
        CHECK.is("most was 0", x.most(0, 1), 0);
        x.steps(1);
        CHECK.is("starts", x.told(0, 1), 20);
    }

    private static void fire() {
        CarSteps x = oneCar(3, 0);
        CHECK.argument("floor -2", () -> x.fire(0, -2));
        CHECK.argument("floor 3", () -> x.fire(0, 3));
        CHECK.is("was none", x.fire(0, 2), CarSteps.NONE);
        CHECK.is("FIRE", x.told(0, 2), 3);
        CHECK.is("wants floor 2", x.told(0, 7), 2000);
        CHECK.is("was 2", x.fire(0, 0), 2);
        CHECK.is("FIRE with floor 0, too", x.told(0, 2), 3);
        CHECK.is("was 0", x.fire(0, CarSteps.NONE), 0);
        CHECK.is("was none", x.fire(0, CarSteps.NONE), CarSteps.NONE);
        CHECK.is("NORMAL", x.told(0, 2), 0);
    }

    private static void inspect() {
        CarSteps x = oneCar(3, 1);
        CHECK.argument("way -2", () -> x.inspect(0, -2));
        CHECK.argument("way 3", () -> x.inspect(0, 3));
        CHECK.is("was OFF", x.inspect(0, 1), CarSteps.OFF);
        CHECK.is("wants the highest", x.told(0, 7), 2000);
        CHECK.is("was 1", x.inspect(0, -1), 1);
        CHECK.is("wants the lowest", x.told(0, 7), 0);
        CHECK.is("was -1", x.inspect(0, 0), -1);
        CHECK.is("wants nothing", x.told(0, 7), CarSteps.NONE);
        CHECK.is("a ride of 0 is a ride", x.told(0, 2), 4);
        CHECK.is("was 0", x.inspect(0, CarSteps.OFF), 0);
        CHECK.is("NORMAL", x.told(0, 2), 0);
    }

    private static void power() {
        CarSteps x = new CarSteps(3);
        CHECK.is("there was", x.power(false), true);
        CHECK.is("there was not", x.power(false), false);
        x.car(0);
        x.car(2);
        CHECK.is("DARK", x.told(0, 2), 2);
        CHECK.is("DARK for both", x.told(1, 2), 2);
        CHECK.is("there was not", x.power(true), false);
        CHECK.is("there was", x.power(true), true);
        CHECK.is("NORMAL", x.told(0, 2), 0);
    }

    private TellingTest() {
    }
}
