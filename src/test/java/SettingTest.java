/** Promises 1 to 7: a new object, height, gap, car, rates, slow, door. */
public final class SettingTest {
    private static final Check CHECK = new Check();

    public static void main(String[] args) {
        newObject();
        floorsOutsideTheirBounds();
        height();
        heightBesideNeighbours();
        heightWithACar();
        gap();
        newCar();
        carRefused();
        carAboveAMovingCar();
        rates();
        ratesRefused();
        slow();
        door();
        CHECK.end();
    }

    private static void newObject() {
        CarSteps x = new CarSteps(20);
        for (int k = 0; k < 20; k++) {
            CHECK.is("place of floor " + k, x.height(k, 1000 * k), 1000 * k);
        }
        CHECK.argument("no floor 20", () -> x.height(20, 20000));
        CHECK.is("gap is 500", x.gap(500), 500);
        CHECK.is("there is power", x.power(true), true);
        CHECK.argument("no car 0", () -> x.told(0, 0));
        CHECK.argument("no car 1", () -> x.told(1, 0));
        CHECK.is("no steps yet", x.steps(1), 1);
    }

    private static void floorsOutsideTheirBounds() {
        for (int f : new int[] {1, 0, -1, Integer.MIN_VALUE}) {
            CarSteps x = new CarSteps(f);
            CHECK.argument(f + " floors count as 1", () -> x.car(1));
            CHECK.is(f + " floors count as 1", x.car(0), 0);
        }
        for (int f : new int[] {20, 21, 1000, Integer.MAX_VALUE}) {
            CarSteps x = new CarSteps(f);
            CHECK.argument(f + " floors count as 20", () -> x.car(20));
            CHECK.is(f + " floors count as 20", x.car(19), 0);
            CHECK.is("place of floor 19", x.told(0, 0), 19000);
        }
    }

    private static void height() {
        CarSteps x = new CarSteps(3);
        CHECK.is("height is what it was", x.height(1, 1500), 1000);
        CHECK.is("height is what it was", x.height(1, 1200), 1500);
        CHECK.is("the highest place", x.height(2, 100000), 2000);
        CHECK.argument("place 100001", () -> x.height(2, 100001));
        CHECK.argument("place -1", () -> x.height(0, -1));
        CHECK.argument("floor -1", () -> x.height(-1, 10));
        CHECK.argument("floor 3", () -> x.height(3, 10));
        CHECK.argument("argument is named first", () -> x.height(3, 1200));
        CHECK.is("floor 2 is unchanged", x.height(2, 2000), 100000);
        CHECK.is("a car stands there", x.car(1), 0);
        CHECK.is("a car stands there", x.told(0, 0), 1200);
    }

    private static void heightBesideNeighbours() {
        CarSteps x = new CarSteps(3);
        CHECK.state("on the lower neighbour", () -> x.height(1, 0));
        CHECK.state("on the upper neighbour", () -> x.height(1, 2000));
        CHECK.state("beyond the upper neighbour", () -> x.height(1, 2001));
        CHECK.is("just above the lower one", x.height(1, 1), 1000);
        CHECK.is("just below the upper one", x.height(1, 1999), 1);
        CHECK.state("the lowest on its neighbour", () -> x.height(0, 1999));
        CHECK.is("the lowest below it", x.height(0, 1998), 0);
        CHECK.state("the top on its neighbour", () -> x.height(2, 1999));
        CHECK.is("the top above it", x.height(2, 2500), 2000);
        CarSteps single = new CarSteps(1);
        CHECK.is("one floor has no neighbours", single.height(0, 100000), 0);
        CHECK.is("one floor has no neighbours", single.height(0, 0), 100000);
    }

    private static void heightWithACar() {
        CarSteps x = new CarSteps(3);
        x.car(0);
        CHECK.state("height with a car", () -> x.height(1, 1100));
        CHECK.argument("argument first", () -> x.height(1, -1));
        CHECK.argument("argument first", () -> x.height(3, 5));
        x.go(0, 1);
        CHECK.is("the floor is where it was", x.told(0, 7), 1000);
    }

    private static void gap() {
        CarSteps x = new CarSteps(3);
        CHECK.is("gap is what it was", x.gap(0), 500);
        CHECK.is("gap is what it was", x.gap(10000), 0);
        CHECK.argument("gap -1", () -> x.gap(-1));
        CHECK.argument("gap 10001", () -> x.gap(10001));
        CHECK.is("unchanged", x.gap(700), 10000);
        x.car(0);
        CHECK.state("gap with a car", () -> x.gap(700));
        CHECK.argument("argument first", () -> x.gap(10001));
    }

    private static void newCar() {
        CarSteps x = new CarSteps(6);
        CHECK.is("the first car", x.car(2), 0);
        CHECK.is("the second car", x.car(3), 1);
        int[] due = {2000, 0, 0, 0, 0, 0, 2, CarSteps.NONE};
        for (int what = 0; what < 8; what++) {
            CHECK.is("new car told " + what, x.told(0, what), due[what]);
        }
        for (int what = 0; what < 6; what++) {
            CHECK.is("new car wear " + what, x.wear(1, what), 0);
        }
        CHECK.is("MOST is 1000", x.most(0, 1000), 1000);
        CHECK.is("its load is 0", x.load(0, 0), 0);
        CHECK.is("no fire floor", x.fire(0, CarSteps.NONE), CarSteps.NONE);
        CHECK.is("no ride", x.inspect(0, CarSteps.OFF), CarSteps.OFF);
        CHECK.is("light bar is whole", x.beam(0, false), false);
        for (int k = 0; k < 8; k++) {
            CHECK.is("contact " + k + " is closed", x.contact(0, k, false), false);
        }
        newCarRates();
        newCarDoor();
    }

    private static void newCarRates() {
        CarSteps x = new CarSteps(6);
        x.car(0);
        x.go(0, 5);
        for (int due : new int[] {20, 40, 60, 80, 100, 100}) {
            x.steps(1);
            CHECK.is("g is 20, V is 100", x.told(0, 1), due);
        }
        x.contact(0, 0, true);
        x.steps(1);
        CHECK.is("b is 40", x.told(0, 1), 60);
        x.steps(2);
        x.contact(0, 0, false);
        x.inspect(0, 1);
        x.steps(2);
        CHECK.is("I is 10", x.told(0, 1), 10);
        x.steps(1);
        x.inspect(0, CarSteps.OFF);
        x.power(false);
        x.steps(3);
        CHECK.is("the nearest floor is above", x.told(0, 7), 1000);
        CHECK.is("R is 5", x.told(0, 1), 5);
    }

    private static void newCarDoor() {
        CarSteps x = new CarSteps(2);
        x.car(0);
        x.open(0);
        x.steps(4);
        CHECK.is("OPENING", x.told(0, 3), 1);
        x.steps(1);
        CHECK.is("D is 5", x.told(0, 4), 5);
        CHECK.is("OPEN", x.told(0, 3), 2);
        x.steps(19);
        CHECK.is("HOLD is 20", x.told(0, 3), 2);
        x.steps(1);
        CHECK.is("HOLD is 20", x.told(0, 3), 3);
    }

    private static void carRefused() {
        CarSteps x = new CarSteps(4);
        x.height(1, 499);
        CHECK.argument("floor -1", () -> x.car(-1));
        CHECK.argument("floor 4", () -> x.car(4));
        CHECK.is("car 0 may stand anywhere", x.car(0), 0);
        CHECK.state("on car 0", () -> x.car(0));
        CHECK.state("nearer than the gap", () -> x.car(1));
        CHECK.argument("car 1 was not made", () -> x.told(1, 0));
        CHECK.is("above the gap", x.car(2), 1);
        CHECK.state("there are two", () -> x.car(3));
        CHECK.argument("argument first", () -> x.car(4));
        CarSteps y = new CarSteps(4);
        y.height(1, 500);
        y.car(0);
        CHECK.is("at the gap", y.car(1), 1);
        CarSteps z = new CarSteps(4);
        z.car(3);
        CHECK.state("below car 0", () -> z.car(0));
        CarSteps same = new CarSteps(4);
        same.gap(0);
        same.car(3);
        CHECK.is("no gap at all", same.car(3), 1);
    }

    private static void carAboveAMovingCar() {
        // Five steps up: place 300, speed 100; LENGTH(100, 40) is 60 + 20, so it can stand at 380.
        for (int place : new int[] {879, 880}) {
            CarSteps x = new CarSteps(6);
            x.height(1, place);
            x.car(0);
            x.go(0, 5);
            x.steps(5);
            if (place < 880) {
                CHECK.state("car 0 goes up", () -> x.car(1));
            } else {
                CHECK.is("car 0 goes up", x.car(1), 1);
            }
        }
        // Five steps down: place 4700, and going down adds nothing.
        for (int place : new int[] {5199, 5200}) {
            CarSteps x = new CarSteps(7);
            x.height(6, place);
            x.car(5);
            x.go(0, 0);
            x.steps(5);
            CHECK.is("place", x.told(0, 0), 4700);
            if (place < 5200) {
                CHECK.state("car 0 goes down", () -> x.car(6));
            } else {
                CHECK.is("car 0 goes down", x.car(6), 1);
            }
        }
    }

    private static void rates() {
        CarSteps x = new CarSteps(20);
        x.car(0);
        x.rates(0, 2000, 1000, 1000);
        x.go(0, 19);
        x.steps(2);
        CHECK.is("greatest rates", x.told(0, 1), 2000);
        x.steps(100);
        CHECK.is("lands", x.told(0, 0), 19000);
        CarSteps y = new CarSteps(2);
        y.car(0);
        y.rates(0, 1, 1, 1);
        y.go(0, 1);
        y.steps(999);
        CHECK.is("least rates", y.told(0, 0), 999);
        CarSteps z = new CarSteps(6);
        z.car(0);
        z.rates(0, 90, 15, 30);
        z.go(0, 5);
        z.steps(3);
        CHECK.is("gain 15", z.told(0, 1), 45);
        z.steps(4);
        CHECK.is("V 90", z.told(0, 1), 90);
        z.contact(0, 7, true);
        z.steps(1);
        CHECK.is("brake 30", z.told(0, 1), 60);
    }

    private static void ratesRefused() {
        CarSteps x = new CarSteps(6);
        CHECK.argument("no car", () -> x.rates(0, 100, 10, 10));
        x.car(0);
        CHECK.argument("V 0", () -> x.rates(0, 0, 1, 1));
        CHECK.argument("V 2001", () -> x.rates(0, 2001, 1, 1));
        CHECK.argument("g 0", () -> x.rates(0, 10, 0, 1));
        CHECK.argument("g 1001", () -> x.rates(0, 10, 1001, 1001));
        CHECK.argument("b 0", () -> x.rates(0, 10, 1, 0));
        CHECK.argument("b 1001", () -> x.rates(0, 10, 1, 1001));
        CHECK.argument("g above b", () -> x.rates(0, 10, 6, 5));
        CHECK.argument("car 1", () -> x.rates(1, 10, 5, 5));
        CHECK.argument("car -1", () -> x.rates(-1, 10, 5, 5));
        x.go(0, 5);
        x.steps(1);
        CHECK.state("it goes", () -> x.rates(0, 10, 5, 5));
        CHECK.argument("argument first", () -> x.rates(0, 10, 6, 5));
        x.steps(4);
        CHECK.is("rates are unchanged", x.told(0, 1), 100);
    }

    private static void slow() {
        CarSteps x = new CarSteps(6);
        CHECK.argument("no car", () -> x.slow(0, 7, 11));
        x.car(0);
        x.slow(0, 7, 11);
        CHECK.argument("R 0", () -> x.slow(0, 0, 1));
        CHECK.argument("R 2001", () -> x.slow(0, 2001, 1));
        CHECK.argument("I 0", () -> x.slow(0, 1, 0));
        CHECK.argument("I 2001", () -> x.slow(0, 1, 2001));
        CHECK.argument("car 2", () -> x.slow(2, 1, 1));
        x.inspect(0, 1);
        x.steps(3);
        CHECK.is("I 11", x.told(0, 1), 11);
        x.slow(0, 8, 30);
        x.steps(1);
        CHECK.is("slow is for a car that goes, too", x.told(0, 1), 30);
        x.inspect(0, 0);
        x.steps(3);
        x.power(false);
        x.steps(2);
        CHECK.is("R 8", x.told(0, 1), -8);
        x.slow(0, 2000, 2000);
        x.slow(0, 1, 1);
    }

    private static void door() {
        CarSteps x = new CarSteps(6);
        CHECK.argument("no car", () -> x.door(0, 3, 1));
        x.car(0);
        CHECK.argument("D 0", () -> x.door(0, 0, 1));
        CHECK.argument("D 51", () -> x.door(0, 51, 1));
        CHECK.argument("HOLD -1", () -> x.door(0, 1, -1));
        CHECK.argument("HOLD 1001", () -> x.door(0, 1, 1001));
        CHECK.argument("car 1", () -> x.door(1, 1, 1));
        x.door(0, 50, 1000);
        x.door(0, 1, 0);
        x.open(0);
        CHECK.state("OPENING", () -> x.door(0, 2, 2));
        CHECK.argument("argument first", () -> x.door(0, 0, 2));
        x.steps(1);
        CHECK.is("D 1 is OPEN in one step", x.told(0, 3), 2);
        CHECK.state("OPEN", () -> x.door(0, 2, 2));
        x.steps(1);
        CHECK.is("HOLD 0 is CLOSING behind one step", x.told(0, 3), 3);
        CHECK.state("CLOSING", () -> x.door(0, 2, 2));
        x.steps(1);
        CHECK.is("CLOSED", x.told(0, 3), 0);
        x.door(0, 2, 3);
        x.open(0);
        x.steps(2);
        CHECK.is("D 2", x.told(0, 3), 2);
        x.steps(2);
        CHECK.is("HOLD 3", x.told(0, 3), 2);
        x.steps(1);
        CHECK.is("HOLD 3", x.told(0, 3), 3);
    }

    private SettingTest() {
    }
}
