/** For every number of every call: the last ones that are allowed, the first ones that are not, the farthest ints. */
public final class BoundsTest {
    private static final int LEAST = Integer.MIN_VALUE;
    private static final int GREATEST = Integer.MAX_VALUE;
    private static final Check CHECK = new Check();

    /** A call with the number that is tried. */
    private interface NumberCall {
        int on(CarSteps x, int number);
    }

    public static void main(String[] args) {
        floors();
        heightFloor();
        heightPlace();
        gap();
        carFloor();
        for (int cars = 1; cars <= 2; cars++) {
            for (int car = 0; car < cars; car++) {
                rates(cars, car);
                slow(cars, car);
                door(cars, car);
                go(cars, car);
                contact(cars, car);
                kilos(cars, car);
                fire(cars, car);
                inspect(cars, car);
                told(cars, car);
                wear(cars, car);
            }
        }
        steps();
        cars();
        lastCallOfAnObject();
        CHECK.end();
    }

    /** Six floors with so many cars, at floors 1 and 3. */
    private static CarSteps lift(int cars) {
        CarSteps x = new CarSteps(6);
        for (int car = 0; car < cars; car++) {
            x.car(1 + 2 * car);
        }
        return x;
    }

    /** Each allowed number on a lift of its own, each other one on the same. */
    private static void bounds(String what, int cars, int low, int high, NumberCall call) {
        for (int n : new int[] {low, Math.min(low + 1, high), Math.max(high - 1, low), high}) {
            allowed(what + " " + n, lift(cars), n, call);
        }
        CarSteps x = lift(cars);
        for (int n : new int[] {LEAST, LEAST + 1, low - 1, high + 1, GREATEST - 1, GREATEST}) {
            CHECK.argument(what + " " + n + " of " + cars + " cars", () -> call.on(x, n));
        }
    }

    private static void allowed(String what, CarSteps x, int n, NumberCall call) {
        try {
            call.on(x, n);
        } catch (RuntimeException e) {
            CHECK.fault(what + " throws " + e);
        }
    }

    /** A call that answers what it was, so that it shows whether the last numbers are kept. */
    private static void kept(String what, int cars, int low, int high, int first, NumberCall call) {
        CarSteps x = lift(cars);
        CHECK.is(what + " at first", call.on(x, low), first);
        CHECK.is(what + " was the least", call.on(x, high), low);
        CHECK.is(what + " was the greatest", call.on(x, high), high);
        for (int n : new int[] {LEAST, low - 1, high + 1, GREATEST}) {
            CHECK.argument(what + " " + n, () -> call.on(x, n));
            CHECK.is(what + " behind the refused " + n, call.on(x, high), high);
        }
        CHECK.is(what + " was the greatest", call.on(x, low), high);
        CHECK.is(what + " was the least", call.on(x, low), low);
    }

    // "F floors (below 1 counts as 1, above 20 as 20), floor k at place 1000 k"
    private static void floors() {
        int[][] toldAndDue = {{LEAST, 1}, {-1, 1}, {0, 1}, {1, 1}, {2, 2}, {3, 3}, {19, 19}, {20, 20}, {21, 20},
            {22, 20}, {GREATEST, 20}};
        for (int[] row : toldAndDue) {
            CarSteps x = new CarSteps(row[0]);
            int floors = row[1];
            for (int k = 0; k < floors; k++) {
                CHECK.is(row[0] + " floors, floor " + k, x.height(k, 1000 * k), 1000 * k);
            }
            CHECK.argument(row[0] + " floors, no more", () -> x.height(floors, 1000 * floors));
            CHECK.argument(row[0] + " floors, no car there", () -> x.car(floors));
            CHECK.is(row[0] + " floors, a car at the highest", x.car(floors - 1), 0);
            CHECK.argument(row[0] + " floors, no call there", () -> x.go(0, floors));
            CHECK.is(row[0] + " floors, a call of the highest", x.go(0, floors - 1), 1);
            CHECK.argument(row[0] + " floors, no fire there", () -> x.fire(0, floors));
            CHECK.is(row[0] + " floors, fire at the highest", x.fire(0, floors - 1), CarSteps.NONE);
            CHECK.is(row[0] + " floors, the highest is wanted", x.told(0, 7), 1000 * (floors - 1));
        }
    }

    private static void heightFloor() {
        bounds("height of floor", 0, 0, 5, (x, n) -> x.height(n, 1000 * n));
        bounds("height of floor, one place up", 0, 0, 5, (x, n) -> x.height(n, 1000 * n + 1));
    }

    // "A floor's place (0 .. 100000): what it was."
    private static void heightPlace() {
        CarSteps one = new CarSteps(1);
        CHECK.is("a place at first", one.height(0, 100000), 0);
        CHECK.is("the greatest place was kept", one.height(0, 0), 100000);
        CHECK.is("the least place was kept", one.height(0, 99999), 0);
        for (int n : new int[] {LEAST, -1, 100001, GREATEST}) {
            CHECK.argument("place " + n, () -> one.height(0, n));
            CHECK.is("the place behind the refused " + n, one.height(0, 99999), 99999);
        }
        CarSteps far = new CarSteps(2);
        far.height(1, 100000);
        far.height(0, 99999);
        CHECK.is("a car at the greatest place", far.car(1), 0);
        CHECK.is("a car at the greatest place", far.told(0, 0), 100000);
    }

    // "GAP (0 .. 10000): what it was."
    private static void gap() {
        bounds("gap", 0, 0, 10000, (x, n) -> x.gap(n));
        kept("gap", 0, 0, 10000, 500, (x, n) -> x.gap(n));
    }

    private static void carFloor() {
        bounds("the first car at floor", 0, 0, 5, (x, n) -> x.car(n));
        for (int floor = 0; floor < 6; floor++) {
            CarSteps x = lift(0);
            CHECK.is("the first car", x.car(floor), 0);
            CHECK.is("its floor", x.told(0, 6), floor);
            CHECK.is("its place", x.told(0, 0), 1000 * floor);
        }
        CarSteps x = lift(1);
        for (int n : new int[] {LEAST, -1, 6, GREATEST}) {
            CHECK.argument("the second car at floor " + n, () -> x.car(n));
        }
        CHECK.is("the second car at the highest floor", x.car(5), 1);
        for (int n : new int[] {LEAST, -1, 6, GREATEST}) {
            CHECK.argument("a third car at floor " + n + ": argument first", () -> x.car(n));
        }
        CHECK.state("a third car", () -> x.car(5));
    }

    // "V (1 .. 2000), g and b (1 .. 1000). Illegal argument: also if g is above b"
    private static void rates(int cars, int car) {
        bounds("V", cars, 1, 2000, (x, n) -> rated(x, car, n, 20, 40));
        bounds("g", cars, 1, 1000, (x, n) -> rated(x, car, 100, n, 1000));
        bounds("b", cars, 1, 1000, (x, n) -> rated(x, car, 100, 1, n));
        bounds("g and b", cars, 1, 1000, (x, n) -> rated(x, car, 100, n, n));
        bounds("g up to b", cars, 1, 40, (x, n) -> rated(x, car, 100, n, 40));
        bounds("b from g", cars, 40, 1000, (x, n) -> rated(x, car, 100, 40, n));
    }

    private static int rated(CarSteps x, int car, int v, int g, int b) {
        x.rates(car, v, g, b);
        return 0;
    }

    // "R and I (1 .. 2000)."
    private static void slow(int cars, int car) {
        bounds("R", cars, 1, 2000, (x, n) -> slowed(x, car, n, 10));
        bounds("I", cars, 1, 2000, (x, n) -> slowed(x, car, 5, n));
    }

    private static int slowed(CarSteps x, int car, int r, int i) {
        x.slow(car, r, i);
        return 0;
    }

    // "D (1 .. 50) and HOLD (0 .. 1000)."
    private static void door(int cars, int car) {
        bounds("D", cars, 1, 50, (x, n) -> doored(x, car, n, 20));
        bounds("HOLD", cars, 0, 1000, (x, n) -> doored(x, car, 5, n));
    }

    private static int doored(CarSteps x, int car, int places, int hold) {
        x.door(car, places, hold);
        return 0;
    }

    private static void go(int cars, int car) {
        bounds("go", cars, 0, 5, (x, n) -> x.go(car, n));
    }

    // "A contact (0 .. 7) is open, or not"
    private static void contact(int cars, int car) {
        bounds("contact on", cars, 0, 7, (x, n) -> x.contact(car, n, true) ? 1 : 0);
        bounds("contact off", cars, 0, 7, (x, n) -> x.contact(car, n, false) ? 1 : 0);
        CarSteps x = lift(cars);
        for (int n : new int[] {LEAST, -1, 8, 32, GREATEST}) {
            CHECK.argument("contact " + n, () -> x.contact(car, n, true));
        }
        for (int k = 0; k < 8; k++) {
            CHECK.is("no contact was opened by a refused call", x.contact(car, k, false), false);
        }
        CHECK.is("NORMAL", x.told(car, 2), 0);
    }

    // "Its load (0 .. 10000)", "MOST (0 .. 10000)"
    private static void kilos(int cars, int car) {
        bounds("load", cars, 0, 10000, (x, n) -> x.load(car, n));
        kept("load", cars, 0, 10000, 0, (x, n) -> x.load(car, n));
        bounds("most", cars, 0, 10000, (x, n) -> x.most(car, n));
        kept("most", cars, 0, 10000, 1000, (x, n) -> x.most(car, n));
    }

    // "The fire floor, or (NONE) none"
    private static void fire(int cars, int car) {
        bounds("fire", cars, CarSteps.NONE, 5, (x, n) -> x.fire(car, n));
        kept("fire", cars, CarSteps.NONE, 5, CarSteps.NONE, (x, n) -> x.fire(car, n));
    }

    // "A ride for inspection: -1, 0, 1, OFF"
    private static void inspect(int cars, int car) {
        bounds("inspect", cars, -1, CarSteps.OFF, (x, n) -> x.inspect(car, n));
        kept("inspect", cars, -1, CarSteps.OFF, CarSteps.OFF, (x, n) -> x.inspect(car, n));
    }

    private static void told(int cars, int car) {
        bounds("told", cars, 0, 7, (x, n) -> x.told(car, n));
    }

    private static void wear(int cars, int car) {
        bounds("wear", cars, 0, 5, (x, n) -> x.wear(car, n));
    }

    // "So many STEPS (1 .. 1000): how many there were in all."
    private static void steps() {
        for (int cars = 0; cars <= 2; cars++) {
            bounds("steps", cars, 1, 1000, (x, n) -> x.steps(n));
            CarSteps x = lift(cars);
            CHECK.is("the least", x.steps(1), 1);
            CHECK.is("the greatest", x.steps(1000), 1001);
            for (int n : new int[] {LEAST, -1, 0, 1001, GREATEST}) {
                CHECK.argument("steps " + n, () -> x.steps(n));
            }
            CHECK.is("refused steps do not count", x.steps(1), 1002);
        }
    }

    // "there is no such car": without cars, with one and with two.
    private static void cars() {
        for (int cars = 0; cars <= 2; cars++) {
            carBounds("rates", cars, (x, n) -> rated(x, n, 100, 20, 40));
            carBounds("slow", cars, (x, n) -> slowed(x, n, 5, 10));
            carBounds("door", cars, (x, n) -> doored(x, n, 5, 20));
            carBounds("go", cars, (x, n) -> x.go(n, 0));
            carBounds("open", cars, (x, n) -> x.open(n) ? 1 : 0);
            carBounds("close", cars, (x, n) -> x.close(n) ? 1 : 0);
            carBounds("beam on", cars, (x, n) -> x.beam(n, true) ? 1 : 0);
            carBounds("beam off", cars, (x, n) -> x.beam(n, false) ? 1 : 0);
            carBounds("contact", cars, (x, n) -> x.contact(n, 0, true) ? 1 : 0);
            carBounds("load", cars, (x, n) -> x.load(n, 0));
            carBounds("most", cars, (x, n) -> x.most(n, 0));
            carBounds("fire", cars, (x, n) -> x.fire(n, 0));
            carBounds("inspect", cars, (x, n) -> x.inspect(n, 0));
            carBounds("told", cars, (x, n) -> x.told(n, 0));
            carBounds("wear", cars, (x, n) -> x.wear(n, 0));
        }
    }

    /** Bounds of a car's number. */
    private static void carBounds(String what, int cars, NumberCall call) {
        for (int car = 0; car < cars; car++) {
            allowed(what + " of car " + car, lift(cars), car, call);
        }
        CarSteps x = lift(cars);
        for (int n : new int[] {LEAST, -2, -1, cars, 2, 3, GREATEST}) {
            CHECK.argument(what + " of car " + n + " of " + cars, () -> call.on(x, n));
        }
    }

    // "An object is used for at most 512 calls after it has been made"
    private static void lastCallOfAnObject() {
        CarSteps x = new CarSteps(2);
        x.height(1, 100000);
        x.car(0);
        x.rates(0, 2000, 1000, 1000);
        x.slow(0, 1, 2000);
        x.inspect(0, 1);
        for (int k = 0; k < 252; k++) {
            x.steps(1000);
            x.inspect(0, k % 2 == 0 ? -1 : 1);
        }
        CHECK.is("call 510: all the ways are added", x.wear(0, 1), 25200000);
        CHECK.is("call 511: it started for each", x.wear(0, 0), 252);
        CHECK.is("call 512: all the steps are counted", x.steps(1000), 253000);
    }

    private BoundsTest() {
    }
}
