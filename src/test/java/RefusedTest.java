import java.util.ArrayList;
import java.util.List;

/**
 * In each scene every call that is refused: by the exception that the document names first, changing nothing.
 * "In all calls illegal argument: a number is out of its bounds, there is no such car. Illegal state: as told.
 * Of several exceptions the one named first is thrown; a call that throws changes nothing."
 */
public final class RefusedTest {
    private static final int LEAST = Integer.MIN_VALUE;
    private static final int GREATEST = Integer.MAX_VALUE;
    private static final Check CHECK = new Check();

    /** A call on a lift. */
    private interface Deed {
        void on(CarSteps x);
    }

    /** A call of a lift with one number that is tried. */
    private interface NumberDeed {
        void on(CarSteps x, int number);
    }

    private record Refused(String name, Deed deed, boolean byArgument) {
    }

    private final Scene scene;
    private final List<Refused> refused = new ArrayList<>();

    private RefusedTest(Scene scene) {
        this.scene = scene;
    }

    public static void main(String[] args) {
        for (Scene scene : Scene.all()) {
            new RefusedTest(scene).tryAll();
        }
        CHECK.end();
    }

    private void tryAll() {
        sceneIsAsNamed();
        shaftArguments();
        carsThatAreNotThere();
        shaftStates();
        for (int car = 0; car < scene.cars.length; car++) {
            settingArguments(car);
            tellingArguments(car);
            states(car);
        }
        String due = Answers.now(scene.lift(), scene.cars.length, scene.places);
        String dueLater = Answers.later(scene.lift(), scene.cars.length, scene.topFloor());
        for (Refused r : refused) {
            tryOne(r, due, dueLater);
        }
    }

    private void tryOne(Refused r, String due, String dueLater) {
        String what = scene.name + ": " + r.name;
        CarSteps x = scene.lift();
        if (r.byArgument) {
            CHECK.argument(what, () -> r.deed.on(x));
        } else {
            CHECK.state(what, () -> r.deed.on(x));
        }
        CHECK.text(what + ", then all that is asked", Answers.now(x, scene.cars.length, scene.places), due);
        CHECK.text(what + ", then steps", Answers.later(x, scene.cars.length, scene.topFloor()), dueLater);
    }

    /** The flags of a scene are written by hand: the lift must be in that state indeed. */
    private void sceneIsAsNamed() {
        CarSteps x = scene.lift();
        for (int car = 0; car < scene.cars.length; car++) {
            String what = scene.name + ": car " + car;
            CHECK.is(what + " goes", x.told(car, 1) != 0, scene.has(car, Scene.GOES));
            CHECK.is(what + " is not at a floor", x.told(car, 6) == CarSteps.NONE, scene.has(car, Scene.AWAY));
            CHECK.is(what + " is not CLOSED", x.told(car, 3) != 0, scene.has(car, Scene.DOOR));
            CHECK.is(what + " has 8 calls", x.told(car, 5) == 8, scene.has(car, Scene.FULL));
        }
        CHECK.argument(scene.name + ": no more cars", () -> x.told(scene.cars.length, 0));
    }

    private void argument(String name, Deed deed) {
        refused.add(new Refused(name, deed, true));
    }

    private void state(String name, Deed deed) {
        refused.add(new Refused(name, deed, false));
    }

    /** The least and the greatest int, and the first number on each side that is not allowed. */
    private void outside(String name, int low, int high, NumberDeed deed) {
        for (int n : new int[] {LEAST, low - 1, high + 1, GREATEST}) {
            argument(name + " " + n, x -> deed.on(x, n));
        }
    }

    private void shaftArguments() {
        int top = scene.topFloor();
        outside("height of floor", 0, top, (x, n) -> x.height(n, scene.places[top]));
        outside("height at place", 0, 100000, (x, n) -> x.height(top, n));
        outside("height of floor, at place -1", 0, top, (x, n) -> x.height(n, -1));
        outside("gap", 0, 10000, (x, n) -> x.gap(n));
        outside("car at floor", 0, top, (x, n) -> x.car(n));
        outside("steps", 1, 1000, (x, n) -> x.steps(n));
    }

    private void carsThatAreNotThere() {
        int top = scene.cars.length - 1;
        outside("rates of car", 0, top, (x, n) -> x.rates(n, 50, 5, 6));
        outside("slow of car", 0, top, (x, n) -> x.slow(n, 50, 60));
        outside("door of car", 0, top, (x, n) -> x.door(n, 9, 9));
        outside("go of car", 0, top, (x, n) -> x.go(n, 0));
        outside("open of car", 0, top, (x, n) -> x.open(n));
        outside("close of car", 0, top, (x, n) -> x.close(n));
        outside("beam of car", 0, top, (x, n) -> x.beam(n, true));
        outside("contact of car", 0, top, (x, n) -> x.contact(n, 0, true));
        outside("load of car", 0, top, (x, n) -> x.load(n, 5000));
        outside("most of car", 0, top, (x, n) -> x.most(n, 5000));
        outside("fire of car", 0, top, (x, n) -> x.fire(n, 0));
        outside("inspect of car", 0, top, (x, n) -> x.inspect(n, 1));
        outside("told of car", 0, top, (x, n) -> x.told(n, 0));
        outside("wear of car", 0, top, (x, n) -> x.wear(n, 0));
        argument("no car 2 ever", x -> x.go(2, 0));
    }

    private void settingArguments(int car) {
        outside("V of " + car, 1, 2000, (x, n) -> x.rates(car, n, 5, 6));
        // With g the same as b neither is refused for being above the other one.
        outside("g and b of " + car, 1, 1000, (x, n) -> x.rates(car, 50, n, n));
        outside("g of " + car, 1, 1000, (x, n) -> x.rates(car, 50, n, 1000));
        outside("b of " + car, 1, 1000, (x, n) -> x.rates(car, 50, 1, n));
        argument("g 2 above b 1", x -> x.rates(car, 50, 2, 1));
        argument("g 21 above b 20", x -> x.rates(car, 50, 21, 20));
        argument("g 1000 above b 999", x -> x.rates(car, 50, 1000, 999));
        outside("R of " + car, 1, 2000, (x, n) -> x.slow(car, n, 60));
        outside("I of " + car, 1, 2000, (x, n) -> x.slow(car, 50, n));
        outside("D of " + car, 1, 50, (x, n) -> x.door(car, n, 9));
        outside("HOLD of " + car, 0, 1000, (x, n) -> x.door(car, 9, n));
    }

    private void tellingArguments(int car) {
        outside("go of " + car, 0, scene.topFloor(), (x, n) -> x.go(car, n));
        outside("contact on of " + car, 0, 7, (x, n) -> x.contact(car, n, true));
        outside("contact off of " + car, 0, 7, (x, n) -> x.contact(car, n, false));
        outside("load of " + car, 0, 10000, (x, n) -> x.load(car, n));
        outside("most of " + car, 0, 10000, (x, n) -> x.most(car, n));
        outside("fire of " + car, CarSteps.NONE, scene.topFloor(), (x, n) -> x.fire(car, n));
        outside("inspect of " + car, -1, CarSteps.OFF, (x, n) -> x.inspect(car, n));
        outside("told of " + car, 0, 7, (x, n) -> x.told(car, n));
        outside("wear of " + car, 0, 5, (x, n) -> x.wear(car, n));
    }

    private void shaftStates() {
        if (scene.cars.length > 0) {
            for (int floor = 0; floor <= scene.topFloor(); floor++) {
                int k = floor;
                state("height with a car, of floor " + k, x -> x.height(k, scene.places[k]));
            }
            state("gap with a car", x -> x.gap(500));
            state("gap 0 with a car", x -> x.gap(0));
            state("gap 10000 with a car", x -> x.gap(10000));
            state("height with a car, on its neighbour", x -> x.height(scene.topFloor(), 0));
            state("a car on or below car 0", x -> x.car(0));
        }
        if (scene.cars.length == 2) {
            state("a third car", x -> x.car(scene.topFloor()));
        }
        if (scene.cars.length == 0 && scene.topFloor() > 0) {
            int top = scene.topFloor();
            state("height on the lower neighbour", x -> x.height(top, scene.places[top - 1]));
            state("height on the upper neighbour", x -> x.height(0, scene.places[1]));
            state("height beyond the upper neighbour", x -> x.height(0, 100000));
        }
    }

    private void states(int car) {
        if (scene.has(car, Scene.GOES)) {
            state("rates of " + car + ", which goes", x -> x.rates(car, 50, 5, 6));
            state("greatest rates of " + car + ", which goes", x -> x.rates(car, 2000, 1000, 1000));
            state("least rates of " + car + ", which goes", x -> x.rates(car, 1, 1, 1));
        }
        if (scene.has(car, Scene.GOES) || scene.has(car, Scene.AWAY)) {
            state("open of " + car, x -> x.open(car));
        }
        if (scene.has(car, Scene.DOOR)) {
            state("door of " + car + ", not CLOSED", x -> x.door(car, 9, 9));
            state("least door of " + car + ", not CLOSED", x -> x.door(car, 1, 0));
            state("greatest door of " + car + ", not CLOSED", x -> x.door(car, 50, 1000));
        }
        if (scene.has(car, Scene.FULL)) {
            state("go of " + car + " with 8 calls", x -> x.go(car, 0));
            state("go of " + car + " with 8 calls", x -> x.go(car, scene.topFloor()));
        }
    }
}
