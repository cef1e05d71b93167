import java.util.ArrayList;
import java.util.List;

/** A state of a lift in which calls are refused, made by a few calls on a new object. */
final class Scene {
    // What makes calls of a car refused.
    static final int GOES = 1;
    static final int AWAY = 2;
    static final int DOOR = 4;
    static final int FULL = 8;

    /** The calls that make a scene. */
    interface Maker {
        void make(CarSteps x);
    }

    final String name;
    final int[] places;
    /** For each car that is there, what makes its calls refused. */
    final int[] cars;
    private final Maker maker;

    private Scene(String name, int[] places, int[] cars, Maker maker) {
        this.name = name;
        this.places = places;
        this.cars = cars;
        this.maker = maker;
    }

    CarSteps lift() {
        CarSteps x = new CarSteps(places.length);
        maker.make(x);
        return x;
    }

    int topFloor() {
        return places.length - 1;
    }

    boolean has(int car, int flag) {
        return (cars[car] & flag) != 0;
    }

    static List<Scene> all() {
        List<Scene> scenes = new ArrayList<>();
        addWithoutCars(scenes);
        addStanding(scenes);
        addGoing(scenes);
        addDoors(scenes);
        addTwoCars(scenes);
        return scenes;
    }

    private static int[] plainPlaces(int floors) {
        int[] places = new int[floors];
        for (int k = 0; k < floors; k++) {
            places[k] = 1000 * k;
        }
        return places;
    }

    private static int[] cars(int... flags) {
        return flags;
    }

    private static void addWithoutCars(List<Scene> scenes) {
        scenes.add(new Scene("no car", plainPlaces(6), cars(), x -> { }));
        scenes.add(new Scene("no car, one floor", plainPlaces(1), cars(), x -> { }));
        scenes.add(new Scene("no car, 20 floors", plainPlaces(20), cars(), x -> x.steps(3)));
        scenes.add(new Scene("no car, no power, other places", new int[] {7, 8, 900}, cars(), x -> {
            x.power(false);
            x.height(1, 8);
            x.height(0, 7);
            x.height(2, 900);
            x.gap(33);
        }));
    }

    private static void addStanding(List<Scene> scenes) {
        scenes.add(new Scene("a new car", plainPlaces(6), cars(0), x -> x.car(2)));
        scenes.add(new Scene("a new car, one floor", plainPlaces(1), cars(0), x -> x.car(0)));
        scenes.add(new Scene("a car with its own settings", plainPlaces(6), cars(0), x -> {
            x.car(2);
            x.rates(0, 77, 7, 11);
            x.slow(0, 3, 4);
            x.door(0, 2, 6);
            x.load(0, 1234);
            x.most(0, 4321);
            x.beam(0, true);
            x.go(0, 5);
        }));
        scenes.add(new Scene("8 calls", plainPlaces(6), cars(FULL), x -> {
            x.car(2);
            x.load(0, 1001);
            for (int k = 0; k < 8; k++) {
                x.go(0, k % 6);
            }
        }));
        scenes.add(new Scene("a car between floors, CHAIN", plainPlaces(6), cars(AWAY), x -> {
            x.car(2);
            x.go(0, 4);
            x.steps(5);
            x.contact(0, 3, true);
            x.steps(5);
        }));
    }

    private static void addGoing(List<Scene> scenes) {
        scenes.add(new Scene("a car that goes up", plainPlaces(6), cars(GOES | AWAY), x -> {
            x.car(1);
            x.go(0, 5);
            x.steps(3);
        }));
        scenes.add(new Scene("a car that goes down, 8 calls", plainPlaces(6), cars(GOES | AWAY | FULL), x -> {
            x.car(5);
            for (int k = 0; k < 8; k++) {
                x.go(0, 1);
            }
            x.steps(3);
        }));
        scenes.add(new Scene("a car that goes past a floor", plainPlaces(6), cars(GOES), x -> {
            x.car(0);
            x.go(0, 5);
            x.steps(12);
        }));
        scenes.add(new Scene("DARK", plainPlaces(6), cars(GOES | AWAY), x -> {
            x.car(0);
            x.go(0, 5);
            x.steps(8);
            x.power(false);
            x.steps(2);
        }));
        scenes.add(new Scene("FIRE", plainPlaces(6), cars(GOES | AWAY), x -> {
            x.car(3);
            x.fire(0, 0);
            x.steps(2);
        }));
        scenes.add(new Scene("INSPECTION", plainPlaces(6), cars(GOES | AWAY), x -> {
            x.car(3);
            x.inspect(0, -1);
            x.steps(2);
        }));
    }

    private static void addDoors(List<Scene> scenes) {
        scenes.add(new Scene("OPENING", plainPlaces(6), cars(DOOR), x -> {
            x.car(1);
            x.open(0);
            x.steps(2);
        }));
        scenes.add(new Scene("OPEN", plainPlaces(6), cars(DOOR), x -> {
            x.car(1);
            x.open(0);
            x.steps(9);
        }));
        scenes.add(new Scene("CLOSING, 8 calls", plainPlaces(6), cars(DOOR | FULL), x -> {
            x.car(1);
            x.open(0);
            x.steps(5);
            x.close(0);
            x.steps(2);
            for (int k = 0; k < 8; k++) {
                x.go(0, 3);
            }
        }));
    }

    private static void addTwoCars(List<Scene> scenes) {
        scenes.add(new Scene("two new cars", plainPlaces(6), cars(0, 0), x -> {
            x.car(1);
            x.car(4);
        }));
        scenes.add(new Scene("two cars toward each other", plainPlaces(6), cars(GOES | AWAY, GOES | AWAY), x -> {
            x.car(0);
            x.car(5);
            x.go(0, 5);
            x.go(1, 0);
            x.steps(4);
        }));
        scenes.add(new Scene("car 1 OPEN with 8 calls", plainPlaces(6), cars(0, DOOR | FULL), x -> {
            x.car(0);
            x.car(2);
            x.open(1);
            x.steps(7);
            for (int k = 0; k < 8; k++) {
                x.go(1, 5);
            }
        }));
        scenes.add(new Scene("car 1 between floors", plainPlaces(6), cars(DOOR, AWAY), x -> {
            x.car(0);
            x.car(2);
            x.go(1, 5);
            x.steps(5);
            x.contact(1, 0, true);
            x.steps(5);
            x.open(0);
        }));
    }
}
