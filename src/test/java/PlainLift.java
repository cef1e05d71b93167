import java.util.ArrayList;
import java.util.List;

/** The document written a second time, as plainly as can be: the measure for ModelTest. */
final class PlainLift {
    static final int ARGUMENT = Integer.MIN_VALUE;
    static final int STATE = Integer.MIN_VALUE + 1;

    /** One car of the plain lift; speed is below 0 when it goes down. */
    static final class PlainCar {
        int place;
        int speed = 0;
        int v = 100;
        int g = 20;
        int b = 40;
        int r = 5;
        int i = 10;
        String door = "CLOSED";
        int doorPlace = 0;
        int d = 5;
        int hold = 20;
        int openFor = 0;
        int most = 1000;
        int load = 0;
        boolean bar = false;
        boolean[] contacts = new boolean[8];
        int fire = -1;
        int ride = 2;
        List<Integer> calls = new ArrayList<>();
        int[] wear = new int[6];
    }

    final int[] floors;
    final List<PlainCar> cars = new ArrayList<>();
    int gap = 500;
    boolean power = true;
    int steps = 0;

    PlainLift(int f) {
        floors = new int[f < 1 ? 1 : f > 20 ? 20 : f];
        for (int k = 0; k < floors.length; k++) {
            floors[k] = 1000 * k;
        }
    }

    static int sum(int v, int g) {
        int all = 0;
        for (int x = v - g; x > 0; x -= g) {
            all += x;
        }
        return all;
    }

    private static boolean out(int x, int low, int high) {
        return x < low || x > high;
    }

    private boolean noCar(int car) {
        return out(car, 0, cars.size() - 1);
    }

    private boolean noFloor(int floor) {
        return out(floor, 0, floors.length - 1);
    }

    int height(int floor, int place) {
        if (noFloor(floor) || out(place, 0, 100000)) {
            return ARGUMENT;
        }
        if (!cars.isEmpty()) {
            return STATE;
        }
        if (floor > 0 && floors[floor - 1] >= place || floor + 1 < floors.length && floors[floor + 1] <= place) {
            return STATE;
        }
        int old = floors[floor];
        floors[floor] = place;
        return old;
    }

    int gap(int g) {
        if (out(g, 0, 10000)) {
            return ARGUMENT;
        }
        if (!cars.isEmpty()) {
            return STATE;
        }
        int old = gap;
        gap = g;
        return old;
    }

    int car(int floor) {
        if (noFloor(floor)) {
            return ARGUMENT;
        }
        if (cars.size() == 2) {
            return STATE;
        }
        if (cars.size() == 1) {
            PlainCar zero = cars.get(0);
            int stand = zero.place + (zero.speed > 0 ? sum(zero.speed, zero.b) : 0);
            if (floors[floor] < stand + gap) {
                return STATE;
            }
        }
        PlainCar made = new PlainCar();
        made.place = floors[floor];
        cars.add(made);
        return cars.size() - 1;
    }

    int rates(int car, int v, int g, int b) {
        if (noCar(car) || out(v, 1, 2000) || out(g, 1, 1000) || out(b, 1, 1000) || g > b) {
            return ARGUMENT;
        }
        PlainCar c = cars.get(car);
        if (c.speed != 0) {
            return STATE;
        }
        c.v = v;
        c.g = g;
        c.b = b;
        return 0;
    }

    int slow(int car, int r, int i) {
        if (noCar(car) || out(r, 1, 2000) || out(i, 1, 2000)) {
            return ARGUMENT;
        }
        cars.get(car).r = r;
        cars.get(car).i = i;
        return 0;
    }

    int door(int car, int places, int hold) {
        if (noCar(car) || out(places, 1, 50) || out(hold, 0, 1000)) {
            return ARGUMENT;
        }
        PlainCar c = cars.get(car);
        if (!c.door.equals("CLOSED")) {
            return STATE;
        }
        c.d = places;
        c.hold = hold;
        return 0;
    }

    int go(int car, int floor) {
        if (noCar(car) || noFloor(floor)) {
            return ARGUMENT;
        }
        PlainCar c = cars.get(car);
        if (c.calls.size() == 8) {
            return STATE;
        }
        c.calls.add(floor);
        return c.calls.size();
    }

    int open(int car) {
        if (noCar(car)) {
            return ARGUMENT;
        }
        PlainCar c = cars.get(car);
        if (c.speed != 0 || floorOf(c.place) < 0) {
            return STATE;
        }
        if (c.door.equals("OPENING") || c.door.equals("OPEN")) {
            return 0;
        }
        opening(c);
        return 1;
    }

    int close(int car) {
        if (noCar(car)) {
            return ARGUMENT;
        }
        PlainCar c = cars.get(car);
        if (!c.door.equals("OPEN") || c.bar || c.load > c.most) {
            return 0;
        }
        c.door = "CLOSING";
        return 1;
    }

    int beam(int car, boolean on) {
        if (noCar(car)) {
            return ARGUMENT;
        }
        PlainCar c = cars.get(car);
        int old = c.bar ? 1 : 0;
        c.bar = on;
        return old;
    }

    int contact(int car, int k, boolean on) {
        if (noCar(car) || out(k, 0, 7)) {
            return ARGUMENT;
        }
        PlainCar c = cars.get(car);
        int old = c.contacts[k] ? 1 : 0;
        c.contacts[k] = on;
        return old;
    }

    int load(int car, int kilos) {
        if (noCar(car) || out(kilos, 0, 10000)) {
            return ARGUMENT;
        }
        PlainCar c = cars.get(car);
        int old = c.load;
        c.load = kilos;
        return old;
    }

    int most(int car, int kilos) {
        if (noCar(car) || out(kilos, 0, 10000)) {
            return ARGUMENT;
        }
        PlainCar c = cars.get(car);
        int old = c.most;
        c.most = kilos;
        return old;
    }

    int fire(int car, int floor) {
        if (noCar(car) || floor != -1 && noFloor(floor)) {
            return ARGUMENT;
        }
        PlainCar c = cars.get(car);
        int old = c.fire;
        c.fire = floor;
        return old;
    }

    int inspect(int car, int way) {
        if (noCar(car) || out(way, -1, 2)) {
            return ARGUMENT;
        }
        PlainCar c = cars.get(car);
        int old = c.ride;
        c.ride = way;
        return old;
    }

    int power(boolean on) {
        int old = power ? 1 : 0;
        power = on;
        return old;
    }

    int steps(int n) {
        if (out(n, 1, 1000)) {
            return ARGUMENT;
        }
        for (int k = 0; k < n; k++) {
            for (int car = 0; car < cars.size(); car++) {
                step(car);
            }
            steps++;
        }
        return steps;
    }

    int told(int car, int what) {
        if (noCar(car) || out(what, 0, 7)) {
            return ARGUMENT;
        }
        PlainCar c = cars.get(car);
        return new int[] {c.place, c.speed, mode(c), List.of("CLOSED", "OPENING", "OPEN", "CLOSING").indexOf(c.door),
            c.doorPlace, c.calls.size(), floorOf(c.place), want(c)}[what];
    }

    int wear(int car, int what) {
        if (noCar(car) || out(what, 0, 5)) {
            return ARGUMENT;
        }
        return cars.get(car).wear[what];
    }

    private int floorOf(int place) {
        for (int k = 0; k < floors.length; k++) {
            if (floors[k] == place) {
                return k;
            }
        }
        return -1;
    }

    private static void opening(PlainCar c) {
        if (c.door.equals("CLOSED")) {
            c.wear[3]++;
        }
        if (c.door.equals("CLOSING")) {
            c.wear[4]++;
        }
        c.door = "OPENING";
    }

    private int mode(PlainCar c) {
        for (boolean open : c.contacts) {
            if (open) {
                return 1;
            }
        }
        return !power ? 2 : c.fire >= 0 ? 3 : c.ride != 2 ? 4 : 0;
    }

    private int want(PlainCar c) {
        int mode = mode(c);
        if (mode == 0 && !c.calls.isEmpty()) {
            return floors[c.calls.get(0)];
        }
        if (mode == 3) {
            return floors[c.fire];
        }
        if (mode == 4 && c.ride == 1) {
            return floors[floors.length - 1];
        }
        if (mode == 4 && c.ride == -1) {
            return floors[0];
        }
        if (mode == 2) {
            int best = floors[0];
            for (int place : floors) {
                if (Math.abs(place - c.place) < Math.abs(best - c.place)) {
                    best = place;
                }
            }
            return best;
        }
        return -1;
    }

    /** Whether car is FREE when it goes with u on its way, 1 or -1. */
    private boolean free(int car, int u, int way) {
        if (cars.size() < 2) {
            return true;
        }
        PlainCar c = cars.get(car);
        PlainCar other = cars.get(1 - car);
        int stop = c.place + way * (u + sum(u, c.b));
        if (car == 0) {
            int limit = other.place - (other.speed < 0 ? sum(-other.speed, other.b) : 0);
            return way < 0 || stop + gap <= limit;
        }
        int limit = other.place + (other.speed > 0 ? sum(other.speed, other.b) : 0);
        return way > 0 || stop - gap >= limit;
    }

    private int towardSpeed(int car, int far, int way, int limit) {
        PlainCar c = cars.get(car);
        int v = Math.abs(c.speed);
        int top = v > limit ? Math.max(limit, v - c.g) : Math.min(limit, v + c.g);
        for (int u = top; u >= v - c.b && u >= 0; u--) {
            if (u + sum(u, c.g) <= far && free(car, u, way)) {
                return u;
            }
        }
        return -1;
    }

    private int brakeSpeed(int car, int way, int fall) {
        PlainCar c = cars.get(car);
        int v = Math.abs(c.speed);
        for (int u = Math.max(0, v - fall); u >= v - c.b && u >= 0; u--) {
            if (free(car, u, way)) {
                return u;
            }
        }
        throw new AssertionError("no speed is free");
    }

    private void step(int car) {
        PlainCar c = cars.get(car);
        int mode = mode(c);
        int want = want(c);
        int v = Math.abs(c.speed);
        int way = c.speed > 0 ? 1 : c.speed < 0 ? -1 : want > c.place ? 1 : -1;
        boolean stays = v == 0 && (want < 0 || want == c.place || !c.door.equals("CLOSED") || c.load > c.most);
        int u = 0;
        if (!stays) {
            u = -1;
            if (want >= 0 && (want - c.place) * way > 0) {
                u = towardSpeed(car, Math.abs(want - c.place), way, mode == 2 ? c.r : mode == 4 ? c.i : c.v);
            }
            if (u < 0) {
                u = brakeSpeed(car, way, mode == 1 ? c.b : c.g);
            }
        }
        c.wear[0] += v == 0 && u > 0 ? 1 : 0;
        c.wear[1] += u;
        c.wear[2] += v - u > c.g ? 1 : 0;
        c.place += way * u;
        c.speed = way * u;
        if (u == 0 && want == c.place) {
            landing(c, mode);
        }
        if (mode != 1) {
            doorStep(c, mode, want == c.place);
        }
    }

    private static void landing(PlainCar c, int mode) {
        if (mode == 0) {
            c.calls.remove(0);
            c.wear[5]++;
        }
        if (mode == 0 || mode == 3 || mode == 2) {
            if (c.door.equals("CLOSED") || c.door.equals("CLOSING")) {
                opening(c);
            } else if (c.door.equals("OPEN")) {
                c.openFor = 0;
            }
        }
    }

    private static void doorStep(PlainCar c, int mode, boolean there) {
        boolean heavy = c.load > c.most;
        if (c.door.equals("OPENING")) {
            c.doorPlace = Math.min(c.d, c.doorPlace + 1);
            if (c.doorPlace == c.d) {
                c.door = "OPEN";
                c.openFor = 0;
            }
        } else if (c.door.equals("OPEN")) {
            c.openFor++;
            boolean normal = mode == 0 && c.openFor >= c.hold && !c.bar;
            boolean fire = mode == 3 && !there;
            if (!heavy && (normal || fire)) {
                c.door = "CLOSING";
            }
        } else if (c.door.equals("CLOSING")) {
            if (heavy || c.bar && mode != 3) {
                opening(c);
            } else {
                c.doorPlace--;
                if (c.doorPlace == 0) {
                    c.door = "CLOSED";
                }
            }
        }
    }
}
