/** What a lift answers, as a text: two lifts of which one was refused a call must give the same text. */
final class Answers {
    private static final int TOLD = 8;
    private static final int WEAR = 6;
    private static final int CONTACTS = 8;

    private final CarSteps lift;
    private final int cars;
    private final StringBuilder text = new StringBuilder();

    private Answers(CarSteps lift, int cars) {
        this.lift = lift;
        this.cars = cars;
    }

    /** All that can be asked now; what is changed for an "it was" is told back at once. */
    static String now(CarSteps lift, int cars, int[] places) {
        Answers a = new Answers(lift, cars);
        a.power();
        if (cars == 0) {
            a.shaft(places);
        }
        for (int car = 0; car < cars; car++) {
            a.asked(car);
            a.settings(car);
        }
        return a.text.toString();
    }

    /** What the steps behind it show: rates, slow speeds, door, HOLD, calls and the count of steps have no "it was". */
    static String later(CarSteps lift, int cars, int topFloor) {
        int moved = cars;
        if (cars == 0) {
            lift.car(0);
            moved = 1;
        }
        Answers a = new Answers(lift, moved);
        a.tryGo(topFloor);
        a.steps(1, 3);
        a.steps(5, 2);
        lift.power(false);
        a.steps(3, 2);
        lift.power(true);
        a.ride(1);
        a.steps(3, 2);
        a.ride(CarSteps.OFF);
        a.chain(true);
        a.steps(1, 3);
        a.chain(false);
        a.steps(40, 3);
        for (int car = 0; car < moved; car++) {
            a.wear(car);
        }
        return a.text.toString();
    }

    private void put(String what, int answer) {
        text.append(what).append(' ').append(answer).append("; ");
    }

    private void put(String what, boolean answer) {
        text.append(what).append(' ').append(answer).append("; ");
    }

    private void power() {
        boolean was = lift.power(true);
        lift.power(was);
        put("power", was);
    }

    private void shaft(int[] places) {
        int gap = lift.gap(0);
        lift.gap(gap);
        put("gap", gap);
        for (int k = 0; k < places.length; k++) {
            put("height " + k, lift.height(k, places[k]));
        }
    }

    private void asked(int car) {
        for (int what = 0; what < TOLD; what++) {
            put("told " + car + " " + what, lift.told(car, what));
        }
        wear(car);
    }

    private void wear(int car) {
        for (int what = 0; what < WEAR; what++) {
            put("wear " + car + " " + what, lift.wear(car, what));
        }
    }

    private void settings(int car) {
        int load = lift.load(car, 0);
        lift.load(car, load);
        put("load " + car, load);
        int most = lift.most(car, 0);
        lift.most(car, most);
        put("most " + car, most);
        int fire = lift.fire(car, CarSteps.NONE);
        lift.fire(car, fire);
        put("fire " + car, fire);
        int ride = lift.inspect(car, CarSteps.OFF);
        lift.inspect(car, ride);
        put("inspect " + car, ride);
        boolean broken = lift.beam(car, false);
        lift.beam(car, broken);
        put("beam " + car, broken);
        for (int k = 0; k < CONTACTS; k++) {
            boolean open = lift.contact(car, k, false);
            lift.contact(car, k, open);
            put("contact " + car + " " + k, open);
        }
    }

    private void tryGo(int topFloor) {
        for (int car = 0; car < cars; car++) {
            for (int floor : new int[] {topFloor, 0}) {
                int calls = lift.told(car, 5);
                put("go " + car, calls < 8 ? lift.go(car, floor) : calls);
            }
        }
    }

    private void ride(int way) {
        for (int car = 0; car < cars; car++) {
            lift.inspect(car, way);
        }
    }

    private void chain(boolean on) {
        for (int car = 0; car < cars; car++) {
            lift.contact(car, 7, on);
        }
    }

    private void steps(int n, int times) {
        for (int k = 0; k < times; k++) {
            put("steps", lift.steps(n));
            for (int car = 0; car < cars; car++) {
                put("place " + car, lift.told(car, 0));
                put("speed " + car, lift.told(car, 1));
                put("door " + car, lift.told(car, 3));
                put("its place " + car, lift.told(car, 4));
            }
        }
    }
}
