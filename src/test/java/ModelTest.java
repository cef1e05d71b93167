import java.util.Arrays;
import java.util.Random;

/** Long runs from fixed seeds: the class against the plain lift, call by call. */
public final class ModelTest {
    private static final int RUNS = 6000;
    // With the questions in between no object gets more than the 512 calls that are promised.
    private static final int CALLS = 136;
    private static final int QUESTIONS_ABOUT_A_CAR = 14;
    private static final int[] WILD = {-1, -2, 21, 1000000, Integer.MAX_VALUE, Integer.MIN_VALUE};
    private static final int[] STEPS = {1, 1, 1, 1, 2, 2, 3, 4, 5, 7, 11, 20, 40, 90, 1000};

    private final Check check;
    private final Random random;
    private final int floors;
    private final CarSteps lift;
    private final PlainLift plain;
    private final int run;
    private String call = "";

    private ModelTest(Check check, int run) {
        this.check = check;
        this.run = run;
        random = new Random(run);
        floors = run % 50 == 0 ? any(WILD) : run % 3 == 0 ? range(1, 4) : range(1, 20);
        lift = new CarSteps(floors);
        plain = new PlainLift(floors);
    }

    public static void main(String[] args) {
        Check check = new Check();
        int[] seen = new int[4];
        for (int run = 0; run < RUNS && check.isClean(); run++) {
            new ModelTest(check, run).go(seen);
        }
        System.out.println("refused, answered, landed, reopened: " + Arrays.toString(seen));
        for (int s : seen) {
            check.is("every kind of run was seen", s > 1000, true);
        }
        check.end();
    }

    private int range(int low, int high) {
        return low + random.nextInt(high - low + 1);
    }

    private int any(int[] row) {
        return row[random.nextInt(row.length)];
    }

    /** Mostly within the bounds, at times at their edges, rarely beyond them. */
    private int number(int low, int high) {
        int kind = random.nextInt(60);
        return kind == 0 ? any(WILD) : kind == 1 ? low - 1 : kind == 2 ? high + 1
            : kind == 3 ? low : kind == 4 ? high : range(low, high);
    }

    private int small(int low, int high) {
        return random.nextInt(3) > 0 ? number(low, Math.min(high, 4 * low + 40)) : number(low, high);
    }

    private int floor() {
        return number(0, plain.floors.length - 1);
    }

    private int carNumber() {
        return random.nextInt(80) == 0 ? any(WILD) : random.nextInt(40) == 0 ? 2 : random.nextInt(2);
    }

    private void go(int[] seen) {
        for (int k = 0; k < CALLS && check.isClean(); k++) {
            int kind = k < 12 ? random.nextInt(5) : k < 20 ? range(2, 6) : range(2, 34);
            int[] a = {carNumber(), 0, 0, 0};
            fill(kind, a);
            boolean on = random.nextInt(3) == 0;
            call = "run " + run + " call " + k + " (kind " + kind + " " + Arrays.toString(a) + " " + on + ")";
            int want = plainAnswer(kind, a, on);
            int got = answer(kind, a, on);
            check.is(call, got, want);
            seen[got <= PlainLift.STATE ? 0 : 1]++;
            look(k % 16 == 15);
        }
        for (PlainLift.PlainCar c : plain.cars) {
            seen[2] += c.wear[5];
            seen[3] += c.wear[4];
        }
    }

    private void fill(int kind, int[] a) {
        switch (kind) {
            case 0: a[0] = floor(); a[1] = random.nextInt(4) == 0 ? number(0, 100000) : number(0, 20000); break;
            case 1: a[0] = random.nextInt(4) == 0 ? 0 : small(0, 10000); break;
            case 2: a[0] = floor(); break;
            case 3: a[1] = number(1, 2000); a[2] = small(1, 1000);
                a[3] = random.nextInt(8) == 0 ? a[2] : number(Math.min(1000, Math.max(1, a[2])), 1000); break;
            case 4: a[1] = small(1, 2000); a[2] = small(1, 2000); break;
            case 5: a[1] = small(1, 50); a[2] = small(0, 1000); break;
            case 6: case 7: case 8: case 9: a[1] = floor(); break;
            case 13: case 14: a[1] = number(0, 7); break;
            case 15: case 16: a[1] = random.nextInt(3) > 0 ? number(0, 1000) : number(0, 10000); break;
            case 17: a[1] = random.nextInt(3) > 0 ? -1 : number(-1, plain.floors.length - 1); break;
            case 18: a[1] = random.nextInt(3) > 0 ? 2 : number(-1, 2); break;
            case 20: a[1] = number(0, 7); break;
            case 21: a[1] = number(0, 5); break;
            default: a[1] = random.nextInt(100) == 0 ? number(1, 1000) : any(STEPS); break;
        }
    }

    private int plainAnswer(int kind, int[] a, boolean on) {
        switch (kind) {
            case 0: return plain.height(a[0], a[1]);
            case 1: return plain.gap(a[0]);
            case 2: return plain.car(a[0]);
            case 3: return plain.rates(a[0], a[1], a[2], a[3]);
            case 4: return plain.slow(a[0], a[1], a[2]);
            case 5: return plain.door(a[0], a[1], a[2]);
            case 6: case 7: case 8: case 9: return plain.go(a[0], a[1]);
            case 10: return plain.open(a[0]);
            case 11: return plain.close(a[0]);
            case 12: return plain.beam(a[0], on);
            case 13: case 14: return plain.contact(a[0], kind == 13 ? a[1] : 0, kind == 13 && on);
            case 15: return plain.load(a[0], a[1]);
            case 16: return plain.most(a[0], a[1]);
            case 17: return plain.fire(a[0], a[1]);
            case 18: return plain.inspect(a[0], a[1]);
            case 19: return plain.power(!on);
            case 20: return plain.told(a[0], a[1]);
            case 21: return plain.wear(a[0], a[1]);
            default: return plain.steps(a[1]);
        }
    }

    private int answer(int kind, int[] a, boolean on) {
        try {
            return liftAnswer(kind, a, on);
        } catch (IllegalArgumentException e) {
            return PlainLift.ARGUMENT;
        } catch (IllegalStateException e) {
            return PlainLift.STATE;
        }
    }

    private int liftAnswer(int kind, int[] a, boolean on) {
        switch (kind) {
            case 0: return lift.height(a[0], a[1]);
            case 1: return lift.gap(a[0]);
            case 2: return lift.car(a[0]);
            case 3: lift.rates(a[0], a[1], a[2], a[3]); return 0;
            case 4: lift.slow(a[0], a[1], a[2]); return 0;
            case 5: lift.door(a[0], a[1], a[2]); return 0;
            case 6: case 7: case 8: case 9: return lift.go(a[0], a[1]);
            case 10: return one(lift.open(a[0]));
            case 11: return one(lift.close(a[0]));
            case 12: return one(lift.beam(a[0], on));
            case 13: case 14: return one(lift.contact(a[0], kind == 13 ? a[1] : 0, kind == 13 && on));
            case 15: return lift.load(a[0], a[1]);
            case 16: return lift.most(a[0], a[1]);
            case 17: return lift.fire(a[0], a[1]);
            case 18: return lift.inspect(a[0], a[1]);
            case 19: return one(lift.power(!on));
            case 20: return lift.told(a[0], a[1]);
            case 21: return lift.wear(a[0], a[1]);
            default: return lift.steps(a[1]);
        }
    }

    private static int one(boolean yes) {
        return yes ? 1 : 0;
    }

    /** Asks one thing, or all. */
    private void look(boolean all) {
        int questions = QUESTIONS_ABOUT_A_CAR * plain.cars.size();
        int one = questions == 0 ? 0 : random.nextInt(questions);
        for (int i = 0; i < questions; i++) {
            if (all || i == one) {
                ask(i / QUESTIONS_ABOUT_A_CAR, i % QUESTIONS_ABOUT_A_CAR);
            }
        }
        if (plain.cars.size() == 2 && plain.cars.get(1).place - plain.cars.get(0).place < plain.gap) {
            check.fault(call + " lets the cars come too near");
        }
    }

    private void ask(int car, int question) {
        boolean isTold = question < 8;
        int what = isTold ? question : question - 8;
        int due = isTold ? plain.told(car, what) : plain.wear(car, what);
        int got = isTold ? lift.told(car, what) : lift.wear(car, what);
        check.is(call + ", then car " + car + (isTold ? " told " : " wear ") + what, got, due);
    }
}
