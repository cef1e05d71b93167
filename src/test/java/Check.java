/** Counts and prints every answer that is not the one that is due. */
final class Check {
    /** A call whose exception, if any, is looked at. */
    interface Call {
        void run();
    }

    private int wrong = 0;
    private int looked = 0;

    void is(String what, int got, int due) {
        looked++;
        if (got != due) {
            fault(what + " answered " + got + ", due is " + due);
        }
    }

    void is(String what, boolean got, boolean due) {
        looked++;
        if (got != due) {
            fault(what + " answered " + got + ", due is " + due);
        }
    }

    void text(String what, String got, String due) {
        looked++;
        if (!got.equals(due)) {
            fault(what + " answered " + got + ", due is " + due);
        }
    }

    /** One step for each speed that is due. */
    void speeds(String what, CarSteps x, int car, int... due) {
        for (int k = 0; k < due.length; k++) {
            x.steps(1);
            is(what + ", speed in step " + (k + 1), x.told(car, 1), due[k]);
        }
    }

    void door(String what, CarSteps x, int car, int state, int place) {
        is(what + ", door", x.told(car, 3), state);
        is(what + ", place of the door", x.told(car, 4), place);
    }

    void argument(String what, Call call) {
        refused(what, call, IllegalArgumentException.class);
    }

    void state(String what, Call call) {
        refused(what, call, IllegalStateException.class);
    }

    private void refused(String what, Call call, Class<?> due) {
        looked++;
        Class<?> got = null;
        try {
            call.run();
        } catch (RuntimeException e) {
            got = e.getClass();
        }
        if (got != due) {
            fault(what + " throws " + got + ", due is " + due);
        }
    }

    void fault(String text) {
        wrong++;
        if (wrong <= 50) {
            System.out.println(text);
        }
    }

    boolean isClean() {
        return wrong == 0;
    }

    void end() {
        System.out.println(wrong == 0 ? looked + " answers are as due" : wrong + " answers are not as due");
        if (wrong != 0) {
            System.exit(1);
        }
    }
}
