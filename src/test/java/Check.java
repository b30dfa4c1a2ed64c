/** Counts answers that are not as due, prints them, and ends a test with 1 if there were any. */
final class Check {
    private static final int MOST_PRINTED = 50;
    private int wrong = 0;
    private int looked = 0;
    private String about = "";

    /** What the next answers are about. */
    void about(String text) {
        about = text;
    }

    void due(String call, long want, long got) {
        looked++;
        if (want != got) {
            tell(call + " answered " + got + ", due is " + want);
        }
    }

    void due(String call, String want, String got) {
        looked++;
        if (!want.equals(got)) {
            tell(call + " answered " + got + ", due is " + want);
        }
    }

    /** Calls by name; the call is told as it was where the answer is not the due one. */
    void call(long want, RobeHouse house, String name, long... args) {
        Calls.Call call = new Calls.Call(name, args);
        int got = Calls.answer(house, call);
        looked++;
        if (want != got) {
            tell(call + " answered " + got + ", due is " + want);
        }
    }

    int looked() {
        return looked;
    }

    void yes(String what, boolean holds) {
        looked++;
        if (!holds) {
            tell(what + " does not hold");
        }
    }

    private void tell(String text) {
        wrong++;
        if (wrong <= MOST_PRINTED) {
            System.out.println(about + ": " + text);
        }
    }

    boolean isClean() {
        return wrong == 0;
    }

    void end(String name) {
        System.out.println(name + ": " + looked + " answers looked at, " + wrong + " not as due");
        if (wrong != 0 || looked == 0) {
            System.exit(1);
        }
    }
}
