/** Compares answers with those that are due, prints each that differs, and ends the test. */
final class Check {
    private final String test;
    private String part = "";
    private int all;
    private int wrong;

    Check(String test) {
        this.test = test;
    }

    void part(String name) {
        part = name;
    }

    void due(String call, long got, long want) {
        all++;
        if (got != want) {
            wrong++;
            System.out.println(part + ": " + call + " answered " + got + ", due is " + want);
        }
    }

    void holds(String what, boolean is) {
        all++;
        if (!is) {
            wrong++;
            System.out.println(part + ": " + what + " does not hold");
        }
    }

    void end() {
        System.out.println(test + ": " + (all - wrong) + " of " + all + " answers are as due");
        if (wrong != 0 || all == 0) {
            System.exit(1);
        }
    }
}
